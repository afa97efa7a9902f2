set_option maxHeartbeats 4000000 in
set_option maxRecDepth 100000 in
theorem lawc_12 {p : Program} {l : Launch} {e : Env} {s : State} {m : MethodId} {below : List Frame} {meth : Method} {c : Code} {b L : Nat} {xs : Nat → Int32} (C0 : lw_At p s m meth c b L xs) {D : va_G} {cI cJ : ClassId} {ad av a b' : Nat → Nat} (hX9 : SX ad av (fun q : Nat => s.heap.size ≤ q) s s.heap) (hK : va_K D vwCl (tyIJ cI cJ) s) {N : Nat} (hN : 600 < N) {x3 : Int32} (h1 : vp_in (x3 + 1) L) (h2 : vp_in (x3 + 2) L) (h3 : vp_in (x3 + 3) L) (h4 : vp_in (x3 + 4) L) {ls : Array Slot} (hl : lv_has ls 4 [(0, .ref b), (1, .ref (a 0)), (2, .ref (b' 0)), (3, .int x3)]) {H : Heap} {locs : List Loc} {τ : LSt} {σ ρ A : St} (hI : LI D cI cJ a b' s τ σ ρ A H locs) (fin : ∀ (τ : LSt) (σ ρ A : St) (H : Heap) (locs : List Loc), LI D cI cJ a b' s τ σ ρ A H locs → W p l e room_1 s m #[Value.ref b] below meth c H locs 38 707 (lw_Z below #[Value.ref b] s) (F0 m 1182 ls [])) : W p l e room_1 s m #[Value.ref b] below meth c H locs 38 707 (lw_Z below #[Value.ref b] s) (F0 m 538 ls []) := by
  obtain ⟨hx, hb, hr, hml, hown, hts0, hX, hbl, hlocks, hgv⟩ := C0
  have hts : ∀ w ∈ wsL_law, w.before #[Value.ref b] s = true := fun w h => hts0 w (wsL_law_in w h)
  have hown : s.vm.findClass RL = some m.cls := hown
  have hb : c.code = cL_law := hb
  have hA : ∀ q : Nat, s.heap.size ≤ q → (fun q : Nat => s.heap.size ≤ q) q := fun _ h => h
  have hbA : ¬ (fun q : Nat => s.heap.size ≤ q) b := Nat.not_le.mpr hbl
  obtain ⟨hP, hD, hS, hC, hM, hAI⟩ := hI
  refine lv_aload_n hx hb dL_law_538 rfl (lv_at hl 1 rfl) ?_
  refine L_arg (kv := 1) hx hb hX hbl hbA hS hl h1 dL_law_539 dL_law_540 dL_law_541 (by decide) dL_law_542 dL_law_543 ?_
  obtain ⟨z1, e1, e2⟩ := c_pull (N := N) (by omega) hC hAI (xs (x3 + 1).toNatClampNeg)
  refine L_X (As := [.int (xs (x3 + 1).toNatClampNeg)]) (rest := []) e1 (fun v z h => mX2_pull l D cI cJ a _ N τ σ (xs (x3 + 1).toNatClampNeg) (v, z) h) ⟨hx, hb, hml, hown, hts⟩ (cwV 1 hts gL_law_X2_pull rfl rfl rfl qX2_pull ⟨Nat.le_of_ble_eq_true rfl, Nat.le_of_ble_eq_true rfl⟩) hK hP hD hS hA rfl hl.1 rfl (Nat.le_of_ble_eq_true rfl) dL_law_544 ⟨Nat.le_refl _, Nat.le_refl _⟩ (fun H locs hP hD hS => ?_)
  refine lv_aload_n hx hb dL_law_547 rfl (lv_at hl 2 rfl) ?_
  refine L_arg (kv := 1) hx hb hX hbl hbA hS hl h1 dL_law_548 dL_law_549 dL_law_550 (by decide) dL_law_551 dL_law_552 ?_
  obtain ⟨z2, e3, e4⟩ := m_pull' (N := N) (by omega) hM hAI (xs (x3 + 1).toNatClampNeg)
  refine L_M (As := [.int (xs (x3 + 1).toNatClampNeg)]) (rest := [.int _]) e3 (fun v z h => mX3_pull l D cI cJ b' _ N ρ (xs (x3 + 1).toNatClampNeg) (v, z) h) ⟨hx, hb, hml, hown, hts⟩ (cwV 1 hts gL_law_X3_pull rfl rfl rfl qX3_pull ⟨Nat.le_of_ble_eq_true rfl, Nat.le_of_ble_eq_true rfl⟩) hK hP hD hS hA rfl hl.1 rfl (Nat.le_of_ble_eq_true rfl) dL_law_553 ⟨Nat.le_refl _, Nat.le_refl _⟩ (fun H locs hP hD hS => ?_)
  refine lv_icmp_eq (tgt := 1182) hx hb dL_law_556 (by decide) (fun _ => ?_) (fun q => absurd rfl q)
  exact fin τ z1 z2 _ H locs ⟨hP, hD, hS, e2, e4, a_pull hAI (xs (x3 + 1).toNatClampNeg)⟩
set_option maxHeartbeats 4000000 in
set_option maxRecDepth 100000 in
theorem lawc_13 {p : Program} {l : Launch} {e : Env} {s : State} {m : MethodId} {below : List Frame} {meth : Method} {c : Code} {b L : Nat} {xs : Nat → Int32} (C0 : lw_At p s m meth c b L xs) {D : va_G} {cI cJ : ClassId} {ad av a b' : Nat → Nat} (hX9 : SX ad av (fun q : Nat => s.heap.size ≤ q) s s.heap) (hK : va_K D vwCl (tyIJ cI cJ) s) {N : Nat} (hN : 600 < N) {x3 : Int32} (h1 : vp_in (x3 + 1) L) (h2 : vp_in (x3 + 2) L) (h3 : vp_in (x3 + 3) L) (h4 : vp_in (x3 + 4) L) {ls : Array Slot} (hl : lv_has ls 4 [(0, .ref b), (1, .ref (a 0)), (2, .ref (b' 0)), (3, .int x3)]) {H : Heap} {locs : List Loc} {τ : LSt} {σ ρ A : St} (hI : LI D cI cJ a b' s τ σ ρ A H locs) (fin : ∀ (τ : LSt) (σ ρ A : St) (H : Heap) (locs : List Loc), LI D cI cJ a b' s τ σ ρ A H locs → W p l e room_1 s m #[Value.ref b] below meth c H locs 38 707 (lw_Z below #[Value.ref b] s) (F0 m 1182 ls [])) : W p l e room_1 s m #[Value.ref b] below meth c H locs 38 707 (lw_Z below #[Value.ref b] s) (F0 m 561 ls []) := by
  obtain ⟨hx, hb, hr, hml, hown, hts0, hX, hbl, hlocks, hgv⟩ := C0
  have hts : ∀ w ∈ wsL_law, w.before #[Value.ref b] s = true := fun w h => hts0 w (wsL_law_in w h)
  have hown : s.vm.findClass RL = some m.cls := hown
  have hb : c.code = cL_law := hb
  have hA : ∀ q : Nat, s.heap.size ≤ q → (fun q : Nat => s.heap.size ≤ q) q := fun _ h => h
  have hbA : ¬ (fun q : Nat => s.heap.size ≤ q) b := Nat.not_le.mpr hbl
  obtain ⟨hP, hD, hS, hC, hM, hAI⟩ := hI
  refine lv_aload_n hx hb dL_law_561 rfl (lv_at hl 1 rfl) ?_
  obtain ⟨z1, e1, e2⟩ := c_meets (N := N) (by omega) hC hAI
  refine L_X (As := []) (rest := []) e1 (fun v z h => mX2_meets l D cI cJ a _ N τ σ (v, z) h) ⟨hx, hb, hml, hown, hts⟩ (cwV 0 hts gL_law_X2_meets rfl rfl rfl qX2_meets ⟨Nat.le_of_ble_eq_true rfl, Nat.le_of_ble_eq_true rfl⟩) hK hP hD hS hA rfl hl.1 rfl (Nat.le_of_ble_eq_true rfl) dL_law_562 ⟨Nat.le_refl _, Nat.le_refl _⟩ (fun H locs hP hD hS => ?_)
  refine lv_aload_n hx hb dL_law_565 rfl (lv_at hl 2 rfl) ?_
  obtain ⟨z2, e3, e4⟩ := m_meets (N := N) (by omega) hM hAI
  refine L_M (As := []) (rest := [.int _]) e3 (fun v z h => mX3_meets l D cI cJ b' _ N ρ (v, z) h) ⟨hx, hb, hml, hown, hts⟩ (cwV 0 hts gL_law_X3_meets rfl rfl rfl qX3_meets ⟨Nat.le_of_ble_eq_true rfl, Nat.le_of_ble_eq_true rfl⟩) hK hP hD hS hA rfl hl.1 rfl (Nat.le_of_ble_eq_true rfl) dL_law_566 ⟨Nat.le_refl _, Nat.le_refl _⟩ (fun H locs hP hD hS => ?_)
  refine lv_icmp_eq (tgt := 1182) hx hb dL_law_569 (by decide) (fun _ => ?_) (fun q => absurd rfl q)
  exact fin τ z1 z2 _ H locs ⟨hP, hD, hS, e2, e4, hAI⟩
set_option maxHeartbeats 4000000 in
set_option maxRecDepth 100000 in
theorem lawc_14 {p : Program} {l : Launch} {e : Env} {s : State} {m : MethodId} {below : List Frame} {meth : Method} {c : Code} {b L : Nat} {xs : Nat → Int32} (C0 : lw_At p s m meth c b L xs) {D : va_G} {cI cJ : ClassId} {ad av a b' : Nat → Nat} (hX9 : SX ad av (fun q : Nat => s.heap.size ≤ q) s s.heap) (hK : va_K D vwCl (tyIJ cI cJ) s) {N : Nat} (hN : 600 < N) {x3 : Int32} (h1 : vp_in (x3 + 1) L) (h2 : vp_in (x3 + 2) L) (h3 : vp_in (x3 + 3) L) (h4 : vp_in (x3 + 4) L) {ls : Array Slot} (hl : lv_has ls 4 [(0, .ref b), (1, .ref (a 0)), (2, .ref (b' 0)), (3, .int x3)]) {H : Heap} {locs : List Loc} {τ : LSt} {σ ρ A : St} (hI : LI D cI cJ a b' s τ σ ρ A H locs) (fin : ∀ (τ : LSt) (σ ρ A : St) (H : Heap) (locs : List Loc), LI D cI cJ a b' s τ σ ρ A H locs → W p l e room_1 s m #[Value.ref b] below meth c H locs 38 707 (lw_Z below #[Value.ref b] s) (F0 m 1182 ls [])) : W p l e room_1 s m #[Value.ref b] below meth c H locs 38 707 (lw_Z below #[Value.ref b] s) (F0 m 574 ls []) := by
  obtain ⟨hx, hb, hr, hml, hown, hts0, hX, hbl, hlocks, hgv⟩ := C0
  have hts : ∀ w ∈ wsL_law, w.before #[Value.ref b] s = true := fun w h => hts0 w (wsL_law_in w h)
  have hown : s.vm.findClass RL = some m.cls := hown
  have hb : c.code = cL_law := hb
  have hA : ∀ q : Nat, s.heap.size ≤ q → (fun q : Nat => s.heap.size ≤ q) q := fun _ h => h
  have hbA : ¬ (fun q : Nat => s.heap.size ≤ q) b := Nat.not_le.mpr hbl
  obtain ⟨hP, hD, hS, hC, hM, hAI⟩ := hI
  refine lv_aload_n hx hb dL_law_574 rfl (lv_at hl 1 rfl) ?_
  refine L_arg (kv := 1) hx hb hX hbl hbA hS hl h1 dL_law_575 dL_law_576 dL_law_577 (by decide) dL_law_578 dL_law_579 ?_
  refine L_arg (kv := 2) hx hb hX hbl hbA hS hl h2 dL_law_580 dL_law_581 dL_law_582 (by decide) dL_law_583 dL_law_584 ?_
  obtain ⟨z1, e1, e2⟩ := c_comes (N := N) (by omega) hC hAI (xs (x3 + 1).toNatClampNeg) (xs (x3 + 2).toNatClampNeg)
  refine L_X (As := [.int (xs (x3 + 1).toNatClampNeg), .int (xs (x3 + 2).toNatClampNeg)]) (rest := []) e1 (fun v z h => mX2_comes l D cI cJ a _ N τ σ (xs (x3 + 1).toNatClampNeg) (xs (x3 + 2).toNatClampNeg) (v, z) h) ⟨hx, hb, hml, hown, hts⟩ (cwV 2 hts gL_law_X2_comes rfl rfl rfl qX2_comes ⟨Nat.le_of_ble_eq_true rfl, Nat.le_of_ble_eq_true rfl⟩) hK hP hD hS hA rfl hl.1 rfl (Nat.le_of_ble_eq_true rfl) dL_law_585 ⟨Nat.le_refl _, Nat.le_refl _⟩ (fun H locs hP hD hS => ?_)
  refine lv_aload_n hx hb dL_law_588 rfl (lv_at hl 2 rfl) ?_
  refine L_arg (kv := 1) hx hb hX hbl hbA hS hl h1 dL_law_589 dL_law_590 dL_law_591 (by decide) dL_law_592 dL_law_593 ?_
  refine L_arg (kv := 2) hx hb hX hbl hbA hS hl h2 dL_law_594 dL_law_595 dL_law_596 (by decide) dL_law_597 dL_law_598 ?_
  obtain ⟨z2, e3, e4⟩ := m_comes (N := N) (by omega) hM hAI (xs (x3 + 1).toNatClampNeg) (xs (x3 + 2).toNatClampNeg)
  refine L_M (As := [.int (xs (x3 + 1).toNatClampNeg), .int (xs (x3 + 2).toNatClampNeg)]) (rest := [.int _]) e3 (fun v z h => mX3_comes l D cI cJ b' _ N ρ (xs (x3 + 1).toNatClampNeg) (xs (x3 + 2).toNatClampNeg) (v, z) h) ⟨hx, hb, hml, hown, hts⟩ (cwV 2 hts gL_law_X3_comes rfl rfl rfl qX3_comes ⟨Nat.le_of_ble_eq_true rfl, Nat.le_of_ble_eq_true rfl⟩) hK hP hD hS hA rfl hl.1 rfl (Nat.le_of_ble_eq_true rfl) dL_law_599 ⟨Nat.le_refl _, Nat.le_refl _⟩ (fun H locs hP hD hS => ?_)
  refine lv_icmp_eq (tgt := 1182) hx hb dL_law_602 (by decide) (fun _ => ?_) (fun q => absurd rfl q)
  exact fin τ z1 z2 _ H locs ⟨hP, hD, hS, e2, e4, a_comes hAI (xs (x3 + 1).toNatClampNeg) (xs (x3 + 2).toNatClampNeg)⟩
set_option maxHeartbeats 4000000 in
set_option maxRecDepth 100000 in
theorem lawc_15 {p : Program} {l : Launch} {e : Env} {s : State} {m : MethodId} {below : List Frame} {meth : Method} {c : Code} {b L : Nat} {xs : Nat → Int32} (C0 : lw_At p s m meth c b L xs) {D : va_G} {cI cJ : ClassId} {ad av a b' : Nat → Nat} (hX9 : SX ad av (fun q : Nat => s.heap.size ≤ q) s s.heap) (hK : va_K D vwCl (tyIJ cI cJ) s) {N : Nat} (hN : 600 < N) {x3 : Int32} (h1 : vp_in (x3 + 1) L) (h2 : vp_in (x3 + 2) L) (h3 : vp_in (x3 + 3) L) (h4 : vp_in (x3 + 4) L) {ls : Array Slot} (hl : lv_has ls 4 [(0, .ref b), (1, .ref (a 0)), (2, .ref (b' 0)), (3, .int x3)]) {H : Heap} {locs : List Loc} {τ : LSt} {σ ρ A : St} (hI : LI D cI cJ a b' s τ σ ρ A H locs) (fin : ∀ (τ : LSt) (σ ρ A : St) (H : Heap) (locs : List Loc), LI D cI cJ a b' s τ σ ρ A H locs → W p l e room_1 s m #[Value.ref b] below meth c H locs 38 707 (lw_Z below #[Value.ref b] s) (F0 m 1182 ls [])) : W p l e room_1 s m #[Value.ref b] below meth c H locs 38 707 (lw_Z below #[Value.ref b] s) (F0 m 607 ls []) := by
  obtain ⟨hx, hb, hr, hml, hown, hts0, hX, hbl, hlocks, hgv⟩ := C0
  have hts : ∀ w ∈ wsL_law, w.before #[Value.ref b] s = true := fun w h => hts0 w (wsL_law_in w h)
  have hown : s.vm.findClass RL = some m.cls := hown
  have hb : c.code = cL_law := hb
  have hA : ∀ q : Nat, s.heap.size ≤ q → (fun q : Nat => s.heap.size ≤ q) q := fun _ h => h
  have hbA : ¬ (fun q : Nat => s.heap.size ≤ q) b := Nat.not_le.mpr hbl
  obtain ⟨hP, hD, hS, hC, hM, hAI⟩ := hI
  refine lv_aload_n hx hb dL_law_607 rfl (lv_at hl 1 rfl) ?_
  refine L_arg (kv := 1) hx hb hX hbl hbA hS hl h1 dL_law_608 dL_law_609 dL_law_610 (by decide) dL_law_611 dL_law_612 ?_
  obtain ⟨z1, e1, e2⟩ := c_strikes (N := N) (by omega) hC hAI (xs (x3 + 1).toNatClampNeg)
  refine L_X (As := [.int (xs (x3 + 1).toNatClampNeg)]) (rest := []) e1 (fun v z h => mX2_strikes l D cI cJ a _ N τ σ (xs (x3 + 1).toNatClampNeg) (v, z) h) ⟨hx, hb, hml, hown, hts⟩ (cwV 1 hts gL_law_X2_strikes rfl rfl rfl qX2_strikes ⟨Nat.le_of_ble_eq_true rfl, Nat.le_of_ble_eq_true rfl⟩) hK hP hD hS hA rfl hl.1 rfl (Nat.le_of_ble_eq_true rfl) dL_law_613 ⟨Nat.le_refl _, Nat.le_refl _⟩ (fun H locs hP hD hS => ?_)
  refine lv_aload_n hx hb dL_law_616 rfl (lv_at hl 2 rfl) ?_
  refine L_arg (kv := 1) hx hb hX hbl hbA hS hl h1 dL_law_617 dL_law_618 dL_law_619 (by decide) dL_law_620 dL_law_621 ?_
  obtain ⟨z2, e3, e4⟩ := m_strikes (N := N) (by omega) hM hAI (xs (x3 + 1).toNatClampNeg)
  refine L_M (As := [.int (xs (x3 + 1).toNatClampNeg)]) (rest := [.int _]) e3 (fun v z h => mX3_strikes l D cI cJ b' _ N ρ (xs (x3 + 1).toNatClampNeg) (v, z) h) ⟨hx, hb, hml, hown, hts⟩ (cwV 1 hts gL_law_X3_strikes rfl rfl rfl qX3_strikes ⟨Nat.le_of_ble_eq_true rfl, Nat.le_of_ble_eq_true rfl⟩) hK hP hD hS hA rfl hl.1 rfl (Nat.le_of_ble_eq_true rfl) dL_law_622 ⟨Nat.le_refl _, Nat.le_refl _⟩ (fun H locs hP hD hS => ?_)
  refine lv_icmp_eq (tgt := 1182) hx hb dL_law_625 (by decide) (fun _ => ?_) (fun q => absurd rfl q)
  exact fin τ z1 z2 _ H locs ⟨hP, hD, hS, e2, e4, a_strikes hAI (xs (x3 + 1).toNatClampNeg)⟩
set_option maxHeartbeats 4000000 in
set_option maxRecDepth 100000 in
theorem lawc_16 {p : Program} {l : Launch} {e : Env} {s : State} {m : MethodId} {below : List Frame} {meth : Method} {c : Code} {b L : Nat} {xs : Nat → Int32} (C0 : lw_At p s m meth c b L xs) {D : va_G} {cI cJ : ClassId} {ad av a b' : Nat → Nat} (hX9 : SX ad av (fun q : Nat => s.heap.size ≤ q) s s.heap) (hK : va_K D vwCl (tyIJ cI cJ) s) {N : Nat} (hN : 600 < N) {x3 : Int32} (h1 : vp_in (x3 + 1) L) (h2 : vp_in (x3 + 2) L) (h3 : vp_in (x3 + 3) L) (h4 : vp_in (x3 + 4) L) {ls : Array Slot} (hl : lv_has ls 4 [(0, .ref b), (1, .ref (a 0)), (2, .ref (b' 0)), (3, .int x3)]) {H : Heap} {locs : List Loc} {τ : LSt} {σ ρ A : St} (hI : LI D cI cJ a b' s τ σ ρ A H locs) (fin : ∀ (τ : LSt) (σ ρ A : St) (H : Heap) (locs : List Loc), LI D cI cJ a b' s τ σ ρ A H locs → W p l e room_1 s m #[Value.ref b] below meth c H locs 38 707 (lw_Z below #[Value.ref b] s) (F0 m 1182 ls [])) : W p l e room_1 s m #[Value.ref b] below meth c H locs 38 707 (lw_Z below #[Value.ref b] s) (F0 m 630 ls []) := by
  obtain ⟨hx, hb, hr, hml, hown, hts0, hX, hbl, hlocks, hgv⟩ := C0
  have hts : ∀ w ∈ wsL_law, w.before #[Value.ref b] s = true := fun w h => hts0 w (wsL_law_in w h)
  have hown : s.vm.findClass RL = some m.cls := hown
  have hb : c.code = cL_law := hb
  have hA : ∀ q : Nat, s.heap.size ≤ q → (fun q : Nat => s.heap.size ≤ q) q := fun _ h => h
  have hbA : ¬ (fun q : Nat => s.heap.size ≤ q) b := Nat.not_le.mpr hbl
  obtain ⟨hP, hD, hS, hC, hM, hAI⟩ := hI
  refine lv_aload_n hx hb dL_law_630 rfl (lv_at hl 1 rfl) ?_
  refine L_arg (kv := 1) hx hb hX hbl hbA hS hl h1 dL_law_631 dL_law_632 dL_law_633 (by decide) dL_law_634 dL_law_635 ?_
  obtain ⟨z1, e1, e2⟩ := c_door (N := N) (by omega) hC hAI (xs (x3 + 1).toNatClampNeg)
  refine L_X (As := [.int (xs (x3 + 1).toNatClampNeg)]) (rest := []) e1 (fun v z h => mX2_door l D cI cJ a _ N τ σ (xs (x3 + 1).toNatClampNeg) (v, z) h) ⟨hx, hb, hml, hown, hts⟩ (cwV 1 hts gL_law_X2_door rfl rfl rfl qX2_door ⟨Nat.le_of_ble_eq_true rfl, Nat.le_of_ble_eq_true rfl⟩) hK hP hD hS hA rfl hl.1 rfl (Nat.le_of_ble_eq_true rfl) dL_law_636 ⟨Nat.le_refl _, Nat.le_refl _⟩ (fun H locs hP hD hS => ?_)
  refine lv_aload_n hx hb dL_law_639 rfl (lv_at hl 2 rfl) ?_
  refine L_arg (kv := 1) hx hb hX hbl hbA hS hl h1 dL_law_640 dL_law_641 dL_law_642 (by decide) dL_law_643 dL_law_644 ?_
  obtain ⟨z2, e3, e4⟩ := m_door (N := N) (by omega) hM hAI (xs (x3 + 1).toNatClampNeg)
  refine L_M (As := [.int (xs (x3 + 1).toNatClampNeg)]) (rest := [.int _]) e3 (fun v z h => mX3_door l D cI cJ b' _ N ρ (xs (x3 + 1).toNatClampNeg) (v, z) h) ⟨hx, hb, hml, hown, hts⟩ (cwV 1 hts gL_law_X3_door rfl rfl rfl qX3_door ⟨Nat.le_of_ble_eq_true rfl, Nat.le_of_ble_eq_true rfl⟩) hK hP hD hS hA rfl hl.1 rfl (Nat.le_of_ble_eq_true rfl) dL_law_645 ⟨Nat.le_refl _, Nat.le_refl _⟩ (fun H locs hP hD hS => ?_)
  refine lv_icmp_eq (tgt := 1182) hx hb dL_law_648 (by decide) (fun _ => ?_) (fun q => absurd rfl q)
  exact fin τ z1 z2 _ H locs ⟨hP, hD, hS, e2, e4, a_door hAI (xs (x3 + 1).toNatClampNeg)⟩
set_option maxHeartbeats 4000000 in
set_option maxRecDepth 100000 in
theorem lawc_17 {p : Program} {l : Launch} {e : Env} {s : State} {m : MethodId} {below : List Frame} {meth : Method} {c : Code} {b L : Nat} {xs : Nat → Int32} (C0 : lw_At p s m meth c b L xs) {D : va_G} {cI cJ : ClassId} {ad av a b' : Nat → Nat} (hX9 : SX ad av (fun q : Nat => s.heap.size ≤ q) s s.heap) (hK : va_K D vwCl (tyIJ cI cJ) s) {N : Nat} (hN : 600 < N) {x3 : Int32} (h1 : vp_in (x3 + 1) L) (h2 : vp_in (x3 + 2) L) (h3 : vp_in (x3 + 3) L) (h4 : vp_in (x3 + 4) L) {ls : Array Slot} (hl : lv_has ls 4 [(0, .ref b), (1, .ref (a 0)), (2, .ref (b' 0)), (3, .int x3)]) {H : Heap} {locs : List Loc} {τ : LSt} {σ ρ A : St} (hI : LI D cI cJ a b' s τ σ ρ A H locs) (fin : ∀ (τ : LSt) (σ ρ A : St) (H : Heap) (locs : List Loc), LI D cI cJ a b' s τ σ ρ A H locs → W p l e room_1 s m #[Value.ref b] below meth c H locs 38 707 (lw_Z below #[Value.ref b] s) (F0 m 1182 ls [])) : W p l e room_1 s m #[Value.ref b] below meth c H locs 38 707 (lw_Z below #[Value.ref b] s) (F0 m 653 ls []) := by
  obtain ⟨hx, hb, hr, hml, hown, hts0, hX, hbl, hlocks, hgv⟩ := C0
  have hts : ∀ w ∈ wsL_law, w.before #[Value.ref b] s = true := fun w h => hts0 w (wsL_law_in w h)
  have hown : s.vm.findClass RL = some m.cls := hown
  have hb : c.code = cL_law := hb
  have hA : ∀ q : Nat, s.heap.size ≤ q → (fun q : Nat => s.heap.size ≤ q) q := fun _ h => h
  have hbA : ¬ (fun q : Nat => s.heap.size ≤ q) b := Nat.not_le.mpr hbl
  obtain ⟨hP, hD, hS, hC, hM, hAI⟩ := hI
  refine lv_aload_n hx hb dL_law_653 rfl (lv_at hl 1 rfl) ?_
  refine L_arg (kv := 1) hx hb hX hbl hbA hS hl h1 dL_law_654 dL_law_655 dL_law_656 (by decide) dL_law_657 dL_law_658 ?_
  obtain ⟨z1, e1, e2⟩ := c_level (N := N) (by omega) hC hAI (xs (x3 + 1).toNatClampNeg)
  refine L_X (As := [.int (xs (x3 + 1).toNatClampNeg)]) (rest := []) e1 (fun v z h => mX2_level l D cI cJ a _ N τ σ (xs (x3 + 1).toNatClampNeg) (v, z) h) ⟨hx, hb, hml, hown, hts⟩ (cwV 1 hts gL_law_X2_level rfl rfl rfl qX2_level ⟨Nat.le_of_ble_eq_true rfl, Nat.le_of_ble_eq_true rfl⟩) hK hP hD hS hA rfl hl.1 rfl (Nat.le_of_ble_eq_true rfl) dL_law_659 ⟨Nat.le_refl _, Nat.le_refl _⟩ (fun H locs hP hD hS => ?_)
  refine lv_aload_n hx hb dL_law_662 rfl (lv_at hl 2 rfl) ?_
  refine L_arg (kv := 1) hx hb hX hbl hbA hS hl h1 dL_law_663 dL_law_664 dL_law_665 (by decide) dL_law_666 dL_law_667 ?_
  obtain ⟨z2, e3, e4⟩ := m_level (N := N) (by omega) hM hAI (xs (x3 + 1).toNatClampNeg)
  refine L_M (As := [.int (xs (x3 + 1).toNatClampNeg)]) (rest := [.int _]) e3 (fun v z h => mX3_level l D cI cJ b' _ N ρ (xs (x3 + 1).toNatClampNeg) (v, z) h) ⟨hx, hb, hml, hown, hts⟩ (cwV 1 hts gL_law_X3_level rfl rfl rfl qX3_level ⟨Nat.le_of_ble_eq_true rfl, Nat.le_of_ble_eq_true rfl⟩) hK hP hD hS hA rfl hl.1 rfl (Nat.le_of_ble_eq_true rfl) dL_law_668 ⟨Nat.le_refl _, Nat.le_refl _⟩ (fun H locs hP hD hS => ?_)
  refine lv_icmp_eq (tgt := 1182) hx hb dL_law_671 (by decide) (fun _ => ?_) (fun q => absurd rfl q)
  exact fin τ z1 z2 _ H locs ⟨hP, hD, hS, e2, e4, a_level hAI (xs (x3 + 1).toNatClampNeg)⟩
set_option maxHeartbeats 4000000 in
set_option maxRecDepth 100000 in
theorem lawc_18 {p : Program} {l : Launch} {e : Env} {s : State} {m : MethodId} {below : List Frame} {meth : Method} {c : Code} {b L : Nat} {xs : Nat → Int32} (C0 : lw_At p s m meth c b L xs) {D : va_G} {cI cJ : ClassId} {ad av a b' : Nat → Nat} (hX9 : SX ad av (fun q : Nat => s.heap.size ≤ q) s s.heap) (hK : va_K D vwCl (tyIJ cI cJ) s) {N : Nat} (hN : 600 < N) {x3 : Int32} (h1 : vp_in (x3 + 1) L) (h2 : vp_in (x3 + 2) L) (h3 : vp_in (x3 + 3) L) (h4 : vp_in (x3 + 4) L) {ls : Array Slot} (hl : lv_has ls 4 [(0, .ref b), (1, .ref (a 0)), (2, .ref (b' 0)), (3, .int x3)]) {H : Heap} {locs : List Loc} {τ : LSt} {σ ρ A : St} (hI : LI D cI cJ a b' s τ σ ρ A H locs) (fin : ∀ (τ : LSt) (σ ρ A : St) (H : Heap) (locs : List Loc), LI D cI cJ a b' s τ σ ρ A H locs → W p l e room_1 s m #[Value.ref b] below meth c H locs 38 707 (lw_Z below #[Value.ref b] s) (F0 m 1182 ls [])) : W p l e room_1 s m #[Value.ref b] below meth c H locs 38 707 (lw_Z below #[Value.ref b] s) (F0 m 676 ls []) := by
  obtain ⟨hx, hb, hr, hml, hown, hts0, hX, hbl, hlocks, hgv⟩ := C0
  have hts : ∀ w ∈ wsL_law, w.before #[Value.ref b] s = true := fun w h => hts0 w (wsL_law_in w h)
  have hown : s.vm.findClass RL = some m.cls := hown
  have hb : c.code = cL_law := hb
  have hA : ∀ q : Nat, s.heap.size ≤ q → (fun q : Nat => s.heap.size ≤ q) q := fun _ h => h
  have hbA : ¬ (fun q : Nat => s.heap.size ≤ q) b := Nat.not_le.mpr hbl
  obtain ⟨hP, hD, hS, hC, hM, hAI⟩ := hI
  refine lv_aload_n hx hb dL_law_676 rfl (lv_at hl 1 rfl) ?_
  refine L_arg (kv := 1) hx hb hX hbl hbA hS hl h1 dL_law_677 dL_law_678 dL_law_679 (by decide) dL_law_680 dL_law_681 ?_
  obtain ⟨z1, e1, e2⟩ := c_take (N := N) (by omega) hC hAI (xs (x3 + 1).toNatClampNeg)
  refine L_X (As := [.int (xs (x3 + 1).toNatClampNeg)]) (rest := []) e1 (fun v z h => mX2_take l D cI cJ a _ N τ σ (xs (x3 + 1).toNatClampNeg) (v, z) h) ⟨hx, hb, hml, hown, hts⟩ (cwV 1 hts gL_law_X2_take rfl rfl rfl qX2_take ⟨Nat.le_of_ble_eq_true rfl, Nat.le_of_ble_eq_true rfl⟩) hK hP hD hS hA rfl hl.1 rfl (Nat.le_of_ble_eq_true rfl) dL_law_682 ⟨Nat.le_refl _, Nat.le_refl _⟩ (fun H locs hP hD hS => ?_)
  refine lv_aload_n hx hb dL_law_685 rfl (lv_at hl 2 rfl) ?_
  refine L_arg (kv := 1) hx hb hX hbl hbA hS hl h1 dL_law_686 dL_law_687 dL_law_688 (by decide) dL_law_689 dL_law_690 ?_
  obtain ⟨z2, e3, e4⟩ := m_take (N := N) (by omega) hM hAI (xs (x3 + 1).toNatClampNeg)
  refine L_M (As := [.int (xs (x3 + 1).toNatClampNeg)]) (rest := [.int _]) e3 (fun v z h => mX3_take l D cI cJ b' _ N ρ (xs (x3 + 1).toNatClampNeg) (v, z) h) ⟨hx, hb, hml, hown, hts⟩ (cwV 1 hts gL_law_X3_take rfl rfl rfl qX3_take ⟨Nat.le_of_ble_eq_true rfl, Nat.le_of_ble_eq_true rfl⟩) hK hP hD hS hA rfl hl.1 rfl (Nat.le_of_ble_eq_true rfl) dL_law_691 ⟨Nat.le_refl _, Nat.le_refl _⟩ (fun H locs hP hD hS => ?_)
  refine lv_icmp_eq (tgt := 1182) hx hb dL_law_694 (by decide) (fun _ => ?_) (fun q => absurd rfl q)
  exact fin τ z1 z2 _ H locs ⟨hP, hD, hS, e2, e4, a_take hAI (xs (x3 + 1).toNatClampNeg)⟩
set_option maxHeartbeats 4000000 in
set_option maxRecDepth 100000 in
theorem lawc_19 {p : Program} {l : Launch} {e : Env} {s : State} {m : MethodId} {below : List Frame} {meth : Method} {c : Code} {b L : Nat} {xs : Nat → Int32} (C0 : lw_At p s m meth c b L xs) {D : va_G} {cI cJ : ClassId} {ad av a b' : Nat → Nat} (hX9 : SX ad av (fun q : Nat => s.heap.size ≤ q) s s.heap) (hK : va_K D vwCl (tyIJ cI cJ) s) {N : Nat} (hN : 600 < N) {x3 : Int32} (h1 : vp_in (x3 + 1) L) (h2 : vp_in (x3 + 2) L) (h3 : vp_in (x3 + 3) L) (h4 : vp_in (x3 + 4) L) {ls : Array Slot} (hl : lv_has ls 4 [(0, .ref b), (1, .ref (a 0)), (2, .ref (b' 0)), (3, .int x3)]) {H : Heap} {locs : List Loc} {τ : LSt} {σ ρ A : St} (hI : LI D cI cJ a b' s τ σ ρ A H locs) (fin : ∀ (τ : LSt) (σ ρ A : St) (H : Heap) (locs : List Loc), LI D cI cJ a b' s τ σ ρ A H locs → W p l e room_1 s m #[Value.ref b] below meth c H locs 38 707 (lw_Z below #[Value.ref b] s) (F0 m 1182 ls [])) : W p l e room_1 s m #[Value.ref b] below meth c H locs 38 707 (lw_Z below #[Value.ref b] s) (F0 m 699 ls []) := by
  obtain ⟨hx, hb, hr, hml, hown, hts0, hX, hbl, hlocks, hgv⟩ := C0
  have hts : ∀ w ∈ wsL_law, w.before #[Value.ref b] s = true := fun w h => hts0 w (wsL_law_in w h)
  have hown : s.vm.findClass RL = some m.cls := hown
  have hb : c.code = cL_law := hb
  have hA : ∀ q : Nat, s.heap.size ≤ q → (fun q : Nat => s.heap.size ≤ q) q := fun _ h => h
  have hbA : ¬ (fun q : Nat => s.heap.size ≤ q) b := Nat.not_le.mpr hbl
  obtain ⟨hP, hD, hS, hC, hM, hAI⟩ := hI
  refine lv_aload_n hx hb dL_law_699 rfl (lv_at hl 1 rfl) ?_
  refine L_arg (kv := 1) hx hb hX hbl hbA hS hl h1 dL_law_700 dL_law_701 dL_law_702 (by decide) dL_law_703 dL_law_704 ?_
  obtain ⟨z1, e1, e2⟩ := c_hang (N := N) (by omega) hC hAI (xs (x3 + 1).toNatClampNeg)
  refine L_X (As := [.int (xs (x3 + 1).toNatClampNeg)]) (rest := []) e1 (fun v z h => mX2_hang l D cI cJ a _ N τ σ (xs (x3 + 1).toNatClampNeg) (v, z) h) ⟨hx, hb, hml, hown, hts⟩ (cwV 1 hts gL_law_X2_hang rfl rfl rfl qX2_hang ⟨Nat.le_of_ble_eq_true rfl, Nat.le_of_ble_eq_true rfl⟩) hK hP hD hS hA rfl hl.1 rfl (Nat.le_of_ble_eq_true rfl) dL_law_705 ⟨Nat.le_refl _, Nat.le_refl _⟩ (fun H locs hP hD hS => ?_)
  refine lv_aload_n hx hb dL_law_708 rfl (lv_at hl 2 rfl) ?_
  refine L_arg (kv := 1) hx hb hX hbl hbA hS hl h1 dL_law_709 dL_law_710 dL_law_711 (by decide) dL_law_712 dL_law_713 ?_
  obtain ⟨z2, e3, e4⟩ := m_hang (N := N) (by omega) hM hAI (xs (x3 + 1).toNatClampNeg)
  refine L_M (As := [.int (xs (x3 + 1).toNatClampNeg)]) (rest := [.int _]) e3 (fun v z h => mX3_hang l D cI cJ b' _ N ρ (xs (x3 + 1).toNatClampNeg) (v, z) h) ⟨hx, hb, hml, hown, hts⟩ (cwV 1 hts gL_law_X3_hang rfl rfl rfl qX3_hang ⟨Nat.le_of_ble_eq_true rfl, Nat.le_of_ble_eq_true rfl⟩) hK hP hD hS hA rfl hl.1 rfl (Nat.le_of_ble_eq_true rfl) dL_law_714 ⟨Nat.le_refl _, Nat.le_refl _⟩ (fun H locs hP hD hS => ?_)
  refine lv_icmp_eq (tgt := 1182) hx hb dL_law_717 (by decide) (fun _ => ?_) (fun q => absurd rfl q)
  exact fin τ z1 z2 _ H locs ⟨hP, hD, hS, e2, e4, a_hang hAI (xs (x3 + 1).toNatClampNeg)⟩
set_option maxHeartbeats 4000000 in
set_option maxRecDepth 100000 in
theorem lawc_20 {p : Program} {l : Launch} {e : Env} {s : State} {m : MethodId} {below : List Frame} {meth : Method} {c : Code} {b L : Nat} {xs : Nat → Int32} (C0 : lw_At p s m meth c b L xs) {D : va_G} {cI cJ : ClassId} {ad av a b' : Nat → Nat} (hX9 : SX ad av (fun q : Nat => s.heap.size ≤ q) s s.heap) (hK : va_K D vwCl (tyIJ cI cJ) s) {N : Nat} (hN : 600 < N) {x3 : Int32} (h1 : vp_in (x3 + 1) L) (h2 : vp_in (x3 + 2) L) (h3 : vp_in (x3 + 3) L) (h4 : vp_in (x3 + 4) L) {ls : Array Slot} (hl : lv_has ls 4 [(0, .ref b), (1, .ref (a 0)), (2, .ref (b' 0)), (3, .int x3)]) {H : Heap} {locs : List Loc} {τ : LSt} {σ ρ A : St} (hI : LI D cI cJ a b' s τ σ ρ A H locs) (fin : ∀ (τ : LSt) (σ ρ A : St) (H : Heap) (locs : List Loc), LI D cI cJ a b' s τ σ ρ A H locs → W p l e room_1 s m #[Value.ref b] below meth c H locs 38 707 (lw_Z below #[Value.ref b] s) (F0 m 1182 ls [])) : W p l e room_1 s m #[Value.ref b] below meth c H locs 38 707 (lw_Z below #[Value.ref b] s) (F0 m 722 ls []) := by
  obtain ⟨hx, hb, hr, hml, hown, hts0, hX, hbl, hlocks, hgv⟩ := C0
  have hts : ∀ w ∈ wsL_law, w.before #[Value.ref b] s = true := fun w h => hts0 w (wsL_law_in w h)
  have hown : s.vm.findClass RL = some m.cls := hown
  have hb : c.code = cL_law := hb
  have hA : ∀ q : Nat, s.heap.size ≤ q → (fun q : Nat => s.heap.size ≤ q) q := fun _ h => h
  have hbA : ¬ (fun q : Nat => s.heap.size ≤ q) b := Nat.not_le.mpr hbl
  obtain ⟨hP, hD, hS, hC, hM, hAI⟩ := hI
  refine lv_aload_n hx hb dL_law_722 rfl (lv_at hl 1 rfl) ?_
  obtain ⟨z1, e1, e2⟩ := c_change (N := N) (by omega) hC hAI
  refine L_X (As := []) (rest := []) e1 (fun v z h => mX2_change l D cI cJ a _ N τ σ (v, z) h) ⟨hx, hb, hml, hown, hts⟩ (cwV 0 hts gL_law_X2_change rfl rfl rfl qX2_change ⟨Nat.le_of_ble_eq_true rfl, Nat.le_of_ble_eq_true rfl⟩) hK hP hD hS hA rfl hl.1 rfl (Nat.le_of_ble_eq_true rfl) dL_law_723 ⟨Nat.le_refl _, Nat.le_refl _⟩ (fun H locs hP hD hS => ?_)
  refine lv_aload_n hx hb dL_law_726 rfl (lv_at hl 2 rfl) ?_
  obtain ⟨z2, e3, e4⟩ := m_change (N := N) (by omega) hM hAI
  refine L_M (As := []) (rest := [.int _]) e3 (fun v z h => mX3_change l D cI cJ b' _ N ρ (v, z) h) ⟨hx, hb, hml, hown, hts⟩ (cwV 0 hts gL_law_X3_change rfl rfl rfl qX3_change ⟨Nat.le_of_ble_eq_true rfl, Nat.le_of_ble_eq_true rfl⟩) hK hP hD hS hA rfl hl.1 rfl (Nat.le_of_ble_eq_true rfl) dL_law_727 ⟨Nat.le_refl _, Nat.le_refl _⟩ (fun H locs hP hD hS => ?_)
  refine lv_icmp_eq (tgt := 1182) hx hb dL_law_730 (by decide) (fun _ => ?_) (fun q => absurd rfl q)
  exact fin τ z1 z2 _ H locs ⟨hP, hD, hS, e2, e4, hAI⟩
set_option maxHeartbeats 4000000 in
set_option maxRecDepth 100000 in
theorem lawc_21 {p : Program} {l : Launch} {e : Env} {s : State} {m : MethodId} {below : List Frame} {meth : Method} {c : Code} {b L : Nat} {xs : Nat → Int32} (C0 : lw_At p s m meth c b L xs) {D : va_G} {cI cJ : ClassId} {ad av a b' : Nat → Nat} (hX9 : SX ad av (fun q : Nat => s.heap.size ≤ q) s s.heap) (hK : va_K D vwCl (tyIJ cI cJ) s) {N : Nat} (hN : 600 < N) {x3 : Int32} (h1 : vp_in (x3 + 1) L) (h2 : vp_in (x3 + 2) L) (h3 : vp_in (x3 + 3) L) (h4 : vp_in (x3 + 4) L) {ls : Array Slot} (hl : lv_has ls 4 [(0, .ref b), (1, .ref (a 0)), (2, .ref (b' 0)), (3, .int x3)]) {H : Heap} {locs : List Loc} {τ : LSt} {σ ρ A : St} (hI : LI D cI cJ a b' s τ σ ρ A H locs) (fin : ∀ (τ : LSt) (σ ρ A : St) (H : Heap) (locs : List Loc), LI D cI cJ a b' s τ σ ρ A H locs → W p l e room_1 s m #[Value.ref b] below meth c H locs 38 707 (lw_Z below #[Value.ref b] s) (F0 m 1182 ls [])) : W p l e room_1 s m #[Value.ref b] below meth c H locs 38 707 (lw_Z below #[Value.ref b] s) (F0 m 735 ls []) := by
  obtain ⟨hx, hb, hr, hml, hown, hts0, hX, hbl, hlocks, hgv⟩ := C0
  have hts : ∀ w ∈ wsL_law, w.before #[Value.ref b] s = true := fun w h => hts0 w (wsL_law_in w h)
  have hown : s.vm.findClass RL = some m.cls := hown
  have hb : c.code = cL_law := hb
  have hA : ∀ q : Nat, s.heap.size ≤ q → (fun q : Nat => s.heap.size ≤ q) q := fun _ h => h
  have hbA : ¬ (fun q : Nat => s.heap.size ≤ q) b := Nat.not_le.mpr hbl
  obtain ⟨hP, hD, hS, hC, hM, hAI⟩ := hI
  refine lv_aload_n hx hb dL_law_735 rfl (lv_at hl 1 rfl) ?_
  refine L_arg (kv := 1) hx hb hX hbl hbA hS hl h1 dL_law_736 dL_law_737 dL_law_738 (by decide) dL_law_739 dL_law_740 ?_
  refine L_arg (kv := 2) hx hb hX hbl hbA hS hl h2 dL_law_741 dL_law_742 dL_law_743 (by decide) dL_law_744 dL_law_745 ?_
  refine L_arg (kv := 3) hx hb hX hbl hbA hS hl h3 dL_law_746 dL_law_747 dL_law_748 (by decide) dL_law_749 dL_law_750 ?_
  obtain ⟨z1, e1, e2⟩ := c_ballast (N := N) (by omega) hC hAI (xs (x3 + 1).toNatClampNeg) (xs (x3 + 2).toNatClampNeg) (xs (x3 + 3).toNatClampNeg)
  refine L_X (As := [.int (xs (x3 + 1).toNatClampNeg), .int (xs (x3 + 2).toNatClampNeg), .int (xs (x3 + 3).toNatClampNeg)]) (rest := []) e1 (fun v z h => mX2_ballast l D cI cJ a _ N τ σ (xs (x3 + 1).toNatClampNeg) (xs (x3 + 2).toNatClampNeg) (xs (x3 + 3).toNatClampNeg) (v, z) h) ⟨hx, hb, hml, hown, hts⟩ (cwV 3 hts gL_law_X2_ballast rfl rfl rfl qX2_ballast ⟨Nat.le_of_ble_eq_true rfl, Nat.le_of_ble_eq_true rfl⟩) hK hP hD hS hA rfl hl.1 rfl (Nat.le_of_ble_eq_true rfl) dL_law_751 ⟨Nat.le_refl _, Nat.le_refl _⟩ (fun H locs hP hD hS => ?_)
  refine lv_aload_n hx hb dL_law_754 rfl (lv_at hl 2 rfl) ?_
  refine L_arg (kv := 1) hx hb hX hbl hbA hS hl h1 dL_law_755 dL_law_756 dL_law_757 (by decide) dL_law_758 dL_law_759 ?_
  refine L_arg (kv := 2) hx hb hX hbl hbA hS hl h2 dL_law_760 dL_law_761 dL_law_762 (by decide) dL_law_763 dL_law_764 ?_
  refine L_arg (kv := 3) hx hb hX hbl hbA hS hl h3 dL_law_765 dL_law_766 dL_law_767 (by decide) dL_law_768 dL_law_769 ?_
  obtain ⟨z2, e3, e4⟩ := m_ballast (N := N) (by omega) hM hAI (xs (x3 + 1).toNatClampNeg) (xs (x3 + 2).toNatClampNeg) (xs (x3 + 3).toNatClampNeg)
  refine L_M (As := [.int (xs (x3 + 1).toNatClampNeg), .int (xs (x3 + 2).toNatClampNeg), .int (xs (x3 + 3).toNatClampNeg)]) (rest := [.int _]) e3 (fun v z h => mX3_ballast l D cI cJ b' _ N ρ (xs (x3 + 1).toNatClampNeg) (xs (x3 + 2).toNatClampNeg) (xs (x3 + 3).toNatClampNeg) (v, z) h) ⟨hx, hb, hml, hown, hts⟩ (cwV 3 hts gL_law_X3_ballast rfl rfl rfl qX3_ballast ⟨Nat.le_of_ble_eq_true rfl, Nat.le_of_ble_eq_true rfl⟩) hK hP hD hS hA rfl hl.1 rfl (Nat.le_of_ble_eq_true rfl) dL_law_770 ⟨Nat.le_refl _, Nat.le_refl _⟩ (fun H locs hP hD hS => ?_)
  refine lv_icmp_eq (tgt := 1182) hx hb dL_law_773 (by decide) (fun _ => ?_) (fun q => absurd rfl q)
  exact fin τ z1 z2 _ H locs ⟨hP, hD, hS, e2, e4, a_ballast hAI (xs (x3 + 1).toNatClampNeg) (xs (x3 + 2).toNatClampNeg) (xs (x3 + 3).toNatClampNeg)⟩
set_option maxHeartbeats 4000000 in
set_option maxRecDepth 100000 in
theorem lawc_22 {p : Program} {l : Launch} {e : Env} {s : State} {m : MethodId} {below : List Frame} {meth : Method} {c : Code} {b L : Nat} {xs : Nat → Int32} (C0 : lw_At p s m meth c b L xs) {D : va_G} {cI cJ : ClassId} {ad av a b' : Nat → Nat} (hX9 : SX ad av (fun q : Nat => s.heap.size ≤ q) s s.heap) (hK : va_K D vwCl (tyIJ cI cJ) s) {N : Nat} (hN : 600 < N) {x3 : Int32} (h1 : vp_in (x3 + 1) L) (h2 : vp_in (x3 + 2) L) (h3 : vp_in (x3 + 3) L) (h4 : vp_in (x3 + 4) L) {ls : Array Slot} (hl : lv_has ls 4 [(0, .ref b), (1, .ref (a 0)), (2, .ref (b' 0)), (3, .int x3)]) {H : Heap} {locs : List Loc} {τ : LSt} {σ ρ A : St} (hI : LI D cI cJ a b' s τ σ ρ A H locs) (fin : ∀ (τ : LSt) (σ ρ A : St) (H : Heap) (locs : List Loc), LI D cI cJ a b' s τ σ ρ A H locs → W p l e room_1 s m #[Value.ref b] below meth c H locs 38 707 (lw_Z below #[Value.ref b] s) (F0 m 1182 ls [])) : W p l e room_1 s m #[Value.ref b] below meth c H locs 38 707 (lw_Z below #[Value.ref b] s) (F0 m 778 ls []) := by
  obtain ⟨hx, hb, hr, hml, hown, hts0, hX, hbl, hlocks, hgv⟩ := C0
  have hts : ∀ w ∈ wsL_law, w.before #[Value.ref b] s = true := fun w h => hts0 w (wsL_law_in w h)
  have hown : s.vm.findClass RL = some m.cls := hown
  have hb : c.code = cL_law := hb
  have hA : ∀ q : Nat, s.heap.size ≤ q → (fun q : Nat => s.heap.size ≤ q) q := fun _ h => h
  have hbA : ¬ (fun q : Nat => s.heap.size ≤ q) b := Nat.not_le.mpr hbl
  obtain ⟨hP, hD, hS, hC, hM, hAI⟩ := hI
  refine lv_aload_n hx hb dL_law_778 rfl (lv_at hl 1 rfl) ?_
  refine L_arg (kv := 1) hx hb hX hbl hbA hS hl h1 dL_law_779 dL_law_780 dL_law_781 (by decide) dL_law_782 dL_law_783 ?_
  refine L_arg (kv := 2) hx hb hX hbl hbA hS hl h2 dL_law_784 dL_law_785 dL_law_786 (by decide) dL_law_787 dL_law_788 ?_
  refine L_arg (kv := 3) hx hb hX hbl hbA hS hl h3 dL_law_789 dL_law_790 dL_law_791 (by decide) dL_law_792 dL_law_793 ?_
  obtain ⟨z1, e1, e2⟩ := c_mustWeigh (N := N) (by omega) hC hAI (xs (x3 + 1).toNatClampNeg) (xs (x3 + 2).toNatClampNeg) (xs (x3 + 3).toNatClampNeg)
  refine L_X (As := [.int (xs (x3 + 1).toNatClampNeg), .int (xs (x3 + 2).toNatClampNeg), .int (xs (x3 + 3).toNatClampNeg)]) (rest := []) e1 (fun v z h => mX2_mustWeigh l D cI cJ a _ N τ σ (xs (x3 + 1).toNatClampNeg) (xs (x3 + 2).toNatClampNeg) (xs (x3 + 3).toNatClampNeg) (v, z) h) ⟨hx, hb, hml, hown, hts⟩ (cwV 3 hts gL_law_X2_mustWeigh rfl rfl rfl qX2_mustWeigh ⟨Nat.le_of_ble_eq_true rfl, Nat.le_of_ble_eq_true rfl⟩) hK hP hD hS hA rfl hl.1 rfl (Nat.le_of_ble_eq_true rfl) dL_law_794 ⟨Nat.le_refl _, Nat.le_refl _⟩ (fun H locs hP hD hS => ?_)
  refine lv_aload_n hx hb dL_law_797 rfl (lv_at hl 2 rfl) ?_
  refine L_arg (kv := 1) hx hb hX hbl hbA hS hl h1 dL_law_798 dL_law_799 dL_law_800 (by decide) dL_law_801 dL_law_802 ?_
  refine L_arg (kv := 2) hx hb hX hbl hbA hS hl h2 dL_law_803 dL_law_804 dL_law_805 (by decide) dL_law_806 dL_law_807 ?_
  refine L_arg (kv := 3) hx hb hX hbl hbA hS hl h3 dL_law_808 dL_law_809 dL_law_810 (by decide) dL_law_811 dL_law_812 ?_
  obtain ⟨z2, e3, e4⟩ := m_mustWeigh (N := N) (by omega) hM hAI (xs (x3 + 1).toNatClampNeg) (xs (x3 + 2).toNatClampNeg) (xs (x3 + 3).toNatClampNeg)
  refine L_M (As := [.int (xs (x3 + 1).toNatClampNeg), .int (xs (x3 + 2).toNatClampNeg), .int (xs (x3 + 3).toNatClampNeg)]) (rest := [.int _]) e3 (fun v z h => mX3_mustWeigh l D cI cJ b' _ N ρ (xs (x3 + 1).toNatClampNeg) (xs (x3 + 2).toNatClampNeg) (xs (x3 + 3).toNatClampNeg) (v, z) h) ⟨hx, hb, hml, hown, hts⟩ (cwV 3 hts gL_law_X3_mustWeigh rfl rfl rfl qX3_mustWeigh ⟨Nat.le_of_ble_eq_true rfl, Nat.le_of_ble_eq_true rfl⟩) hK hP hD hS hA rfl hl.1 rfl (Nat.le_of_ble_eq_true rfl) dL_law_813 ⟨Nat.le_refl _, Nat.le_refl _⟩ (fun H locs hP hD hS => ?_)
  refine lv_icmp_eq (tgt := 1182) hx hb dL_law_816 (by decide) (fun _ => ?_) (fun q => absurd rfl q)
  exact fin τ z1 z2 _ H locs ⟨hP, hD, hS, e2, e4, a_mustWeigh hAI (xs (x3 + 1).toNatClampNeg) (xs (x3 + 2).toNatClampNeg) (xs (x3 + 3).toNatClampNeg)⟩
set_option maxHeartbeats 4000000 in
set_option maxRecDepth 100000 in
theorem lawc_23 {p : Program} {l : Launch} {e : Env} {s : State} {m : MethodId} {below : List Frame} {meth : Method} {c : Code} {b L : Nat} {xs : Nat → Int32} (C0 : lw_At p s m meth c b L xs) {D : va_G} {cI cJ : ClassId} {ad av a b' : Nat → Nat} (hX9 : SX ad av (fun q : Nat => s.heap.size ≤ q) s s.heap) (hK : va_K D vwCl (tyIJ cI cJ) s) {N : Nat} (hN : 600 < N) {x3 : Int32} (h1 : vp_in (x3 + 1) L) (h2 : vp_in (x3 + 2) L) (h3 : vp_in (x3 + 3) L) (h4 : vp_in (x3 + 4) L) {ls : Array Slot} (hl : lv_has ls 4 [(0, .ref b), (1, .ref (a 0)), (2, .ref (b' 0)), (3, .int x3)]) {H : Heap} {locs : List Loc} {τ : LSt} {σ ρ A : St} (hI : LI D cI cJ a b' s τ σ ρ A H locs) (fin : ∀ (τ : LSt) (σ ρ A : St) (H : Heap) (locs : List Loc), LI D cI cJ a b' s τ σ ρ A H locs → W p l e room_1 s m #[Value.ref b] below meth c H locs 38 707 (lw_Z below #[Value.ref b] s) (F0 m 1182 ls [])) : W p l e room_1 s m #[Value.ref b] below meth c H locs 38 707 (lw_Z below #[Value.ref b] s) (F0 m 821 ls []) := by
  obtain ⟨hx, hb, hr, hml, hown, hts0, hX, hbl, hlocks, hgv⟩ := C0
  have hts : ∀ w ∈ wsL_law, w.before #[Value.ref b] s = true := fun w h => hts0 w (wsL_law_in w h)
  have hown : s.vm.findClass RL = some m.cls := hown
  have hb : c.code = cL_law := hb
  have hA : ∀ q : Nat, s.heap.size ≤ q → (fun q : Nat => s.heap.size ≤ q) q := fun _ h => h
  have hbA : ¬ (fun q : Nat => s.heap.size ≤ q) b := Nat.not_le.mpr hbl
  obtain ⟨hP, hD, hS, hC, hM, hAI⟩ := hI
  refine lv_aload_n hx hb dL_law_821 rfl (lv_at hl 1 rfl) ?_
  refine L_arg (kv := 1) hx hb hX hbl hbA hS hl h1 dL_law_822 dL_law_823 dL_law_824 (by decide) dL_law_825 dL_law_826 ?_
  refine L_arg (kv := 2) hx hb hX hbl hbA hS hl h2 dL_law_827 dL_law_828 dL_law_829 (by decide) dL_law_830 dL_law_831 ?_
  refine L_arg (kv := 3) hx hb hX hbl hbA hS hl h3 dL_law_832 dL_law_833 dL_law_834 (by decide) dL_law_835 dL_law_836 ?_
  obtain ⟨z1, e1, e2⟩ := c_bestKind (N := N) (by omega) hC hAI (xs (x3 + 1).toNatClampNeg) (xs (x3 + 2).toNatClampNeg) (xs (x3 + 3).toNatClampNeg)
  refine L_X (As := [.int (xs (x3 + 1).toNatClampNeg), .int (xs (x3 + 2).toNatClampNeg), .int (xs (x3 + 3).toNatClampNeg)]) (rest := []) e1 (fun v z h => mX2_bestKind l D cI cJ a _ N τ σ (xs (x3 + 1).toNatClampNeg) (xs (x3 + 2).toNatClampNeg) (xs (x3 + 3).toNatClampNeg) (v, z) h) ⟨hx, hb, hml, hown, hts⟩ (cwV 3 hts gL_law_X2_bestKind rfl rfl rfl qX2_bestKind ⟨Nat.le_of_ble_eq_true rfl, Nat.le_of_ble_eq_true rfl⟩) hK hP hD hS hA rfl hl.1 rfl (Nat.le_of_ble_eq_true rfl) dL_law_837 ⟨Nat.le_refl _, Nat.le_refl _⟩ (fun H locs hP hD hS => ?_)
  refine lv_aload_n hx hb dL_law_840 rfl (lv_at hl 2 rfl) ?_
  refine L_arg (kv := 1) hx hb hX hbl hbA hS hl h1 dL_law_841 dL_law_842 dL_law_843 (by decide) dL_law_844 dL_law_845 ?_
  refine L_arg (kv := 2) hx hb hX hbl hbA hS hl h2 dL_law_846 dL_law_847 dL_law_848 (by decide) dL_law_849 dL_law_850 ?_
  refine L_arg (kv := 3) hx hb hX hbl hbA hS hl h3 dL_law_851 dL_law_852 dL_law_853 (by decide) dL_law_854 dL_law_855 ?_
  obtain ⟨z2, e3, e4⟩ := m_bestKind (N := N) (by omega) hM hAI (xs (x3 + 1).toNatClampNeg) (xs (x3 + 2).toNatClampNeg) (xs (x3 + 3).toNatClampNeg)
  refine L_M (As := [.int (xs (x3 + 1).toNatClampNeg), .int (xs (x3 + 2).toNatClampNeg), .int (xs (x3 + 3).toNatClampNeg)]) (rest := [.int _]) e3 (fun v z h => mX3_bestKind l D cI cJ b' _ N ρ (xs (x3 + 1).toNatClampNeg) (xs (x3 + 2).toNatClampNeg) (xs (x3 + 3).toNatClampNeg) (v, z) h) ⟨hx, hb, hml, hown, hts⟩ (cwV 3 hts gL_law_X3_bestKind rfl rfl rfl qX3_bestKind ⟨Nat.le_of_ble_eq_true rfl, Nat.le_of_ble_eq_true rfl⟩) hK hP hD hS hA rfl hl.1 rfl (Nat.le_of_ble_eq_true rfl) dL_law_856 ⟨Nat.le_refl _, Nat.le_refl _⟩ (fun H locs hP hD hS => ?_)
  refine lv_icmp_eq (tgt := 1182) hx hb dL_law_859 (by decide) (fun _ => ?_) (fun q => absurd rfl q)
  exact fin τ z1 z2 _ H locs ⟨hP, hD, hS, e2, e4, a_bestKind hAI (xs (x3 + 1).toNatClampNeg) (xs (x3 + 2).toNatClampNeg) (xs (x3 + 3).toNatClampNeg)⟩
