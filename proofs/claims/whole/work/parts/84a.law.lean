set_option maxHeartbeats 4000000 in
set_option maxRecDepth 100000 in
theorem lawc_0 {p : Program} {l : Launch} {e : Env} {s : State} {m : MethodId} {below : List Frame} {meth : Method} {c : Code} {b L : Nat} {xs : Nat → Int32} (C0 : lw_At p s m meth c b L xs) {D : va_G} {cI cJ : ClassId} {ad av a b' : Nat → Nat} (hX9 : SX ad av (fun q : Nat => s.heap.size ≤ q) s s.heap) (hK : va_K D vwCl (tyIJ cI cJ) s) {N : Nat} (hN : 600 < N) {x3 : Int32} (h1 : vp_in (x3 + 1) L) (h2 : vp_in (x3 + 2) L) (h3 : vp_in (x3 + 3) L) (h4 : vp_in (x3 + 4) L) {ls : Array Slot} (hl : lv_has ls 4 [(0, .ref b), (1, .ref (a 0)), (2, .ref (b' 0)), (3, .int x3)]) {H : Heap} {locs : List Loc} {τ : LSt} {σ ρ A : St} (hI : LI D cI cJ a b' s τ σ ρ A H locs) (fin : ∀ (τ : LSt) (σ ρ A : St) (H : Heap) (locs : List Loc), LI D cI cJ a b' s τ σ ρ A H locs → W p l e room_1 s m #[Value.ref b] below meth c H locs 38 707 (lw_Z below #[Value.ref b] s) (F0 m 1182 ls [])) : W p l e room_1 s m #[Value.ref b] below meth c H locs 38 707 (lw_Z below #[Value.ref b] s) (F0 m 192 ls []) := by
  obtain ⟨hx, hb, hr, hml, hown, hts0, hX, hbl, hlocks, hgv⟩ := C0
  have hts : ∀ w ∈ wsL_law, w.before #[Value.ref b] s = true := fun w h => hts0 w (wsL_law_in w h)
  have hown : s.vm.findClass RL = some m.cls := hown
  have hb : c.code = cL_law := hb
  have hA : ∀ q : Nat, s.heap.size ≤ q → (fun q : Nat => s.heap.size ≤ q) q := fun _ h => h
  have hbA : ¬ (fun q : Nat => s.heap.size ≤ q) b := Nat.not_le.mpr hbl
  obtain ⟨hP, hD, hS, hC, hM, hAI⟩ := hI
  refine lv_aload_n hx hb dL_law_192 rfl (lv_at hl 1 rfl) ?_
  refine L_arg (kv := 1) hx hb hX hbl hbA hS hl h1 dL_law_193 dL_law_194 dL_law_195 (by decide) dL_law_196 dL_law_197 ?_
  obtain ⟨z1, e1, e2⟩ := c_letter (N := N) hC hAI (xs (x3 + 1).toNatClampNeg)
  refine L_X (As := [.int (xs (x3 + 1).toNatClampNeg)]) (rest := []) e1 (fun v z h => mX2_letter l D cI cJ a _ N τ σ (xs (x3 + 1).toNatClampNeg) (v, z) h) ⟨hx, hb, hml, hown, hts⟩ (cwV 1 hts gL_law_X2_letter rfl rfl rfl qX2_letter ⟨Nat.le_of_ble_eq_true rfl, Nat.le_of_ble_eq_true rfl⟩) hK hP hD hS hA rfl hl.1 rfl (Nat.le_of_ble_eq_true rfl) dL_law_198 ⟨Nat.le_refl _, Nat.le_refl _⟩ (fun H locs hP hD hS => ?_)
  refine lv_aload_n hx hb dL_law_201 rfl (lv_at hl 2 rfl) ?_
  refine L_arg (kv := 1) hx hb hX hbl hbA hS hl h1 dL_law_202 dL_law_203 dL_law_204 (by decide) dL_law_205 dL_law_206 ?_
  obtain ⟨z2, e3, e4⟩ := m_letter (N := N) hM hAI (xs (x3 + 1).toNatClampNeg)
  refine L_M (As := [.int (xs (x3 + 1).toNatClampNeg)]) (rest := [.int _]) e3 (fun v z h => mX3_letter l D cI cJ b' _ N ρ (xs (x3 + 1).toNatClampNeg) (v, z) h) ⟨hx, hb, hml, hown, hts⟩ (cwV 1 hts gL_law_X3_letter rfl rfl rfl qX3_letter ⟨Nat.le_of_ble_eq_true rfl, Nat.le_of_ble_eq_true rfl⟩) hK hP hD hS hA rfl hl.1 rfl (Nat.le_of_ble_eq_true rfl) dL_law_207 ⟨Nat.le_refl _, Nat.le_refl _⟩ (fun H locs hP hD hS => ?_)
  refine lv_icmp_eq (tgt := 1182) hx hb dL_law_210 (by decide) (fun _ => ?_) (fun q => absurd rfl q)
  exact fin τ z1 z2 _ H locs ⟨hP, hD, hS, e2, e4, a_letter hAI (xs (x3 + 1).toNatClampNeg)⟩
set_option maxHeartbeats 4000000 in
set_option maxRecDepth 100000 in
theorem lawc_1 {p : Program} {l : Launch} {e : Env} {s : State} {m : MethodId} {below : List Frame} {meth : Method} {c : Code} {b L : Nat} {xs : Nat → Int32} (C0 : lw_At p s m meth c b L xs) {D : va_G} {cI cJ : ClassId} {ad av a b' : Nat → Nat} (hX9 : SX ad av (fun q : Nat => s.heap.size ≤ q) s s.heap) (hK : va_K D vwCl (tyIJ cI cJ) s) {N : Nat} (hN : 600 < N) {x3 : Int32} (h1 : vp_in (x3 + 1) L) (h2 : vp_in (x3 + 2) L) (h3 : vp_in (x3 + 3) L) (h4 : vp_in (x3 + 4) L) {ls : Array Slot} (hl : lv_has ls 4 [(0, .ref b), (1, .ref (a 0)), (2, .ref (b' 0)), (3, .int x3)]) {H : Heap} {locs : List Loc} {τ : LSt} {σ ρ A : St} (hI : LI D cI cJ a b' s τ σ ρ A H locs) (fin : ∀ (τ : LSt) (σ ρ A : St) (H : Heap) (locs : List Loc), LI D cI cJ a b' s τ σ ρ A H locs → W p l e room_1 s m #[Value.ref b] below meth c H locs 38 707 (lw_Z below #[Value.ref b] s) (F0 m 1182 ls [])) : W p l e room_1 s m #[Value.ref b] below meth c H locs 38 707 (lw_Z below #[Value.ref b] s) (F0 m 215 ls []) := by
  obtain ⟨hx, hb, hr, hml, hown, hts0, hX, hbl, hlocks, hgv⟩ := C0
  have hts : ∀ w ∈ wsL_law, w.before #[Value.ref b] s = true := fun w h => hts0 w (wsL_law_in w h)
  have hown : s.vm.findClass RL = some m.cls := hown
  have hb : c.code = cL_law := hb
  have hA : ∀ q : Nat, s.heap.size ≤ q → (fun q : Nat => s.heap.size ≤ q) q := fun _ h => h
  have hbA : ¬ (fun q : Nat => s.heap.size ≤ q) b := Nat.not_le.mpr hbl
  obtain ⟨hP, hD, hS, hC, hM, hAI⟩ := hI
  refine lv_aload_n hx hb dL_law_215 rfl (lv_at hl 1 rfl) ?_
  obtain ⟨z1, e1, e2⟩ := c_hoist (N := N) (by omega) hC hAI
  refine L_XS (As := []) (rest := []) e1 (fun v z h => mX2_hoist l D cI cJ ad av a _ N τ σ (v, z) h) ⟨hx, hb, hml, hown, hts⟩ (cwV 0 hts gL_law_X2_hoist rfl rfl rfl qX2_hoist ⟨Nat.le_of_ble_eq_true rfl, Nat.le_of_ble_eq_true rfl⟩) hX9 hK hP hD hS hA rfl hl.1 rfl (Nat.le_of_ble_eq_true rfl) dL_law_216 ⟨Nat.le_refl _, Nat.le_refl _⟩ (fun H locs hP hD hS => ?_)
  refine lv_aload_n hx hb dL_law_219 rfl (lv_at hl 2 rfl) ?_
  obtain ⟨z2, e3, e4⟩ := m_hoist (N := N) (by omega) hM hAI
  refine L_M (As := []) (rest := [.int _]) e3 (fun v z h => mX3_hoist l D cI cJ b' _ N ρ (v, z) h) ⟨hx, hb, hml, hown, hts⟩ (cwV 0 hts gL_law_X3_hoist rfl rfl rfl qX3_hoist ⟨Nat.le_of_ble_eq_true rfl, Nat.le_of_ble_eq_true rfl⟩) hK hP hD hS hA rfl hl.1 rfl (Nat.le_of_ble_eq_true rfl) dL_law_220 ⟨Nat.le_refl _, Nat.le_refl _⟩ (fun H locs hP hD hS => ?_)
  refine lv_icmp_eq (tgt := 1182) hx hb dL_law_223 (by decide) (fun _ => ?_) (fun q => absurd rfl q)
  exact fin τ z1 z2 _ H locs ⟨hP, hD, hS, e2, e4, a_hoist hAI⟩
set_option maxHeartbeats 4000000 in
set_option maxRecDepth 100000 in
theorem lawc_2 {p : Program} {l : Launch} {e : Env} {s : State} {m : MethodId} {below : List Frame} {meth : Method} {c : Code} {b L : Nat} {xs : Nat → Int32} (C0 : lw_At p s m meth c b L xs) {D : va_G} {cI cJ : ClassId} {ad av a b' : Nat → Nat} (hX9 : SX ad av (fun q : Nat => s.heap.size ≤ q) s s.heap) (hK : va_K D vwCl (tyIJ cI cJ) s) {N : Nat} (hN : 600 < N) {x3 : Int32} (h1 : vp_in (x3 + 1) L) (h2 : vp_in (x3 + 2) L) (h3 : vp_in (x3 + 3) L) (h4 : vp_in (x3 + 4) L) {ls : Array Slot} (hl : lv_has ls 4 [(0, .ref b), (1, .ref (a 0)), (2, .ref (b' 0)), (3, .int x3)]) {H : Heap} {locs : List Loc} {τ : LSt} {σ ρ A : St} (hI : LI D cI cJ a b' s τ σ ρ A H locs) (fin : ∀ (τ : LSt) (σ ρ A : St) (H : Heap) (locs : List Loc), LI D cI cJ a b' s τ σ ρ A H locs → W p l e room_1 s m #[Value.ref b] below meth c H locs 38 707 (lw_Z below #[Value.ref b] s) (F0 m 1182 ls [])) : W p l e room_1 s m #[Value.ref b] below meth c H locs 38 707 (lw_Z below #[Value.ref b] s) (F0 m 228 ls []) := by
  obtain ⟨hx, hb, hr, hml, hown, hts0, hX, hbl, hlocks, hgv⟩ := C0
  have hts : ∀ w ∈ wsL_law, w.before #[Value.ref b] s = true := fun w h => hts0 w (wsL_law_in w h)
  have hown : s.vm.findClass RL = some m.cls := hown
  have hb : c.code = cL_law := hb
  have hA : ∀ q : Nat, s.heap.size ≤ q → (fun q : Nat => s.heap.size ≤ q) q := fun _ h => h
  have hbA : ¬ (fun q : Nat => s.heap.size ≤ q) b := Nat.not_le.mpr hbl
  obtain ⟨hP, hD, hS, hC, hM, hAI⟩ := hI
  refine lv_aload_n hx hb dL_law_228 rfl (lv_at hl 1 rfl) ?_
  refine L_arg (kv := 1) hx hb hX hbl hbA hS hl h1 dL_law_229 dL_law_230 dL_law_231 (by decide) dL_law_232 dL_law_233 ?_
  refine L_arg (kv := 2) hx hb hX hbl hbA hS hl h2 dL_law_234 dL_law_235 dL_law_236 (by decide) dL_law_237 dL_law_238 ?_
  obtain ⟨z1, e1, e2⟩ := c_thing (N := N) hC hAI (xs (x3 + 1).toNatClampNeg) (xs (x3 + 2).toNatClampNeg)
  refine L_X (As := [.int (xs (x3 + 1).toNatClampNeg), .int (xs (x3 + 2).toNatClampNeg)]) (rest := []) e1 (fun v z h => mX2_thing l D cI cJ a _ N τ σ (xs (x3 + 1).toNatClampNeg) (xs (x3 + 2).toNatClampNeg) (v, z) h) ⟨hx, hb, hml, hown, hts⟩ (cwV 2 hts gL_law_X2_thing rfl rfl rfl qX2_thing ⟨Nat.le_of_ble_eq_true rfl, Nat.le_of_ble_eq_true rfl⟩) hK hP hD hS hA rfl hl.1 rfl (Nat.le_of_ble_eq_true rfl) dL_law_239 ⟨Nat.le_refl _, Nat.le_refl _⟩ (fun H locs hP hD hS => ?_)
  refine lv_aload_n hx hb dL_law_242 rfl (lv_at hl 2 rfl) ?_
  refine L_arg (kv := 1) hx hb hX hbl hbA hS hl h1 dL_law_243 dL_law_244 dL_law_245 (by decide) dL_law_246 dL_law_247 ?_
  refine L_arg (kv := 2) hx hb hX hbl hbA hS hl h2 dL_law_248 dL_law_249 dL_law_250 (by decide) dL_law_251 dL_law_252 ?_
  obtain ⟨z2, e3, e4⟩ := m_thing (N := N) hM hAI (xs (x3 + 1).toNatClampNeg) (xs (x3 + 2).toNatClampNeg)
  refine L_M (As := [.int (xs (x3 + 1).toNatClampNeg), .int (xs (x3 + 2).toNatClampNeg)]) (rest := [.int _]) e3 (fun v z h => mX3_thing l D cI cJ b' _ N ρ (xs (x3 + 1).toNatClampNeg) (xs (x3 + 2).toNatClampNeg) (v, z) h) ⟨hx, hb, hml, hown, hts⟩ (cwV 2 hts gL_law_X3_thing rfl rfl rfl qX3_thing ⟨Nat.le_of_ble_eq_true rfl, Nat.le_of_ble_eq_true rfl⟩) hK hP hD hS hA rfl hl.1 rfl (Nat.le_of_ble_eq_true rfl) dL_law_253 ⟨Nat.le_refl _, Nat.le_refl _⟩ (fun H locs hP hD hS => ?_)
  refine lv_icmp_eq (tgt := 1182) hx hb dL_law_256 (by decide) (fun _ => ?_) (fun q => absurd rfl q)
  exact fin τ z1 z2 _ H locs ⟨hP, hD, hS, e2, e4, a_thing hAI (xs (x3 + 1).toNatClampNeg) (xs (x3 + 2).toNatClampNeg)⟩
set_option maxHeartbeats 4000000 in
set_option maxRecDepth 100000 in
theorem lawc_3 {p : Program} {l : Launch} {e : Env} {s : State} {m : MethodId} {below : List Frame} {meth : Method} {c : Code} {b L : Nat} {xs : Nat → Int32} (C0 : lw_At p s m meth c b L xs) {D : va_G} {cI cJ : ClassId} {ad av a b' : Nat → Nat} (hX9 : SX ad av (fun q : Nat => s.heap.size ≤ q) s s.heap) (hK : va_K D vwCl (tyIJ cI cJ) s) {N : Nat} (hN : 600 < N) {x3 : Int32} (h1 : vp_in (x3 + 1) L) (h2 : vp_in (x3 + 2) L) (h3 : vp_in (x3 + 3) L) (h4 : vp_in (x3 + 4) L) {ls : Array Slot} (hl : lv_has ls 4 [(0, .ref b), (1, .ref (a 0)), (2, .ref (b' 0)), (3, .int x3)]) {H : Heap} {locs : List Loc} {τ : LSt} {σ ρ A : St} (hI : LI D cI cJ a b' s τ σ ρ A H locs) (fin : ∀ (τ : LSt) (σ ρ A : St) (H : Heap) (locs : List Loc), LI D cI cJ a b' s τ σ ρ A H locs → W p l e room_1 s m #[Value.ref b] below meth c H locs 38 707 (lw_Z below #[Value.ref b] s) (F0 m 1182 ls [])) : W p l e room_1 s m #[Value.ref b] below meth c H locs 38 707 (lw_Z below #[Value.ref b] s) (F0 m 261 ls []) := by
  obtain ⟨hx, hb, hr, hml, hown, hts0, hX, hbl, hlocks, hgv⟩ := C0
  have hts : ∀ w ∈ wsL_law, w.before #[Value.ref b] s = true := fun w h => hts0 w (wsL_law_in w h)
  have hown : s.vm.findClass RL = some m.cls := hown
  have hb : c.code = cL_law := hb
  have hA : ∀ q : Nat, s.heap.size ≤ q → (fun q : Nat => s.heap.size ≤ q) q := fun _ h => h
  have hbA : ¬ (fun q : Nat => s.heap.size ≤ q) b := Nat.not_le.mpr hbl
  obtain ⟨hP, hD, hS, hC, hM, hAI⟩ := hI
  refine lv_aload_n hx hb dL_law_261 rfl (lv_at hl 1 rfl) ?_
  refine L_arg (kv := 1) hx hb hX hbl hbA hS hl h1 dL_law_262 dL_law_263 dL_law_264 (by decide) dL_law_265 dL_law_266 ?_
  refine L_arg (kv := 2) hx hb hX hbl hbA hS hl h2 dL_law_267 dL_law_268 dL_law_269 (by decide) dL_law_270 dL_law_271 ?_
  obtain ⟨z1, e1, e2⟩ := c_side (N := N) (by omega) hC hAI (xs (x3 + 1).toNatClampNeg) (xs (x3 + 2).toNatClampNeg)
  refine L_X (As := [.int (xs (x3 + 1).toNatClampNeg), .int (xs (x3 + 2).toNatClampNeg)]) (rest := []) e1 (fun v z h => mX2_side l D cI cJ a _ N τ σ (xs (x3 + 1).toNatClampNeg) (xs (x3 + 2).toNatClampNeg) (v, z) h) ⟨hx, hb, hml, hown, hts⟩ (cwV 2 hts gL_law_X2_side rfl rfl rfl qX2_side ⟨Nat.le_of_ble_eq_true rfl, Nat.le_of_ble_eq_true rfl⟩) hK hP hD hS hA rfl hl.1 rfl (Nat.le_of_ble_eq_true rfl) dL_law_272 ⟨Nat.le_refl _, Nat.le_refl _⟩ (fun H locs hP hD hS => ?_)
  refine lv_aload_n hx hb dL_law_275 rfl (lv_at hl 2 rfl) ?_
  refine L_arg (kv := 1) hx hb hX hbl hbA hS hl h1 dL_law_276 dL_law_277 dL_law_278 (by decide) dL_law_279 dL_law_280 ?_
  refine L_arg (kv := 2) hx hb hX hbl hbA hS hl h2 dL_law_281 dL_law_282 dL_law_283 (by decide) dL_law_284 dL_law_285 ?_
  obtain ⟨z2, e3, e4⟩ := m_side (N := N) (by omega) hM hAI (xs (x3 + 1).toNatClampNeg) (xs (x3 + 2).toNatClampNeg)
  refine L_M (As := [.int (xs (x3 + 1).toNatClampNeg), .int (xs (x3 + 2).toNatClampNeg)]) (rest := [.int _]) e3 (fun v z h => mX3_side l D cI cJ b' _ N ρ (xs (x3 + 1).toNatClampNeg) (xs (x3 + 2).toNatClampNeg) (v, z) h) ⟨hx, hb, hml, hown, hts⟩ (cwV 2 hts gL_law_X3_side rfl rfl rfl qX3_side ⟨Nat.le_of_ble_eq_true rfl, Nat.le_of_ble_eq_true rfl⟩) hK hP hD hS hA rfl hl.1 rfl (Nat.le_of_ble_eq_true rfl) dL_law_286 ⟨Nat.le_refl _, Nat.le_refl _⟩ (fun H locs hP hD hS => ?_)
  refine lv_icmp_eq (tgt := 1182) hx hb dL_law_289 (by decide) (fun _ => ?_) (fun q => absurd rfl q)
  exact fin τ z1 z2 _ H locs ⟨hP, hD, hS, e2, e4, a_side hAI (xs (x3 + 1).toNatClampNeg) (xs (x3 + 2).toNatClampNeg)⟩
set_option maxHeartbeats 4000000 in
set_option maxRecDepth 100000 in
theorem lawc_4 {p : Program} {l : Launch} {e : Env} {s : State} {m : MethodId} {below : List Frame} {meth : Method} {c : Code} {b L : Nat} {xs : Nat → Int32} (C0 : lw_At p s m meth c b L xs) {D : va_G} {cI cJ : ClassId} {ad av a b' : Nat → Nat} (hX9 : SX ad av (fun q : Nat => s.heap.size ≤ q) s s.heap) (hK : va_K D vwCl (tyIJ cI cJ) s) {N : Nat} (hN : 600 < N) {x3 : Int32} (h1 : vp_in (x3 + 1) L) (h2 : vp_in (x3 + 2) L) (h3 : vp_in (x3 + 3) L) (h4 : vp_in (x3 + 4) L) {ls : Array Slot} (hl : lv_has ls 4 [(0, .ref b), (1, .ref (a 0)), (2, .ref (b' 0)), (3, .int x3)]) {H : Heap} {locs : List Loc} {τ : LSt} {σ ρ A : St} (hI : LI D cI cJ a b' s τ σ ρ A H locs) (fin : ∀ (τ : LSt) (σ ρ A : St) (H : Heap) (locs : List Loc), LI D cI cJ a b' s τ σ ρ A H locs → W p l e room_1 s m #[Value.ref b] below meth c H locs 38 707 (lw_Z below #[Value.ref b] s) (F0 m 1182 ls [])) : W p l e room_1 s m #[Value.ref b] below meth c H locs 38 707 (lw_Z below #[Value.ref b] s) (F0 m 294 ls []) := by
  obtain ⟨hx, hb, hr, hml, hown, hts0, hX, hbl, hlocks, hgv⟩ := C0
  have hts : ∀ w ∈ wsL_law, w.before #[Value.ref b] s = true := fun w h => hts0 w (wsL_law_in w h)
  have hown : s.vm.findClass RL = some m.cls := hown
  have hb : c.code = cL_law := hb
  have hA : ∀ q : Nat, s.heap.size ≤ q → (fun q : Nat => s.heap.size ≤ q) q := fun _ h => h
  have hbA : ¬ (fun q : Nat => s.heap.size ≤ q) b := Nat.not_le.mpr hbl
  obtain ⟨hP, hD, hS, hC, hM, hAI⟩ := hI
  refine lv_aload_n hx hb dL_law_294 rfl (lv_at hl 1 rfl) ?_
  refine L_arg (kv := 1) hx hb hX hbl hbA hS hl h1 dL_law_295 dL_law_296 dL_law_297 (by decide) dL_law_298 dL_law_299 ?_
  refine L_arg (kv := 2) hx hb hX hbl hbA hS hl h2 dL_law_300 dL_law_301 dL_law_302 (by decide) dL_law_303 dL_law_304 ?_
  obtain ⟨z1, e1, e2⟩ := c_hangs (N := N) hC hAI (xs (x3 + 1).toNatClampNeg) (xs (x3 + 2).toNatClampNeg)
  refine L_X (As := [.int (xs (x3 + 1).toNatClampNeg), .int (xs (x3 + 2).toNatClampNeg)]) (rest := []) e1 (fun v z h => mX2_hangs l D cI cJ a _ N τ σ (xs (x3 + 1).toNatClampNeg) (xs (x3 + 2).toNatClampNeg) (v, z) h) ⟨hx, hb, hml, hown, hts⟩ (cwV 2 hts gL_law_X2_hangs rfl rfl rfl qX2_hangs ⟨Nat.le_of_ble_eq_true rfl, Nat.le_of_ble_eq_true rfl⟩) hK hP hD hS hA rfl hl.1 rfl (Nat.le_of_ble_eq_true rfl) dL_law_305 ⟨Nat.le_refl _, Nat.le_refl _⟩ (fun H locs hP hD hS => ?_)
  refine lv_aload_n hx hb dL_law_308 rfl (lv_at hl 2 rfl) ?_
  refine L_arg (kv := 1) hx hb hX hbl hbA hS hl h1 dL_law_309 dL_law_310 dL_law_311 (by decide) dL_law_312 dL_law_313 ?_
  refine L_arg (kv := 2) hx hb hX hbl hbA hS hl h2 dL_law_314 dL_law_315 dL_law_316 (by decide) dL_law_317 dL_law_318 ?_
  obtain ⟨z2, e3, e4⟩ := m_hangs (N := N) hM hAI (xs (x3 + 1).toNatClampNeg) (xs (x3 + 2).toNatClampNeg)
  refine L_M (As := [.int (xs (x3 + 1).toNatClampNeg), .int (xs (x3 + 2).toNatClampNeg)]) (rest := [.int _]) e3 (fun v z h => mX3_hangs l D cI cJ b' _ N ρ (xs (x3 + 1).toNatClampNeg) (xs (x3 + 2).toNatClampNeg) (v, z) h) ⟨hx, hb, hml, hown, hts⟩ (cwV 2 hts gL_law_X3_hangs rfl rfl rfl qX3_hangs ⟨Nat.le_of_ble_eq_true rfl, Nat.le_of_ble_eq_true rfl⟩) hK hP hD hS hA rfl hl.1 rfl (Nat.le_of_ble_eq_true rfl) dL_law_319 ⟨Nat.le_refl _, Nat.le_refl _⟩ (fun H locs hP hD hS => ?_)
  refine lv_icmp_eq (tgt := 1182) hx hb dL_law_322 (by decide) (fun _ => ?_) (fun q => absurd rfl q)
  exact fin τ z1 z2 _ H locs ⟨hP, hD, hS, e2, e4, a_hangs hAI (xs (x3 + 1).toNatClampNeg) (xs (x3 + 2).toNatClampNeg)⟩
set_option maxHeartbeats 4000000 in
set_option maxRecDepth 100000 in
theorem lawc_5 {p : Program} {l : Launch} {e : Env} {s : State} {m : MethodId} {below : List Frame} {meth : Method} {c : Code} {b L : Nat} {xs : Nat → Int32} (C0 : lw_At p s m meth c b L xs) {D : va_G} {cI cJ : ClassId} {ad av a b' : Nat → Nat} (hX9 : SX ad av (fun q : Nat => s.heap.size ≤ q) s s.heap) (hK : va_K D vwCl (tyIJ cI cJ) s) {N : Nat} (hN : 600 < N) {x3 : Int32} (h1 : vp_in (x3 + 1) L) (h2 : vp_in (x3 + 2) L) (h3 : vp_in (x3 + 3) L) (h4 : vp_in (x3 + 4) L) {ls : Array Slot} (hl : lv_has ls 4 [(0, .ref b), (1, .ref (a 0)), (2, .ref (b' 0)), (3, .int x3)]) {H : Heap} {locs : List Loc} {τ : LSt} {σ ρ A : St} (hI : LI D cI cJ a b' s τ σ ρ A H locs) (fin : ∀ (τ : LSt) (σ ρ A : St) (H : Heap) (locs : List Loc), LI D cI cJ a b' s τ σ ρ A H locs → W p l e room_1 s m #[Value.ref b] below meth c H locs 38 707 (lw_Z below #[Value.ref b] s) (F0 m 1182 ls [])) : W p l e room_1 s m #[Value.ref b] below meth c H locs 38 707 (lw_Z below #[Value.ref b] s) (F0 m 327 ls []) := by
  obtain ⟨hx, hb, hr, hml, hown, hts0, hX, hbl, hlocks, hgv⟩ := C0
  have hts : ∀ w ∈ wsL_law, w.before #[Value.ref b] s = true := fun w h => hts0 w (wsL_law_in w h)
  have hown : s.vm.findClass RL = some m.cls := hown
  have hb : c.code = cL_law := hb
  have hA : ∀ q : Nat, s.heap.size ≤ q → (fun q : Nat => s.heap.size ≤ q) q := fun _ h => h
  have hbA : ¬ (fun q : Nat => s.heap.size ≤ q) b := Nat.not_le.mpr hbl
  obtain ⟨hP, hD, hS, hC, hM, hAI⟩ := hI
  refine lv_aload_n hx hb dL_law_327 rfl (lv_at hl 1 rfl) ?_
  refine L_arg (kv := 1) hx hb hX hbl hbA hS hl h1 dL_law_328 dL_law_329 dL_law_330 (by decide) dL_law_331 dL_law_332 ?_
  refine L_arg (kv := 2) hx hb hX hbl hbA hS hl h2 dL_law_333 dL_law_334 dL_law_335 (by decide) dL_law_336 dL_law_337 ?_
  obtain ⟨z1, e1, e2⟩ := c_loads (N := N) hC (xs (x3 + 1).toNatClampNeg) (xs (x3 + 2).toNatClampNeg)
  refine L_X (As := [.int (xs (x3 + 1).toNatClampNeg), .int (xs (x3 + 2).toNatClampNeg)]) (rest := []) e1 (fun v z h => mX2_loads l D cI cJ a _ N τ σ (xs (x3 + 1).toNatClampNeg) (xs (x3 + 2).toNatClampNeg) (v, z) h) ⟨hx, hb, hml, hown, hts⟩ (cwV 2 hts gL_law_X2_loads rfl rfl rfl qX2_loads ⟨Nat.le_of_ble_eq_true rfl, Nat.le_of_ble_eq_true rfl⟩) hK hP hD hS hA rfl hl.1 rfl (Nat.le_of_ble_eq_true rfl) dL_law_338 ⟨Nat.le_refl _, Nat.le_refl _⟩ (fun H locs hP hD hS => ?_)
  refine lv_aload_n hx hb dL_law_341 rfl (lv_at hl 2 rfl) ?_
  refine L_arg (kv := 1) hx hb hX hbl hbA hS hl h1 dL_law_342 dL_law_343 dL_law_344 (by decide) dL_law_345 dL_law_346 ?_
  refine L_arg (kv := 2) hx hb hX hbl hbA hS hl h2 dL_law_347 dL_law_348 dL_law_349 (by decide) dL_law_350 dL_law_351 ?_
  obtain ⟨z2, e3, e4⟩ := m_loads (N := N) hM (xs (x3 + 1).toNatClampNeg) (xs (x3 + 2).toNatClampNeg)
  refine L_M (As := [.int (xs (x3 + 1).toNatClampNeg), .int (xs (x3 + 2).toNatClampNeg)]) (rest := [.int _]) e3 (fun v z h => mX3_loads l D cI cJ b' _ N ρ (xs (x3 + 1).toNatClampNeg) (xs (x3 + 2).toNatClampNeg) (v, z) h) ⟨hx, hb, hml, hown, hts⟩ (cwV 2 hts gL_law_X3_loads rfl rfl rfl qX3_loads ⟨Nat.le_of_ble_eq_true rfl, Nat.le_of_ble_eq_true rfl⟩) hK hP hD hS hA rfl hl.1 rfl (Nat.le_of_ble_eq_true rfl) dL_law_352 ⟨Nat.le_refl _, Nat.le_refl _⟩ (fun H locs hP hD hS => ?_)
  refine lv_icmp_eq (tgt := 1182) hx hb dL_law_355 (by decide) (fun _ => ?_) (fun q => absurd rfl q)
  exact fin τ z1 z2 _ H locs ⟨hP, hD, hS, e2, e4, a_loads hAI (xs (x3 + 1).toNatClampNeg) (xs (x3 + 2).toNatClampNeg)⟩
set_option maxHeartbeats 4000000 in
set_option maxRecDepth 100000 in
theorem lawc_6 {p : Program} {l : Launch} {e : Env} {s : State} {m : MethodId} {below : List Frame} {meth : Method} {c : Code} {b L : Nat} {xs : Nat → Int32} (C0 : lw_At p s m meth c b L xs) {D : va_G} {cI cJ : ClassId} {ad av a b' : Nat → Nat} (hX9 : SX ad av (fun q : Nat => s.heap.size ≤ q) s s.heap) (hK : va_K D vwCl (tyIJ cI cJ) s) {N : Nat} (hN : 600 < N) {x3 : Int32} (h1 : vp_in (x3 + 1) L) (h2 : vp_in (x3 + 2) L) (h3 : vp_in (x3 + 3) L) (h4 : vp_in (x3 + 4) L) {ls : Array Slot} (hl : lv_has ls 4 [(0, .ref b), (1, .ref (a 0)), (2, .ref (b' 0)), (3, .int x3)]) {H : Heap} {locs : List Loc} {τ : LSt} {σ ρ A : St} (hI : LI D cI cJ a b' s τ σ ρ A H locs) (fin : ∀ (τ : LSt) (σ ρ A : St) (H : Heap) (locs : List Loc), LI D cI cJ a b' s τ σ ρ A H locs → W p l e room_1 s m #[Value.ref b] below meth c H locs 38 707 (lw_Z below #[Value.ref b] s) (F0 m 1182 ls [])) : W p l e room_1 s m #[Value.ref b] below meth c H locs 38 707 (lw_Z below #[Value.ref b] s) (F0 m 360 ls []) := by
  obtain ⟨hx, hb, hr, hml, hown, hts0, hX, hbl, hlocks, hgv⟩ := C0
  have hts : ∀ w ∈ wsL_law, w.before #[Value.ref b] s = true := fun w h => hts0 w (wsL_law_in w h)
  have hown : s.vm.findClass RL = some m.cls := hown
  have hb : c.code = cL_law := hb
  have hA : ∀ q : Nat, s.heap.size ≤ q → (fun q : Nat => s.heap.size ≤ q) q := fun _ h => h
  have hbA : ¬ (fun q : Nat => s.heap.size ≤ q) b := Nat.not_le.mpr hbl
  obtain ⟨hP, hD, hS, hC, hM, hAI⟩ := hI
  refine lv_aload_n hx hb dL_law_360 rfl (lv_at hl 1 rfl) ?_
  refine L_arg (kv := 1) hx hb hX hbl hbA hS hl h1 dL_law_361 dL_law_362 dL_law_363 (by decide) dL_law_364 dL_law_365 ?_
  obtain ⟨z1, e1, e2⟩ := c_lifts (N := N) hC (xs (x3 + 1).toNatClampNeg)
  refine L_X (As := [.int (xs (x3 + 1).toNatClampNeg)]) (rest := []) e1 (fun v z h => mX2_lifts l D cI cJ a _ N τ σ (xs (x3 + 1).toNatClampNeg) (v, z) h) ⟨hx, hb, hml, hown, hts⟩ (cwV 1 hts gL_law_X2_lifts rfl rfl rfl qX2_lifts ⟨Nat.le_of_ble_eq_true rfl, Nat.le_of_ble_eq_true rfl⟩) hK hP hD hS hA rfl hl.1 rfl (Nat.le_of_ble_eq_true rfl) dL_law_366 ⟨Nat.le_refl _, Nat.le_refl _⟩ (fun H locs hP hD hS => ?_)
  refine lv_aload_n hx hb dL_law_369 rfl (lv_at hl 2 rfl) ?_
  refine L_arg (kv := 1) hx hb hX hbl hbA hS hl h1 dL_law_370 dL_law_371 dL_law_372 (by decide) dL_law_373 dL_law_374 ?_
  obtain ⟨z2, e3, e4⟩ := m_lifts (N := N) hM (xs (x3 + 1).toNatClampNeg)
  refine L_M (As := [.int (xs (x3 + 1).toNatClampNeg)]) (rest := [.int _]) e3 (fun v z h => mX3_lifts l D cI cJ b' _ N ρ (xs (x3 + 1).toNatClampNeg) (v, z) h) ⟨hx, hb, hml, hown, hts⟩ (cwV 1 hts gL_law_X3_lifts rfl rfl rfl qX3_lifts ⟨Nat.le_of_ble_eq_true rfl, Nat.le_of_ble_eq_true rfl⟩) hK hP hD hS hA rfl hl.1 rfl (Nat.le_of_ble_eq_true rfl) dL_law_375 ⟨Nat.le_refl _, Nat.le_refl _⟩ (fun H locs hP hD hS => ?_)
  refine lv_icmp_eq (tgt := 1182) hx hb dL_law_378 (by decide) (fun _ => ?_) (fun q => absurd rfl q)
  exact fin τ z1 z2 _ H locs ⟨hP, hD, hS, e2, e4, a_lifts hAI (xs (x3 + 1).toNatClampNeg)⟩
set_option maxHeartbeats 4000000 in
set_option maxRecDepth 100000 in
theorem lawc_7 {p : Program} {l : Launch} {e : Env} {s : State} {m : MethodId} {below : List Frame} {meth : Method} {c : Code} {b L : Nat} {xs : Nat → Int32} (C0 : lw_At p s m meth c b L xs) {D : va_G} {cI cJ : ClassId} {ad av a b' : Nat → Nat} (hX9 : SX ad av (fun q : Nat => s.heap.size ≤ q) s s.heap) (hK : va_K D vwCl (tyIJ cI cJ) s) {N : Nat} (hN : 600 < N) {x3 : Int32} (h1 : vp_in (x3 + 1) L) (h2 : vp_in (x3 + 2) L) (h3 : vp_in (x3 + 3) L) (h4 : vp_in (x3 + 4) L) {ls : Array Slot} (hl : lv_has ls 4 [(0, .ref b), (1, .ref (a 0)), (2, .ref (b' 0)), (3, .int x3)]) {H : Heap} {locs : List Loc} {τ : LSt} {σ ρ A : St} (hI : LI D cI cJ a b' s τ σ ρ A H locs) (fin : ∀ (τ : LSt) (σ ρ A : St) (H : Heap) (locs : List Loc), LI D cI cJ a b' s τ σ ρ A H locs → W p l e room_1 s m #[Value.ref b] below meth c H locs 38 707 (lw_Z below #[Value.ref b] s) (F0 m 1182 ls [])) : W p l e room_1 s m #[Value.ref b] below meth c H locs 38 707 (lw_Z below #[Value.ref b] s) (F0 m 383 ls []) := by
  obtain ⟨hx, hb, hr, hml, hown, hts0, hX, hbl, hlocks, hgv⟩ := C0
  have hts : ∀ w ∈ wsL_law, w.before #[Value.ref b] s = true := fun w h => hts0 w (wsL_law_in w h)
  have hown : s.vm.findClass RL = some m.cls := hown
  have hb : c.code = cL_law := hb
  have hA : ∀ q : Nat, s.heap.size ≤ q → (fun q : Nat => s.heap.size ≤ q) q := fun _ h => h
  have hbA : ¬ (fun q : Nat => s.heap.size ≤ q) b := Nat.not_le.mpr hbl
  obtain ⟨hP, hD, hS, hC, hM, hAI⟩ := hI
  refine lv_aload_n hx hb dL_law_383 rfl (lv_at hl 1 rfl) ?_
  refine L_arg (kv := 1) hx hb hX hbl hbA hS hl h1 dL_law_384 dL_law_385 dL_law_386 (by decide) dL_law_387 dL_law_388 ?_
  obtain ⟨z1, e1, e2⟩ := c_doors (N := N) hC hAI (xs (x3 + 1).toNatClampNeg)
  refine L_X (As := [.int (xs (x3 + 1).toNatClampNeg)]) (rest := []) e1 (fun v z h => mX2_doors l D cI cJ a _ N τ σ (xs (x3 + 1).toNatClampNeg) (v, z) h) ⟨hx, hb, hml, hown, hts⟩ (cwV 1 hts gL_law_X2_doors rfl rfl rfl qX2_doors ⟨Nat.le_of_ble_eq_true rfl, Nat.le_of_ble_eq_true rfl⟩) hK hP hD hS hA rfl hl.1 rfl (Nat.le_of_ble_eq_true rfl) dL_law_389 ⟨Nat.le_refl _, Nat.le_refl _⟩ (fun H locs hP hD hS => ?_)
  refine lv_aload_n hx hb dL_law_392 rfl (lv_at hl 2 rfl) ?_
  refine L_arg (kv := 1) hx hb hX hbl hbA hS hl h1 dL_law_393 dL_law_394 dL_law_395 (by decide) dL_law_396 dL_law_397 ?_
  obtain ⟨z2, e3, e4⟩ := m_doors (N := N) hM (xs (x3 + 1).toNatClampNeg)
  refine L_M (As := [.int (xs (x3 + 1).toNatClampNeg)]) (rest := [.int _]) e3 (fun v z h => mX3_doors l D cI cJ b' _ N ρ (xs (x3 + 1).toNatClampNeg) (v, z) h) ⟨hx, hb, hml, hown, hts⟩ (cwV 1 hts gL_law_X3_doors rfl rfl rfl qX3_doors ⟨Nat.le_of_ble_eq_true rfl, Nat.le_of_ble_eq_true rfl⟩) hK hP hD hS hA rfl hl.1 rfl (Nat.le_of_ble_eq_true rfl) dL_law_398 ⟨Nat.le_refl _, Nat.le_refl _⟩ (fun H locs hP hD hS => ?_)
  refine lv_icmp_eq (tgt := 1182) hx hb dL_law_401 (by decide) (fun _ => ?_) (fun q => absurd rfl q)
  exact fin τ z1 z2 _ H locs ⟨hP, hD, hS, e2, e4, a_doors hAI (xs (x3 + 1).toNatClampNeg)⟩
set_option maxHeartbeats 4000000 in
set_option maxRecDepth 100000 in
theorem lawc_8 {p : Program} {l : Launch} {e : Env} {s : State} {m : MethodId} {below : List Frame} {meth : Method} {c : Code} {b L : Nat} {xs : Nat → Int32} (C0 : lw_At p s m meth c b L xs) {D : va_G} {cI cJ : ClassId} {ad av a b' : Nat → Nat} (hX9 : SX ad av (fun q : Nat => s.heap.size ≤ q) s s.heap) (hK : va_K D vwCl (tyIJ cI cJ) s) {N : Nat} (hN : 600 < N) {x3 : Int32} (h1 : vp_in (x3 + 1) L) (h2 : vp_in (x3 + 2) L) (h3 : vp_in (x3 + 3) L) (h4 : vp_in (x3 + 4) L) {ls : Array Slot} (hl : lv_has ls 4 [(0, .ref b), (1, .ref (a 0)), (2, .ref (b' 0)), (3, .int x3)]) {H : Heap} {locs : List Loc} {τ : LSt} {σ ρ A : St} (hI : LI D cI cJ a b' s τ σ ρ A H locs) (fin : ∀ (τ : LSt) (σ ρ A : St) (H : Heap) (locs : List Loc), LI D cI cJ a b' s τ σ ρ A H locs → W p l e room_1 s m #[Value.ref b] below meth c H locs 38 707 (lw_Z below #[Value.ref b] s) (F0 m 1182 ls [])) : W p l e room_1 s m #[Value.ref b] below meth c H locs 38 707 (lw_Z below #[Value.ref b] s) (F0 m 406 ls []) := by
  obtain ⟨hx, hb, hr, hml, hown, hts0, hX, hbl, hlocks, hgv⟩ := C0
  have hts : ∀ w ∈ wsL_law, w.before #[Value.ref b] s = true := fun w h => hts0 w (wsL_law_in w h)
  have hown : s.vm.findClass RL = some m.cls := hown
  have hb : c.code = cL_law := hb
  have hA : ∀ q : Nat, s.heap.size ≤ q → (fun q : Nat => s.heap.size ≤ q) q := fun _ h => h
  have hbA : ¬ (fun q : Nat => s.heap.size ≤ q) b := Nat.not_le.mpr hbl
  obtain ⟨hP, hD, hS, hC, hM, hAI⟩ := hI
  refine lv_aload_n hx hb dL_law_406 rfl (lv_at hl 1 rfl) ?_
  refine L_arg (kv := 1) hx hb hX hbl hbA hS hl h1 dL_law_407 dL_law_408 dL_law_409 (by decide) dL_law_410 dL_law_411 ?_
  refine L_arg (kv := 2) hx hb hX hbl hbA hS hl h2 dL_law_412 dL_law_413 dL_law_414 (by decide) dL_law_415 dL_law_416 ?_
  refine L_arg (kv := 3) hx hb hX hbl hbA hS hl h3 dL_law_417 dL_law_418 dL_law_419 (by decide) dL_law_420 dL_law_421 ?_
  obtain ⟨z1, e1, e2⟩ := c_turn (N := N) hC hAI (xs (x3 + 1).toNatClampNeg) (xs (x3 + 2).toNatClampNeg) (xs (x3 + 3).toNatClampNeg)
  refine L_X (As := [.int (xs (x3 + 1).toNatClampNeg), .int (xs (x3 + 2).toNatClampNeg), .int (xs (x3 + 3).toNatClampNeg)]) (rest := []) e1 (fun v z h => mX2_turn l D cI cJ a _ N τ σ (xs (x3 + 1).toNatClampNeg) (xs (x3 + 2).toNatClampNeg) (xs (x3 + 3).toNatClampNeg) (v, z) h) ⟨hx, hb, hml, hown, hts⟩ (cwV 3 hts gL_law_X2_turn rfl rfl rfl qX2_turn ⟨Nat.le_of_ble_eq_true rfl, Nat.le_of_ble_eq_true rfl⟩) hK hP hD hS hA rfl hl.1 rfl (Nat.le_of_ble_eq_true rfl) dL_law_422 ⟨Nat.le_refl _, Nat.le_refl _⟩ (fun H locs hP hD hS => ?_)
  refine lv_aload_n hx hb dL_law_425 rfl (lv_at hl 2 rfl) ?_
  refine L_arg (kv := 1) hx hb hX hbl hbA hS hl h1 dL_law_426 dL_law_427 dL_law_428 (by decide) dL_law_429 dL_law_430 ?_
  refine L_arg (kv := 2) hx hb hX hbl hbA hS hl h2 dL_law_431 dL_law_432 dL_law_433 (by decide) dL_law_434 dL_law_435 ?_
  refine L_arg (kv := 3) hx hb hX hbl hbA hS hl h3 dL_law_436 dL_law_437 dL_law_438 (by decide) dL_law_439 dL_law_440 ?_
  obtain ⟨z2, e3, e4⟩ := m_turn (N := N) hM hAI (xs (x3 + 1).toNatClampNeg) (xs (x3 + 2).toNatClampNeg) (xs (x3 + 3).toNatClampNeg)
  refine L_M (As := [.int (xs (x3 + 1).toNatClampNeg), .int (xs (x3 + 2).toNatClampNeg), .int (xs (x3 + 3).toNatClampNeg)]) (rest := [.int _]) e3 (fun v z h => mX3_turn l D cI cJ b' _ N ρ (xs (x3 + 1).toNatClampNeg) (xs (x3 + 2).toNatClampNeg) (xs (x3 + 3).toNatClampNeg) (v, z) h) ⟨hx, hb, hml, hown, hts⟩ (cwV 3 hts gL_law_X3_turn rfl rfl rfl qX3_turn ⟨Nat.le_of_ble_eq_true rfl, Nat.le_of_ble_eq_true rfl⟩) hK hP hD hS hA rfl hl.1 rfl (Nat.le_of_ble_eq_true rfl) dL_law_441 ⟨Nat.le_refl _, Nat.le_refl _⟩ (fun H locs hP hD hS => ?_)
  refine lv_icmp_eq (tgt := 1182) hx hb dL_law_444 (by decide) (fun _ => ?_) (fun q => absurd rfl q)
  exact fin τ z1 z2 _ H locs ⟨hP, hD, hS, e2, e4, a_turn hAI (xs (x3 + 1).toNatClampNeg) (xs (x3 + 2).toNatClampNeg) (xs (x3 + 3).toNatClampNeg)⟩
set_option maxHeartbeats 4000000 in
set_option maxRecDepth 100000 in
theorem lawc_9 {p : Program} {l : Launch} {e : Env} {s : State} {m : MethodId} {below : List Frame} {meth : Method} {c : Code} {b L : Nat} {xs : Nat → Int32} (C0 : lw_At p s m meth c b L xs) {D : va_G} {cI cJ : ClassId} {ad av a b' : Nat → Nat} (hX9 : SX ad av (fun q : Nat => s.heap.size ≤ q) s s.heap) (hK : va_K D vwCl (tyIJ cI cJ) s) {N : Nat} (hN : 600 < N) {x3 : Int32} (h1 : vp_in (x3 + 1) L) (h2 : vp_in (x3 + 2) L) (h3 : vp_in (x3 + 3) L) (h4 : vp_in (x3 + 4) L) {ls : Array Slot} (hl : lv_has ls 4 [(0, .ref b), (1, .ref (a 0)), (2, .ref (b' 0)), (3, .int x3)]) {H : Heap} {locs : List Loc} {τ : LSt} {σ ρ A : St} (hI : LI D cI cJ a b' s τ σ ρ A H locs) (fin : ∀ (τ : LSt) (σ ρ A : St) (H : Heap) (locs : List Loc), LI D cI cJ a b' s τ σ ρ A H locs → W p l e room_1 s m #[Value.ref b] below meth c H locs 38 707 (lw_Z below #[Value.ref b] s) (F0 m 1182 ls [])) : W p l e room_1 s m #[Value.ref b] below meth c H locs 38 707 (lw_Z below #[Value.ref b] s) (F0 m 449 ls []) := by
  obtain ⟨hx, hb, hr, hml, hown, hts0, hX, hbl, hlocks, hgv⟩ := C0
  have hts : ∀ w ∈ wsL_law, w.before #[Value.ref b] s = true := fun w h => hts0 w (wsL_law_in w h)
  have hown : s.vm.findClass RL = some m.cls := hown
  have hb : c.code = cL_law := hb
  have hA : ∀ q : Nat, s.heap.size ≤ q → (fun q : Nat => s.heap.size ≤ q) q := fun _ h => h
  have hbA : ¬ (fun q : Nat => s.heap.size ≤ q) b := Nat.not_le.mpr hbl
  obtain ⟨hP, hD, hS, hC, hM, hAI⟩ := hI
  refine lv_aload_n hx hb dL_law_449 rfl (lv_at hl 1 rfl) ?_
  refine L_arg (kv := 1) hx hb hX hbl hbA hS hl h1 dL_law_450 dL_law_451 dL_law_452 (by decide) dL_law_453 dL_law_454 ?_
  obtain ⟨z1, e1, e2⟩ := c_days (N := N) (by omega) hC hAI (xs (x3 + 1).toNatClampNeg)
  refine L_X (As := [.int (xs (x3 + 1).toNatClampNeg)]) (rest := []) e1 (fun v z h => mX2_days l D cI cJ a _ N τ σ (xs (x3 + 1).toNatClampNeg) (v, z) h) ⟨hx, hb, hml, hown, hts⟩ (cwV 1 hts gL_law_X2_days rfl rfl rfl qX2_days ⟨Nat.le_of_ble_eq_true rfl, Nat.le_of_ble_eq_true rfl⟩) hK hP hD hS hA rfl hl.1 rfl (Nat.le_of_ble_eq_true rfl) dL_law_455 ⟨Nat.le_refl _, Nat.le_refl _⟩ (fun H locs hP hD hS => ?_)
  refine lv_aload_n hx hb dL_law_458 rfl (lv_at hl 2 rfl) ?_
  refine L_arg (kv := 1) hx hb hX hbl hbA hS hl h1 dL_law_459 dL_law_460 dL_law_461 (by decide) dL_law_462 dL_law_463 ?_
  obtain ⟨z2, e3, e4⟩ := m_days' (N := N) (by omega) hM hAI (xs (x3 + 1).toNatClampNeg)
  refine L_M (As := [.int (xs (x3 + 1).toNatClampNeg)]) (rest := [.int _]) e3 (fun v z h => mX3_days l D cI cJ b' _ N ρ (xs (x3 + 1).toNatClampNeg) (v, z) h) ⟨hx, hb, hml, hown, hts⟩ (cwV 1 hts gL_law_X3_days rfl rfl rfl qX3_days ⟨Nat.le_of_ble_eq_true rfl, Nat.le_of_ble_eq_true rfl⟩) hK hP hD hS hA rfl hl.1 rfl (Nat.le_of_ble_eq_true rfl) dL_law_464 ⟨Nat.le_refl _, Nat.le_refl _⟩ (fun H locs hP hD hS => ?_)
  refine lv_icmp_eq (tgt := 1182) hx hb dL_law_467 (by decide) (fun _ => ?_) (fun q => absurd rfl q)
  exact fin τ z1 z2 _ H locs ⟨hP, hD, hS, e2, e4, a_days hAI (xs (x3 + 1).toNatClampNeg)⟩
set_option maxHeartbeats 4000000 in
set_option maxRecDepth 100000 in
theorem lawc_10 {p : Program} {l : Launch} {e : Env} {s : State} {m : MethodId} {below : List Frame} {meth : Method} {c : Code} {b L : Nat} {xs : Nat → Int32} (C0 : lw_At p s m meth c b L xs) {D : va_G} {cI cJ : ClassId} {ad av a b' : Nat → Nat} (hX9 : SX ad av (fun q : Nat => s.heap.size ≤ q) s s.heap) (hK : va_K D vwCl (tyIJ cI cJ) s) {N : Nat} (hN : 600 < N) {x3 : Int32} (h1 : vp_in (x3 + 1) L) (h2 : vp_in (x3 + 2) L) (h3 : vp_in (x3 + 3) L) (h4 : vp_in (x3 + 4) L) {ls : Array Slot} (hl : lv_has ls 4 [(0, .ref b), (1, .ref (a 0)), (2, .ref (b' 0)), (3, .int x3)]) {H : Heap} {locs : List Loc} {τ : LSt} {σ ρ A : St} (hI : LI D cI cJ a b' s τ σ ρ A H locs) (fin : ∀ (τ : LSt) (σ ρ A : St) (H : Heap) (locs : List Loc), LI D cI cJ a b' s τ σ ρ A H locs → W p l e room_1 s m #[Value.ref b] below meth c H locs 38 707 (lw_Z below #[Value.ref b] s) (F0 m 1182 ls [])) : W p l e room_1 s m #[Value.ref b] below meth c H locs 38 707 (lw_Z below #[Value.ref b] s) (F0 m 472 ls []) := by
  obtain ⟨hx, hb, hr, hml, hown, hts0, hX, hbl, hlocks, hgv⟩ := C0
  have hts : ∀ w ∈ wsL_law, w.before #[Value.ref b] s = true := fun w h => hts0 w (wsL_law_in w h)
  have hown : s.vm.findClass RL = some m.cls := hown
  have hb : c.code = cL_law := hb
  have hA : ∀ q : Nat, s.heap.size ≤ q → (fun q : Nat => s.heap.size ≤ q) q := fun _ h => h
  have hbA : ¬ (fun q : Nat => s.heap.size ≤ q) b := Nat.not_le.mpr hbl
  obtain ⟨hP, hD, hS, hC, hM, hAI⟩ := hI
  refine lv_aload_n hx hb dL_law_472 rfl (lv_at hl 1 rfl) ?_
  refine L_arg (kv := 1) hx hb hX hbl hbA hS hl h1 dL_law_473 dL_law_474 dL_law_475 (by decide) dL_law_476 dL_law_477 ?_
  refine L_arg (kv := 2) hx hb hX hbl hbA hS hl h2 dL_law_478 dL_law_479 dL_law_480 (by decide) dL_law_481 dL_law_482 ?_
  obtain ⟨z1, e1, e2⟩ := c_floorThen (N := N) (by omega) hC hAI (xs (x3 + 1).toNatClampNeg) (xs (x3 + 2).toNatClampNeg)
  refine L_X (As := [.int (xs (x3 + 1).toNatClampNeg), .int (xs (x3 + 2).toNatClampNeg)]) (rest := []) e1 (fun v z h => mX2_floorThen l D cI cJ a _ N τ σ (xs (x3 + 1).toNatClampNeg) (xs (x3 + 2).toNatClampNeg) (v, z) h) ⟨hx, hb, hml, hown, hts⟩ (cwV 2 hts gL_law_X2_floorThen rfl rfl rfl qX2_floorThen ⟨Nat.le_of_ble_eq_true rfl, Nat.le_of_ble_eq_true rfl⟩) hK hP hD hS hA rfl hl.1 rfl (Nat.le_of_ble_eq_true rfl) dL_law_483 ⟨Nat.le_refl _, Nat.le_refl _⟩ (fun H locs hP hD hS => ?_)
  refine lv_aload_n hx hb dL_law_486 rfl (lv_at hl 2 rfl) ?_
  refine L_arg (kv := 1) hx hb hX hbl hbA hS hl h1 dL_law_487 dL_law_488 dL_law_489 (by decide) dL_law_490 dL_law_491 ?_
  refine L_arg (kv := 2) hx hb hX hbl hbA hS hl h2 dL_law_492 dL_law_493 dL_law_494 (by decide) dL_law_495 dL_law_496 ?_
  obtain ⟨z2, e3, e4⟩ := m_floorThen (N := N) (by omega) hM hAI (xs (x3 + 1).toNatClampNeg) (xs (x3 + 2).toNatClampNeg)
  refine L_M (As := [.int (xs (x3 + 1).toNatClampNeg), .int (xs (x3 + 2).toNatClampNeg)]) (rest := [.int _]) e3 (fun v z h => mX3_floorThen l D cI cJ b' _ N ρ (xs (x3 + 1).toNatClampNeg) (xs (x3 + 2).toNatClampNeg) (v, z) h) ⟨hx, hb, hml, hown, hts⟩ (cwV 2 hts gL_law_X3_floorThen rfl rfl rfl qX3_floorThen ⟨Nat.le_of_ble_eq_true rfl, Nat.le_of_ble_eq_true rfl⟩) hK hP hD hS hA rfl hl.1 rfl (Nat.le_of_ble_eq_true rfl) dL_law_497 ⟨Nat.le_refl _, Nat.le_refl _⟩ (fun H locs hP hD hS => ?_)
  refine lv_icmp_eq (tgt := 1182) hx hb dL_law_500 (by decide) (fun _ => ?_) (fun q => absurd rfl q)
  exact fin τ z1 z2 _ H locs ⟨hP, hD, hS, e2, e4, a_floorThen hAI (xs (x3 + 1).toNatClampNeg) (xs (x3 + 2).toNatClampNeg)⟩
set_option maxHeartbeats 4000000 in
set_option maxRecDepth 100000 in
theorem lawc_11 {p : Program} {l : Launch} {e : Env} {s : State} {m : MethodId} {below : List Frame} {meth : Method} {c : Code} {b L : Nat} {xs : Nat → Int32} (C0 : lw_At p s m meth c b L xs) {D : va_G} {cI cJ : ClassId} {ad av a b' : Nat → Nat} (hX9 : SX ad av (fun q : Nat => s.heap.size ≤ q) s s.heap) (hK : va_K D vwCl (tyIJ cI cJ) s) {N : Nat} (hN : 600 < N) {x3 : Int32} (h1 : vp_in (x3 + 1) L) (h2 : vp_in (x3 + 2) L) (h3 : vp_in (x3 + 3) L) (h4 : vp_in (x3 + 4) L) {ls : Array Slot} (hl : lv_has ls 4 [(0, .ref b), (1, .ref (a 0)), (2, .ref (b' 0)), (3, .int x3)]) {H : Heap} {locs : List Loc} {τ : LSt} {σ ρ A : St} (hI : LI D cI cJ a b' s τ σ ρ A H locs) (fin : ∀ (τ : LSt) (σ ρ A : St) (H : Heap) (locs : List Loc), LI D cI cJ a b' s τ σ ρ A H locs → W p l e room_1 s m #[Value.ref b] below meth c H locs 38 707 (lw_Z below #[Value.ref b] s) (F0 m 1182 ls [])) : W p l e room_1 s m #[Value.ref b] below meth c H locs 38 707 (lw_Z below #[Value.ref b] s) (F0 m 505 ls []) := by
  obtain ⟨hx, hb, hr, hml, hown, hts0, hX, hbl, hlocks, hgv⟩ := C0
  have hts : ∀ w ∈ wsL_law, w.before #[Value.ref b] s = true := fun w h => hts0 w (wsL_law_in w h)
  have hown : s.vm.findClass RL = some m.cls := hown
  have hb : c.code = cL_law := hb
  have hA : ∀ q : Nat, s.heap.size ≤ q → (fun q : Nat => s.heap.size ≤ q) q := fun _ h => h
  have hbA : ¬ (fun q : Nat => s.heap.size ≤ q) b := Nat.not_le.mpr hbl
  obtain ⟨hP, hD, hS, hC, hM, hAI⟩ := hI
  refine lv_aload_n hx hb dL_law_505 rfl (lv_at hl 1 rfl) ?_
  refine L_arg (kv := 1) hx hb hX hbl hbA hS hl h1 dL_law_506 dL_law_507 dL_law_508 (by decide) dL_law_509 dL_law_510 ?_
  refine L_arg (kv := 2) hx hb hX hbl hbA hS hl h2 dL_law_511 dL_law_512 dL_law_513 (by decide) dL_law_514 dL_law_515 ?_
  obtain ⟨z1, e1, e2⟩ := c_weighsThen (N := N) hC hAI (xs (x3 + 1).toNatClampNeg) (xs (x3 + 2).toNatClampNeg)
  refine L_X (As := [.int (xs (x3 + 1).toNatClampNeg), .int (xs (x3 + 2).toNatClampNeg)]) (rest := []) e1 (fun v z h => mX2_weighsThen l D cI cJ a _ N τ σ (xs (x3 + 1).toNatClampNeg) (xs (x3 + 2).toNatClampNeg) (v, z) h) ⟨hx, hb, hml, hown, hts⟩ (cwV 2 hts gL_law_X2_weighsThen rfl rfl rfl qX2_weighsThen ⟨Nat.le_of_ble_eq_true rfl, Nat.le_of_ble_eq_true rfl⟩) hK hP hD hS hA rfl hl.1 rfl (Nat.le_of_ble_eq_true rfl) dL_law_516 ⟨Nat.le_refl _, Nat.le_refl _⟩ (fun H locs hP hD hS => ?_)
  refine lv_aload_n hx hb dL_law_519 rfl (lv_at hl 2 rfl) ?_
  refine L_arg (kv := 1) hx hb hX hbl hbA hS hl h1 dL_law_520 dL_law_521 dL_law_522 (by decide) dL_law_523 dL_law_524 ?_
  refine L_arg (kv := 2) hx hb hX hbl hbA hS hl h2 dL_law_525 dL_law_526 dL_law_527 (by decide) dL_law_528 dL_law_529 ?_
  obtain ⟨z2, e3, e4⟩ := m_weighsThen (N := N) hM hAI (xs (x3 + 1).toNatClampNeg) (xs (x3 + 2).toNatClampNeg)
  refine L_M (As := [.int (xs (x3 + 1).toNatClampNeg), .int (xs (x3 + 2).toNatClampNeg)]) (rest := [.int _]) e3 (fun v z h => mX3_weighsThen l D cI cJ b' _ N ρ (xs (x3 + 1).toNatClampNeg) (xs (x3 + 2).toNatClampNeg) (v, z) h) ⟨hx, hb, hml, hown, hts⟩ (cwV 2 hts gL_law_X3_weighsThen rfl rfl rfl qX3_weighsThen ⟨Nat.le_of_ble_eq_true rfl, Nat.le_of_ble_eq_true rfl⟩) hK hP hD hS hA rfl hl.1 rfl (Nat.le_of_ble_eq_true rfl) dL_law_530 ⟨Nat.le_refl _, Nat.le_refl _⟩ (fun H locs hP hD hS => ?_)
  refine lv_icmp_eq (tgt := 1182) hx hb dL_law_533 (by decide) (fun _ => ?_) (fun q => absurd rfl q)
  exact fin τ z1 z2 _ H locs ⟨hP, hD, hS, e2, e4, a_weighsThen hAI (xs (x3 + 1).toNatClampNeg) (xs (x3 + 2).toNatClampNeg)⟩
