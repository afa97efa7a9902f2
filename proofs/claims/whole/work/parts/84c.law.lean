set_option maxHeartbeats 4000000 in
set_option maxRecDepth 100000 in
theorem lawc_24 {p : Program} {l : Launch} {e : Env} {s : State} {m : MethodId} {below : List Frame} {meth : Method} {c : Code} {b L : Nat} {xs : Nat → Int32} (C0 : lw_At p s m meth c b L xs) {D : va_G} {cI cJ : ClassId} {ad av a b' : Nat → Nat} (hX9 : SX ad av (fun q : Nat => s.heap.size ≤ q) s s.heap) (hK : va_K D vwCl (tyIJ cI cJ) s) {N : Nat} (hN : 600 < N) {x3 : Int32} (h1 : vp_in (x3 + 1) L) (h2 : vp_in (x3 + 2) L) (h3 : vp_in (x3 + 3) L) (h4 : vp_in (x3 + 4) L) {ls : Array Slot} (hl : lv_has ls 4 [(0, .ref b), (1, .ref (a 0)), (2, .ref (b' 0)), (3, .int x3)]) {H : Heap} {locs : List Loc} {τ : LSt} {σ ρ A : St} (hI : LI D cI cJ a b' s τ σ ρ A H locs) (fin : ∀ (τ : LSt) (σ ρ A : St) (H : Heap) (locs : List Loc), LI D cI cJ a b' s τ σ ρ A H locs → W p l e room_1 s m #[Value.ref b] below meth c H locs 38 707 (lw_Z below #[Value.ref b] s) (F0 m 1182 ls [])) : W p l e room_1 s m #[Value.ref b] below meth c H locs 38 707 (lw_Z below #[Value.ref b] s) (F0 m 864 ls []) := by
  obtain ⟨hx, hb, hr, hml, hown, hts0, hX, hbl, hlocks, hgv⟩ := C0
  have hts : ∀ w ∈ wsL_law, w.before #[Value.ref b] s = true := fun w h => hts0 w (wsL_law_in w h)
  have hown : s.vm.findClass RL = some m.cls := hown
  have hb : c.code = cL_law := hb
  have hA : ∀ q : Nat, s.heap.size ≤ q → (fun q : Nat => s.heap.size ≤ q) q := fun _ h => h
  have hbA : ¬ (fun q : Nat => s.heap.size ≤ q) b := Nat.not_le.mpr hbl
  obtain ⟨hP, hD, hS, hC, hM, hAI⟩ := hI
  refine lv_aload_n hx hb dL_law_864 rfl (lv_at hl 1 rfl) ?_
  refine L_arg (kv := 1) hx hb hX hbl hbA hS hl h1 dL_law_865 dL_law_866 dL_law_867 (by decide) dL_law_868 dL_law_869 ?_
  obtain ⟨z1, e1, e2⟩ := c_heaviest (N := N) (by omega) hC hAI (xs (x3 + 1).toNatClampNeg)
  refine L_X (As := [.int (xs (x3 + 1).toNatClampNeg)]) (rest := []) e1 (fun v z h => mX2_heaviest l D cI cJ a _ N τ σ (xs (x3 + 1).toNatClampNeg) (v, z) h) ⟨hx, hb, hml, hown, hts⟩ (cwV 1 hts gL_law_X2_heaviest rfl rfl rfl qX2_heaviest ⟨Nat.le_of_ble_eq_true rfl, Nat.le_of_ble_eq_true rfl⟩) hK hP hD hS hA rfl hl.1 rfl (Nat.le_of_ble_eq_true rfl) dL_law_870 ⟨Nat.le_refl _, Nat.le_refl _⟩ (fun H locs hP hD hS => ?_)
  refine lv_aload_n hx hb dL_law_873 rfl (lv_at hl 2 rfl) ?_
  refine L_arg (kv := 1) hx hb hX hbl hbA hS hl h1 dL_law_874 dL_law_875 dL_law_876 (by decide) dL_law_877 dL_law_878 ?_
  obtain ⟨z2, e3, e4⟩ := m_heaviest (N := N) (by omega) hM hAI (xs (x3 + 1).toNatClampNeg)
  refine L_M (As := [.int (xs (x3 + 1).toNatClampNeg)]) (rest := [.int _]) e3 (fun v z h => mX3_heaviest l D cI cJ b' _ N ρ (xs (x3 + 1).toNatClampNeg) (v, z) h) ⟨hx, hb, hml, hown, hts⟩ (cwV 1 hts gL_law_X3_heaviest rfl rfl rfl qX3_heaviest ⟨Nat.le_of_ble_eq_true rfl, Nat.le_of_ble_eq_true rfl⟩) hK hP hD hS hA rfl hl.1 rfl (Nat.le_of_ble_eq_true rfl) dL_law_879 ⟨Nat.le_refl _, Nat.le_refl _⟩ (fun H locs hP hD hS => ?_)
  refine lv_icmp_eq (tgt := 1182) hx hb dL_law_882 (by decide) (fun _ => ?_) (fun q => absurd rfl q)
  exact fin τ z1 z2 _ H locs ⟨hP, hD, hS, e2, e4, a_heaviest hAI (xs (x3 + 1).toNatClampNeg)⟩
set_option maxHeartbeats 4000000 in
set_option maxRecDepth 100000 in
theorem lawc_25 {p : Program} {l : Launch} {e : Env} {s : State} {m : MethodId} {below : List Frame} {meth : Method} {c : Code} {b L : Nat} {xs : Nat → Int32} (C0 : lw_At p s m meth c b L xs) {D : va_G} {cI cJ : ClassId} {ad av a b' : Nat → Nat} (hX9 : SX ad av (fun q : Nat => s.heap.size ≤ q) s s.heap) (hK : va_K D vwCl (tyIJ cI cJ) s) {N : Nat} (hN : 600 < N) {x3 : Int32} (h1 : vp_in (x3 + 1) L) (h2 : vp_in (x3 + 2) L) (h3 : vp_in (x3 + 3) L) (h4 : vp_in (x3 + 4) L) {ls : Array Slot} (hl : lv_has ls 4 [(0, .ref b), (1, .ref (a 0)), (2, .ref (b' 0)), (3, .int x3)]) {H : Heap} {locs : List Loc} {τ : LSt} {σ ρ A : St} (hI : LI D cI cJ a b' s τ σ ρ A H locs) (fin : ∀ (τ : LSt) (σ ρ A : St) (H : Heap) (locs : List Loc), LI D cI cJ a b' s τ σ ρ A H locs → W p l e room_1 s m #[Value.ref b] below meth c H locs 38 707 (lw_Z below #[Value.ref b] s) (F0 m 1182 ls [])) : W p l e room_1 s m #[Value.ref b] below meth c H locs 38 707 (lw_Z below #[Value.ref b] s) (F0 m 887 ls []) := by
  obtain ⟨hx, hb, hr, hml, hown, hts0, hX, hbl, hlocks, hgv⟩ := C0
  have hts : ∀ w ∈ wsL_law, w.before #[Value.ref b] s = true := fun w h => hts0 w (wsL_law_in w h)
  have hown : s.vm.findClass RL = some m.cls := hown
  have hb : c.code = cL_law := hb
  have hA : ∀ q : Nat, s.heap.size ≤ q → (fun q : Nat => s.heap.size ≤ q) q := fun _ h => h
  have hbA : ¬ (fun q : Nat => s.heap.size ≤ q) b := Nat.not_le.mpr hbl
  obtain ⟨hP, hD, hS, hC, hM, hAI⟩ := hI
  refine lv_aload_n hx hb dL_law_887 rfl (lv_at hl 1 rfl) ?_
  refine L_arg (kv := 1) hx hb hX hbl hbA hS hl h1 dL_law_888 dL_law_889 dL_law_890 (by decide) dL_law_891 dL_law_892 ?_
  refine L_arg (kv := 2) hx hb hX hbl hbA hS hl h2 dL_law_893 dL_law_894 dL_law_895 (by decide) dL_law_896 dL_law_897 ?_
  refine L_arg (kv := 3) hx hb hX hbl hbA hS hl h3 dL_law_898 dL_law_899 dL_law_900 (by decide) dL_law_901 dL_law_902 ?_
  obtain ⟨z1, e1, e2⟩ := c_two (N := N) (by omega) hC hAI (xs (x3 + 1).toNatClampNeg) (xs (x3 + 2).toNatClampNeg) (xs (x3 + 3).toNatClampNeg)
  refine L_X (As := [.int (xs (x3 + 1).toNatClampNeg), .int (xs (x3 + 2).toNatClampNeg), .int (xs (x3 + 3).toNatClampNeg)]) (rest := []) e1 (fun v z h => mX2_two l D cI cJ a _ N τ σ (xs (x3 + 1).toNatClampNeg) (xs (x3 + 2).toNatClampNeg) (xs (x3 + 3).toNatClampNeg) (v, z) h) ⟨hx, hb, hml, hown, hts⟩ (cwV 3 hts gL_law_X2_two rfl rfl rfl qX2_two ⟨Nat.le_of_ble_eq_true rfl, Nat.le_of_ble_eq_true rfl⟩) hK hP hD hS hA rfl hl.1 rfl (Nat.le_of_ble_eq_true rfl) dL_law_903 ⟨Nat.le_refl _, Nat.le_refl _⟩ (fun H locs hP hD hS => ?_)
  refine lv_aload_n hx hb dL_law_906 rfl (lv_at hl 2 rfl) ?_
  refine L_arg (kv := 1) hx hb hX hbl hbA hS hl h1 dL_law_907 dL_law_908 dL_law_909 (by decide) dL_law_910 dL_law_911 ?_
  refine L_arg (kv := 2) hx hb hX hbl hbA hS hl h2 dL_law_912 dL_law_913 dL_law_914 (by decide) dL_law_915 dL_law_916 ?_
  refine L_arg (kv := 3) hx hb hX hbl hbA hS hl h3 dL_law_917 dL_law_918 dL_law_919 (by decide) dL_law_920 dL_law_921 ?_
  obtain ⟨z2, e3, e4⟩ := m_two (N := N) (by omega) hM hAI (xs (x3 + 1).toNatClampNeg) (xs (x3 + 2).toNatClampNeg) (xs (x3 + 3).toNatClampNeg)
  refine L_M (As := [.int (xs (x3 + 1).toNatClampNeg), .int (xs (x3 + 2).toNatClampNeg), .int (xs (x3 + 3).toNatClampNeg)]) (rest := [.int _]) e3 (fun v z h => mX3_two l D cI cJ b' _ N ρ (xs (x3 + 1).toNatClampNeg) (xs (x3 + 2).toNatClampNeg) (xs (x3 + 3).toNatClampNeg) (v, z) h) ⟨hx, hb, hml, hown, hts⟩ (cwV 3 hts gL_law_X3_two rfl rfl rfl qX3_two ⟨Nat.le_of_ble_eq_true rfl, Nat.le_of_ble_eq_true rfl⟩) hK hP hD hS hA rfl hl.1 rfl (Nat.le_of_ble_eq_true rfl) dL_law_922 ⟨Nat.le_refl _, Nat.le_refl _⟩ (fun H locs hP hD hS => ?_)
  refine lv_icmp_eq (tgt := 1182) hx hb dL_law_925 (by decide) (fun _ => ?_) (fun q => absurd rfl q)
  exact fin τ z1 z2 _ H locs ⟨hP, hD, hS, e2, e4, a_two hAI (xs (x3 + 1).toNatClampNeg) (xs (x3 + 2).toNatClampNeg) (xs (x3 + 3).toNatClampNeg)⟩
set_option maxHeartbeats 4000000 in
set_option maxRecDepth 100000 in
theorem lawc_26 {p : Program} {l : Launch} {e : Env} {s : State} {m : MethodId} {below : List Frame} {meth : Method} {c : Code} {b L : Nat} {xs : Nat → Int32} (C0 : lw_At p s m meth c b L xs) {D : va_G} {cI cJ : ClassId} {ad av a b' : Nat → Nat} (hX9 : SX ad av (fun q : Nat => s.heap.size ≤ q) s s.heap) (hK : va_K D vwCl (tyIJ cI cJ) s) {N : Nat} (hN : 600 < N) {x3 : Int32} (h1 : vp_in (x3 + 1) L) (h2 : vp_in (x3 + 2) L) (h3 : vp_in (x3 + 3) L) (h4 : vp_in (x3 + 4) L) {ls : Array Slot} (hl : lv_has ls 4 [(0, .ref b), (1, .ref (a 0)), (2, .ref (b' 0)), (3, .int x3)]) {H : Heap} {locs : List Loc} {τ : LSt} {σ ρ A : St} (hI : LI D cI cJ a b' s τ σ ρ A H locs) (fin : ∀ (τ : LSt) (σ ρ A : St) (H : Heap) (locs : List Loc), LI D cI cJ a b' s τ σ ρ A H locs → W p l e room_1 s m #[Value.ref b] below meth c H locs 38 707 (lw_Z below #[Value.ref b] s) (F0 m 1182 ls [])) : W p l e room_1 s m #[Value.ref b] below meth c H locs 38 707 (lw_Z below #[Value.ref b] s) (F0 m 930 ls []) := by
  obtain ⟨hx, hb, hr, hml, hown, hts0, hX, hbl, hlocks, hgv⟩ := C0
  have hts : ∀ w ∈ wsL_law, w.before #[Value.ref b] s = true := fun w h => hts0 w (wsL_law_in w h)
  have hown : s.vm.findClass RL = some m.cls := hown
  have hb : c.code = cL_law := hb
  have hA : ∀ q : Nat, s.heap.size ≤ q → (fun q : Nat => s.heap.size ≤ q) q := fun _ h => h
  have hbA : ¬ (fun q : Nat => s.heap.size ≤ q) b := Nat.not_le.mpr hbl
  obtain ⟨hP, hD, hS, hC, hM, hAI⟩ := hI
  refine lv_aload_n hx hb dL_law_930 rfl (lv_at hl 1 rfl) ?_
  refine L_arg (kv := 1) hx hb hX hbl hbA hS hl h1 dL_law_931 dL_law_932 dL_law_933 (by decide) dL_law_934 dL_law_935 ?_
  refine L_arg (kv := 2) hx hb hX hbl hbA hS hl h2 dL_law_936 dL_law_937 dL_law_938 (by decide) dL_law_939 dL_law_940 ?_
  refine L_arg (kv := 3) hx hb hX hbl hbA hS hl h3 dL_law_941 dL_law_942 dL_law_943 (by decide) dL_law_944 dL_law_945 ?_
  refine L_arg (kv := 4) hx hb hX hbl hbA hS hl h4 dL_law_946 dL_law_947 dL_law_948 (by decide) dL_law_949 dL_law_950 ?_
  obtain ⟨z1, e1, e2⟩ := c_draught (N := N) (by omega) (z := (σ, τ)) hC hAI (xs (x3 + 1).toNatClampNeg) (xs (x3 + 2).toNatClampNeg) (xs (x3 + 3).toNatClampNeg) (xs (x3 + 4).toNatClampNeg)
  refine L_XL2 (As := [.int (xs (x3 + 1).toNatClampNeg), .int (xs (x3 + 2).toNatClampNeg), .int (xs (x3 + 3).toNatClampNeg), .int (xs (x3 + 4).toNatClampNeg)]) (rest := []) e1 (fun v z h => mX2_draught l D cI cJ a _ N τ σ (xs (x3 + 1).toNatClampNeg) (xs (x3 + 2).toNatClampNeg) (xs (x3 + 3).toNatClampNeg) (xs (x3 + 4).toNatClampNeg) (v, z) h) ⟨hx, hb, hml, hown, hts⟩ (cwV 4 hts gL_law_X2_draught rfl rfl rfl qX2_draught ⟨Nat.le_of_ble_eq_true rfl, Nat.le_of_ble_eq_true rfl⟩) hK hP hD hS hA rfl hl.1 rfl (Nat.le_of_ble_eq_true rfl) dL_law_951 ⟨Nat.le_refl _, Nat.le_refl _⟩ (fun H locs hP hD hS => ?_)
  refine lv_aload_n hx hb dL_law_954 rfl (lv_at hl 2 rfl) ?_
  refine L_arg (kv := 1) hx hb hX hbl hbA hS hl h1 dL_law_955 dL_law_956 dL_law_957 (by decide) dL_law_958 dL_law_959 ?_
  refine L_arg (kv := 2) hx hb hX hbl hbA hS hl h2 dL_law_960 dL_law_961 dL_law_962 (by decide) dL_law_963 dL_law_964 ?_
  refine L_arg (kv := 3) hx hb hX hbl hbA hS hl h3 dL_law_965 dL_law_966 dL_law_967 (by decide) dL_law_968 dL_law_969 ?_
  refine L_arg (kv := 4) hx hb hX hbl hbA hS hl h4 dL_law_970 dL_law_971 dL_law_972 (by decide) dL_law_973 dL_law_974 ?_
  obtain ⟨z2, e3, e4⟩ := m_draught (N := N) (by omega) hM hAI (xs (x3 + 1).toNatClampNeg) (xs (x3 + 2).toNatClampNeg) (xs (x3 + 3).toNatClampNeg) (xs (x3 + 4).toNatClampNeg)
  refine L_ML (As := [.int (xs (x3 + 1).toNatClampNeg), .int (xs (x3 + 2).toNatClampNeg), .int (xs (x3 + 3).toNatClampNeg), .int (xs (x3 + 4).toNatClampNeg)]) (rest := [.long _]) e3 (fun v z h => mX3_draught l D cI cJ b' _ N ρ (xs (x3 + 1).toNatClampNeg) (xs (x3 + 2).toNatClampNeg) (xs (x3 + 3).toNatClampNeg) (xs (x3 + 4).toNatClampNeg) (v, z) h) ⟨hx, hb, hml, hown, hts⟩ (cwV 4 hts gL_law_X3_draught rfl rfl rfl qX3_draught ⟨Nat.le_of_ble_eq_true rfl, Nat.le_of_ble_eq_true rfl⟩) hK hP hD hS hA rfl hl.1 rfl (Nat.le_of_ble_eq_true rfl) dL_law_975 ⟨Nat.le_refl _, Nat.le_refl _⟩ (fun H locs hP hD hS => ?_)
  refine W.lcmp hx hb dL_law_978 (lv_if_eq (tgt := 1182) hx hb dL_law_979 (by decide) (fun _ => ?_) (fun q => absurd ((lg_cmp0 _ _).mpr rfl) q))
  exact fin z1.2 z1.1 z2 _ H locs ⟨hP, hD, hS, e2, e4, a_draught hAI (xs (x3 + 1).toNatClampNeg) (xs (x3 + 2).toNatClampNeg) (xs (x3 + 3).toNatClampNeg) (xs (x3 + 4).toNatClampNeg)⟩
set_option maxHeartbeats 4000000 in
set_option maxRecDepth 100000 in
theorem lawc_27 {p : Program} {l : Launch} {e : Env} {s : State} {m : MethodId} {below : List Frame} {meth : Method} {c : Code} {b L : Nat} {xs : Nat → Int32} (C0 : lw_At p s m meth c b L xs) {D : va_G} {cI cJ : ClassId} {ad av a b' : Nat → Nat} (hX9 : SX ad av (fun q : Nat => s.heap.size ≤ q) s s.heap) (hK : va_K D vwCl (tyIJ cI cJ) s) {N : Nat} (hN : 600 < N) {x3 : Int32} (h1 : vp_in (x3 + 1) L) (h2 : vp_in (x3 + 2) L) (h3 : vp_in (x3 + 3) L) (h4 : vp_in (x3 + 4) L) {ls : Array Slot} (hl : lv_has ls 4 [(0, .ref b), (1, .ref (a 0)), (2, .ref (b' 0)), (3, .int x3)]) {H : Heap} {locs : List Loc} {τ : LSt} {σ ρ A : St} (hI : LI D cI cJ a b' s τ σ ρ A H locs) (fin : ∀ (τ : LSt) (σ ρ A : St) (H : Heap) (locs : List Loc), LI D cI cJ a b' s τ σ ρ A H locs → W p l e room_1 s m #[Value.ref b] below meth c H locs 38 707 (lw_Z below #[Value.ref b] s) (F0 m 1182 ls [])) : W p l e room_1 s m #[Value.ref b] below meth c H locs 38 707 (lw_Z below #[Value.ref b] s) (F0 m 984 ls []) := by
  obtain ⟨hx, hb, hr, hml, hown, hts0, hX, hbl, hlocks, hgv⟩ := C0
  have hts : ∀ w ∈ wsL_law, w.before #[Value.ref b] s = true := fun w h => hts0 w (wsL_law_in w h)
  have hown : s.vm.findClass RL = some m.cls := hown
  have hb : c.code = cL_law := hb
  have hA : ∀ q : Nat, s.heap.size ≤ q → (fun q : Nat => s.heap.size ≤ q) q := fun _ h => h
  have hbA : ¬ (fun q : Nat => s.heap.size ≤ q) b := Nat.not_le.mpr hbl
  obtain ⟨hP, hD, hS, hC, hM, hAI⟩ := hI
  refine lv_aload_n hx hb dL_law_984 rfl (lv_at hl 1 rfl) ?_
  refine L_arg (kv := 1) hx hb hX hbl hbA hS hl h1 dL_law_985 dL_law_986 dL_law_987 (by decide) dL_law_988 dL_law_989 ?_
  obtain ⟨z1, e1, e2⟩ := c_mean (N := N) (by omega) hC hAI (xs (x3 + 1).toNatClampNeg)
  refine L_XL (As := [.int (xs (x3 + 1).toNatClampNeg)]) (rest := []) e1 (fun v z h => mX2_mean l D cI cJ a _ N τ σ (xs (x3 + 1).toNatClampNeg) (v, z) h) ⟨hx, hb, hml, hown, hts⟩ (cwV 1 hts gL_law_X2_mean rfl rfl rfl qX2_mean ⟨Nat.le_of_ble_eq_true rfl, Nat.le_of_ble_eq_true rfl⟩) hK hP hD hS hA rfl hl.1 rfl (Nat.le_of_ble_eq_true rfl) dL_law_990 ⟨Nat.le_refl _, Nat.le_refl _⟩ (fun H locs hP hD hS => ?_)
  refine lv_aload_n hx hb dL_law_993 rfl (lv_at hl 2 rfl) ?_
  refine L_arg (kv := 1) hx hb hX hbl hbA hS hl h1 dL_law_994 dL_law_995 dL_law_996 (by decide) dL_law_997 dL_law_998 ?_
  obtain ⟨z2, e3, e4⟩ := m_mean (N := N) (by omega) hM hAI (xs (x3 + 1).toNatClampNeg)
  refine L_ML (As := [.int (xs (x3 + 1).toNatClampNeg)]) (rest := [.long _]) e3 (fun v z h => mX3_mean l D cI cJ b' _ N ρ (xs (x3 + 1).toNatClampNeg) (v, z) h) ⟨hx, hb, hml, hown, hts⟩ (cwV 1 hts gL_law_X3_mean rfl rfl rfl qX3_mean ⟨Nat.le_of_ble_eq_true rfl, Nat.le_of_ble_eq_true rfl⟩) hK hP hD hS hA rfl hl.1 rfl (Nat.le_of_ble_eq_true rfl) dL_law_999 ⟨Nat.le_refl _, Nat.le_refl _⟩ (fun H locs hP hD hS => ?_)
  refine W.lcmp hx hb dL_law_1002 (lv_if_eq (tgt := 1182) hx hb dL_law_1003 (by decide) (fun _ => ?_) (fun q => absurd ((lg_cmp0 _ _).mpr rfl) q))
  exact fin τ z1 z2 _ H locs ⟨hP, hD, hS, e2, e4, a_mean hAI (xs (x3 + 1).toNatClampNeg)⟩
set_option maxHeartbeats 4000000 in
set_option maxRecDepth 100000 in
theorem lawc_28 {p : Program} {l : Launch} {e : Env} {s : State} {m : MethodId} {below : List Frame} {meth : Method} {c : Code} {b L : Nat} {xs : Nat → Int32} (C0 : lw_At p s m meth c b L xs) {D : va_G} {cI cJ : ClassId} {ad av a b' : Nat → Nat} (hX9 : SX ad av (fun q : Nat => s.heap.size ≤ q) s s.heap) (hK : va_K D vwCl (tyIJ cI cJ) s) {N : Nat} (hN : 600 < N) {x3 : Int32} (h1 : vp_in (x3 + 1) L) (h2 : vp_in (x3 + 2) L) (h3 : vp_in (x3 + 3) L) (h4 : vp_in (x3 + 4) L) {ls : Array Slot} (hl : lv_has ls 4 [(0, .ref b), (1, .ref (a 0)), (2, .ref (b' 0)), (3, .int x3)]) {H : Heap} {locs : List Loc} {τ : LSt} {σ ρ A : St} (hI : LI D cI cJ a b' s τ σ ρ A H locs) (fin : ∀ (τ : LSt) (σ ρ A : St) (H : Heap) (locs : List Loc), LI D cI cJ a b' s τ σ ρ A H locs → W p l e room_1 s m #[Value.ref b] below meth c H locs 38 707 (lw_Z below #[Value.ref b] s) (F0 m 1182 ls [])) : W p l e room_1 s m #[Value.ref b] below meth c H locs 38 707 (lw_Z below #[Value.ref b] s) (F0 m 1008 ls []) := by
  obtain ⟨hx, hb, hr, hml, hown, hts0, hX, hbl, hlocks, hgv⟩ := C0
  have hts : ∀ w ∈ wsL_law, w.before #[Value.ref b] s = true := fun w h => hts0 w (wsL_law_in w h)
  have hown : s.vm.findClass RL = some m.cls := hown
  have hb : c.code = cL_law := hb
  have hA : ∀ q : Nat, s.heap.size ≤ q → (fun q : Nat => s.heap.size ≤ q) q := fun _ h => h
  have hbA : ¬ (fun q : Nat => s.heap.size ≤ q) b := Nat.not_le.mpr hbl
  obtain ⟨hP, hD, hS, hC, hM, hAI⟩ := hI
  refine lv_aload_n hx hb dL_law_1008 rfl (lv_at hl 1 rfl) ?_
  refine L_arg (kv := 1) hx hb hX hbl hbA hS hl h1 dL_law_1009 dL_law_1010 dL_law_1011 (by decide) dL_law_1012 dL_law_1013 ?_
  refine L_arg (kv := 2) hx hb hX hbl hbA hS hl h2 dL_law_1014 dL_law_1015 dL_law_1016 (by decide) dL_law_1017 dL_law_1018 ?_
  obtain ⟨z1, e1, e2⟩ := c_whatIs (N := N) (by omega) hC hAI (xs (x3 + 1).toNatClampNeg) (xs (x3 + 2).toNatClampNeg)
  refine L_X (As := [.int (xs (x3 + 1).toNatClampNeg), .int (xs (x3 + 2).toNatClampNeg)]) (rest := []) e1 (fun v z h => mX2_whatIs l D cI cJ a _ N τ σ (xs (x3 + 1).toNatClampNeg) (xs (x3 + 2).toNatClampNeg) (v, z) h) ⟨hx, hb, hml, hown, hts⟩ (cwV 2 hts gL_law_X2_whatIs rfl rfl rfl qX2_whatIs ⟨Nat.le_of_ble_eq_true rfl, Nat.le_of_ble_eq_true rfl⟩) hK hP hD hS hA rfl hl.1 rfl (Nat.le_of_ble_eq_true rfl) dL_law_1019 ⟨Nat.le_refl _, Nat.le_refl _⟩ (fun H locs hP hD hS => ?_)
  refine lv_aload_n hx hb dL_law_1022 rfl (lv_at hl 2 rfl) ?_
  refine L_arg (kv := 1) hx hb hX hbl hbA hS hl h1 dL_law_1023 dL_law_1024 dL_law_1025 (by decide) dL_law_1026 dL_law_1027 ?_
  refine L_arg (kv := 2) hx hb hX hbl hbA hS hl h2 dL_law_1028 dL_law_1029 dL_law_1030 (by decide) dL_law_1031 dL_law_1032 ?_
  obtain ⟨z2, e3, e4⟩ := m_whatIs (N := N) (by omega) hM hAI (xs (x3 + 1).toNatClampNeg) (xs (x3 + 2).toNatClampNeg)
  refine L_M (As := [.int (xs (x3 + 1).toNatClampNeg), .int (xs (x3 + 2).toNatClampNeg)]) (rest := [.int _]) e3 (fun v z h => mX3_whatIs l D cI cJ b' _ N ρ (xs (x3 + 1).toNatClampNeg) (xs (x3 + 2).toNatClampNeg) (v, z) h) ⟨hx, hb, hml, hown, hts⟩ (cwV 2 hts gL_law_X3_whatIs rfl rfl rfl qX3_whatIs ⟨Nat.le_of_ble_eq_true rfl, Nat.le_of_ble_eq_true rfl⟩) hK hP hD hS hA rfl hl.1 rfl (Nat.le_of_ble_eq_true rfl) dL_law_1033 ⟨Nat.le_refl _, Nat.le_refl _⟩ (fun H locs hP hD hS => ?_)
  refine lv_icmp_eq (tgt := 1182) hx hb dL_law_1036 (by decide) (fun _ => ?_) (fun q => absurd rfl q)
  exact fin τ z1 z2 _ H locs ⟨hP, hD, hS, e2, e4, a_whatIs hAI (xs (x3 + 1).toNatClampNeg) (xs (x3 + 2).toNatClampNeg)⟩
set_option maxHeartbeats 4000000 in
set_option maxRecDepth 100000 in
theorem lawc_29 {p : Program} {l : Launch} {e : Env} {s : State} {m : MethodId} {below : List Frame} {meth : Method} {c : Code} {b L : Nat} {xs : Nat → Int32} (C0 : lw_At p s m meth c b L xs) {D : va_G} {cI cJ : ClassId} {ad av a b' : Nat → Nat} (hX9 : SX ad av (fun q : Nat => s.heap.size ≤ q) s s.heap) (hK : va_K D vwCl (tyIJ cI cJ) s) {N : Nat} (hN : 600 < N) {x3 : Int32} (h1 : vp_in (x3 + 1) L) (h2 : vp_in (x3 + 2) L) (h3 : vp_in (x3 + 3) L) (h4 : vp_in (x3 + 4) L) {ls : Array Slot} (hl : lv_has ls 4 [(0, .ref b), (1, .ref (a 0)), (2, .ref (b' 0)), (3, .int x3)]) {H : Heap} {locs : List Loc} {τ : LSt} {σ ρ A : St} (hI : LI D cI cJ a b' s τ σ ρ A H locs) (fin : ∀ (τ : LSt) (σ ρ A : St) (H : Heap) (locs : List Loc), LI D cI cJ a b' s τ σ ρ A H locs → W p l e room_1 s m #[Value.ref b] below meth c H locs 38 707 (lw_Z below #[Value.ref b] s) (F0 m 1182 ls [])) : W p l e room_1 s m #[Value.ref b] below meth c H locs 38 707 (lw_Z below #[Value.ref b] s) (F0 m 1041 ls []) := by
  obtain ⟨hx, hb, hr, hml, hown, hts0, hX, hbl, hlocks, hgv⟩ := C0
  have hts : ∀ w ∈ wsL_law, w.before #[Value.ref b] s = true := fun w h => hts0 w (wsL_law_in w h)
  have hown : s.vm.findClass RL = some m.cls := hown
  have hb : c.code = cL_law := hb
  have hA : ∀ q : Nat, s.heap.size ≤ q → (fun q : Nat => s.heap.size ≤ q) q := fun _ h => h
  have hbA : ¬ (fun q : Nat => s.heap.size ≤ q) b := Nat.not_le.mpr hbl
  obtain ⟨hP, hD, hS, hC, hM, hAI⟩ := hI
  refine lv_aload_n hx hb dL_law_1041 rfl (lv_at hl 1 rfl) ?_
  refine L_arg (kv := 1) hx hb hX hbl hbA hS hl h1 dL_law_1042 dL_law_1043 dL_law_1044 (by decide) dL_law_1045 dL_law_1046 ?_
  obtain ⟨z1, e1, e2⟩ := c_row (N := N) hC hAI (xs (x3 + 1).toNatClampNeg)
  refine L_X (As := [.int (xs (x3 + 1).toNatClampNeg)]) (rest := []) e1 (fun v z h => mX2_row l D cI cJ a _ N τ σ (xs (x3 + 1).toNatClampNeg) (v, z) h) ⟨hx, hb, hml, hown, hts⟩ (cwV 1 hts gL_law_X2_row rfl rfl rfl qX2_row ⟨Nat.le_of_ble_eq_true rfl, Nat.le_of_ble_eq_true rfl⟩) hK hP hD hS hA rfl hl.1 rfl (Nat.le_of_ble_eq_true rfl) dL_law_1047 ⟨Nat.le_refl _, Nat.le_refl _⟩ (fun H locs hP hD hS => ?_)
  refine lv_aload_n hx hb dL_law_1050 rfl (lv_at hl 2 rfl) ?_
  refine L_arg (kv := 1) hx hb hX hbl hbA hS hl h1 dL_law_1051 dL_law_1052 dL_law_1053 (by decide) dL_law_1054 dL_law_1055 ?_
  obtain ⟨z2, e3, e4⟩ := m_row (N := N) hM hAI (xs (x3 + 1).toNatClampNeg)
  refine L_M (As := [.int (xs (x3 + 1).toNatClampNeg)]) (rest := [.int _]) e3 (fun v z h => mX3_row l D cI cJ b' _ N ρ (xs (x3 + 1).toNatClampNeg) (v, z) h) ⟨hx, hb, hml, hown, hts⟩ (cwV 1 hts gL_law_X3_row rfl rfl rfl qX3_row ⟨Nat.le_of_ble_eq_true rfl, Nat.le_of_ble_eq_true rfl⟩) hK hP hD hS hA rfl hl.1 rfl (Nat.le_of_ble_eq_true rfl) dL_law_1056 ⟨Nat.le_refl _, Nat.le_refl _⟩ (fun H locs hP hD hS => ?_)
  refine lv_icmp_eq (tgt := 1182) hx hb dL_law_1059 (by decide) (fun _ => ?_) (fun q => absurd rfl q)
  exact fin τ z1 z2 _ H locs ⟨hP, hD, hS, e2, e4, a_row hAI (xs (x3 + 1).toNatClampNeg)⟩
set_option maxHeartbeats 4000000 in
set_option maxRecDepth 100000 in
theorem lawc_30 {p : Program} {l : Launch} {e : Env} {s : State} {m : MethodId} {below : List Frame} {meth : Method} {c : Code} {b L : Nat} {xs : Nat → Int32} (C0 : lw_At p s m meth c b L xs) {D : va_G} {cI cJ : ClassId} {ad av a b' : Nat → Nat} (hX9 : SX ad av (fun q : Nat => s.heap.size ≤ q) s s.heap) (hK : va_K D vwCl (tyIJ cI cJ) s) {N : Nat} (hN : 600 < N) {x3 : Int32} (h1 : vp_in (x3 + 1) L) (h2 : vp_in (x3 + 2) L) (h3 : vp_in (x3 + 3) L) (h4 : vp_in (x3 + 4) L) {ls : Array Slot} (hl : lv_has ls 4 [(0, .ref b), (1, .ref (a 0)), (2, .ref (b' 0)), (3, .int x3)]) {H : Heap} {locs : List Loc} {τ : LSt} {σ ρ A : St} (hI : LI D cI cJ a b' s τ σ ρ A H locs) (fin : ∀ (τ : LSt) (σ ρ A : St) (H : Heap) (locs : List Loc), LI D cI cJ a b' s τ σ ρ A H locs → W p l e room_1 s m #[Value.ref b] below meth c H locs 38 707 (lw_Z below #[Value.ref b] s) (F0 m 1182 ls [])) : W p l e room_1 s m #[Value.ref b] below meth c H locs 38 707 (lw_Z below #[Value.ref b] s) (F0 m 1064 ls []) := by
  obtain ⟨hx, hb, hr, hml, hown, hts0, hX, hbl, hlocks, hgv⟩ := C0
  have hts : ∀ w ∈ wsL_law, w.before #[Value.ref b] s = true := fun w h => hts0 w (wsL_law_in w h)
  have hown : s.vm.findClass RL = some m.cls := hown
  have hb : c.code = cL_law := hb
  have hA : ∀ q : Nat, s.heap.size ≤ q → (fun q : Nat => s.heap.size ≤ q) q := fun _ h => h
  have hbA : ¬ (fun q : Nat => s.heap.size ≤ q) b := Nat.not_le.mpr hbl
  obtain ⟨hP, hD, hS, hC, hM, hAI⟩ := hI
  refine lv_aload_n hx hb dL_law_1064 rfl (lv_at hl 1 rfl) ?_
  obtain ⟨z1, e1, e2⟩ := c_judge (N := N) (by omega) hC hAI
  refine L_X (As := []) (rest := []) e1 (fun v z h => mX2_judge l D cI cJ a _ N τ σ (v, z) h) ⟨hx, hb, hml, hown, hts⟩ (cwV 0 hts gL_law_X2_judge rfl rfl rfl qX2_judge ⟨Nat.le_of_ble_eq_true rfl, Nat.le_of_ble_eq_true rfl⟩) hK hP hD hS hA rfl hl.1 rfl (Nat.le_of_ble_eq_true rfl) dL_law_1065 ⟨Nat.le_refl _, Nat.le_refl _⟩ (fun H locs hP hD hS => ?_)
  refine lv_aload_n hx hb dL_law_1068 rfl (lv_at hl 2 rfl) ?_
  obtain ⟨z2, e3, e4⟩ := m_judge (N := N) (by omega) hM hAI
  refine L_M (As := []) (rest := [.int _]) e3 (fun v z h => mX3_judge l D cI cJ b' _ N ρ (v, z) h) ⟨hx, hb, hml, hown, hts⟩ (cwV 0 hts gL_law_X3_judge rfl rfl rfl qX3_judge ⟨Nat.le_of_ble_eq_true rfl, Nat.le_of_ble_eq_true rfl⟩) hK hP hD hS hA rfl hl.1 rfl (Nat.le_of_ble_eq_true rfl) dL_law_1069 ⟨Nat.le_refl _, Nat.le_refl _⟩ (fun H locs hP hD hS => ?_)
  refine lv_icmp_eq (tgt := 1182) hx hb dL_law_1072 (by decide) (fun _ => ?_) (fun q => absurd rfl q)
  exact fin τ z1 z2 _ H locs ⟨hP, hD, hS, e2, e4, w0_AI hAI⟩
set_option maxHeartbeats 4000000 in
set_option maxRecDepth 100000 in
theorem lawc_31 {p : Program} {l : Launch} {e : Env} {s : State} {m : MethodId} {below : List Frame} {meth : Method} {c : Code} {b L : Nat} {xs : Nat → Int32} (C0 : lw_At p s m meth c b L xs) {D : va_G} {cI cJ : ClassId} {ad av a b' : Nat → Nat} (hX9 : SX ad av (fun q : Nat => s.heap.size ≤ q) s s.heap) (hK : va_K D vwCl (tyIJ cI cJ) s) {N : Nat} (hN : 600 < N) {x3 : Int32} (h1 : vp_in (x3 + 1) L) (h2 : vp_in (x3 + 2) L) (h3 : vp_in (x3 + 3) L) (h4 : vp_in (x3 + 4) L) {ls : Array Slot} (hl : lv_has ls 4 [(0, .ref b), (1, .ref (a 0)), (2, .ref (b' 0)), (3, .int x3)]) {H : Heap} {locs : List Loc} {τ : LSt} {σ ρ A : St} (hI : LI D cI cJ a b' s τ σ ρ A H locs) (fin : ∀ (τ : LSt) (σ ρ A : St) (H : Heap) (locs : List Loc), LI D cI cJ a b' s τ σ ρ A H locs → W p l e room_1 s m #[Value.ref b] below meth c H locs 38 707 (lw_Z below #[Value.ref b] s) (F0 m 1182 ls [])) : W p l e room_1 s m #[Value.ref b] below meth c H locs 38 707 (lw_Z below #[Value.ref b] s) (F0 m 1077 ls []) := by
  obtain ⟨hx, hb, hr, hml, hown, hts0, hX, hbl, hlocks, hgv⟩ := C0
  have hts : ∀ w ∈ wsL_law, w.before #[Value.ref b] s = true := fun w h => hts0 w (wsL_law_in w h)
  have hown : s.vm.findClass RL = some m.cls := hown
  have hb : c.code = cL_law := hb
  have hA : ∀ q : Nat, s.heap.size ≤ q → (fun q : Nat => s.heap.size ≤ q) q := fun _ h => h
  have hbA : ¬ (fun q : Nat => s.heap.size ≤ q) b := Nat.not_le.mpr hbl
  obtain ⟨hP, hD, hS, hC, hM, hAI⟩ := hI
  refine lv_aload_n hx hb dL_law_1077 rfl (lv_at hl 1 rfl) ?_
  obtain ⟨z1, e1, e2⟩ := c_clear (N := N) hC
  refine L_X (As := []) (rest := []) e1 (fun v z h => mX2_clear l D cI cJ a _ N τ σ (v, z) h) ⟨hx, hb, hml, hown, hts⟩ (cwV 0 hts gL_law_X2_clear rfl rfl rfl qX2_clear ⟨Nat.le_of_ble_eq_true rfl, Nat.le_of_ble_eq_true rfl⟩) hK hP hD hS hA rfl hl.1 rfl (Nat.le_of_ble_eq_true rfl) dL_law_1078 ⟨Nat.le_refl _, Nat.le_refl _⟩ (fun H locs hP hD hS => ?_)
  refine lv_aload_n hx hb dL_law_1081 rfl (lv_at hl 2 rfl) ?_
  obtain ⟨z2, e3, e4⟩ := m_clear (N := N) hM
  refine L_M (As := []) (rest := [.int _]) e3 (fun v z h => mX3_clear l D cI cJ b' _ N ρ (v, z) h) ⟨hx, hb, hml, hown, hts⟩ (cwV 0 hts gL_law_X3_clear rfl rfl rfl qX3_clear ⟨Nat.le_of_ble_eq_true rfl, Nat.le_of_ble_eq_true rfl⟩) hK hP hD hS hA rfl hl.1 rfl (Nat.le_of_ble_eq_true rfl) dL_law_1082 ⟨Nat.le_refl _, Nat.le_refl _⟩ (fun H locs hP hD hS => ?_)
  refine lv_icmp_eq (tgt := 1182) hx hb dL_law_1085 (by decide) (fun _ => ?_) (fun q => absurd rfl q)
  exact fin τ z1 z2 _ H locs ⟨hP, hD, hS, e2, e4, w0_AI hAI⟩
set_option maxHeartbeats 4000000 in
set_option maxRecDepth 100000 in
theorem lawc_32 {p : Program} {l : Launch} {e : Env} {s : State} {m : MethodId} {below : List Frame} {meth : Method} {c : Code} {b L : Nat} {xs : Nat → Int32} (C0 : lw_At p s m meth c b L xs) {D : va_G} {cI cJ : ClassId} {ad av a b' : Nat → Nat} (hX9 : SX ad av (fun q : Nat => s.heap.size ≤ q) s s.heap) (hK : va_K D vwCl (tyIJ cI cJ) s) {N : Nat} (hN : 600 < N) {x3 : Int32} (h1 : vp_in (x3 + 1) L) (h2 : vp_in (x3 + 2) L) (h3 : vp_in (x3 + 3) L) (h4 : vp_in (x3 + 4) L) {ls : Array Slot} (hl : lv_has ls 4 [(0, .ref b), (1, .ref (a 0)), (2, .ref (b' 0)), (3, .int x3)]) {H : Heap} {locs : List Loc} {τ : LSt} {σ ρ A : St} (hI : LI D cI cJ a b' s τ σ ρ A H locs) (fin : ∀ (τ : LSt) (σ ρ A : St) (H : Heap) (locs : List Loc), LI D cI cJ a b' s τ σ ρ A H locs → W p l e room_1 s m #[Value.ref b] below meth c H locs 38 707 (lw_Z below #[Value.ref b] s) (F0 m 1182 ls [])) : W p l e room_1 s m #[Value.ref b] below meth c H locs 38 707 (lw_Z below #[Value.ref b] s) (F0 m 1090 ls []) := by
  obtain ⟨hx, hb, hr, hml, hown, hts0, hX, hbl, hlocks, hgv⟩ := C0
  have hts : ∀ w ∈ wsL_law, w.before #[Value.ref b] s = true := fun w h => hts0 w (wsL_law_in w h)
  have hown : s.vm.findClass RL = some m.cls := hown
  have hb : c.code = cL_law := hb
  have hA : ∀ q : Nat, s.heap.size ≤ q → (fun q : Nat => s.heap.size ≤ q) q := fun _ h => h
  have hbA : ¬ (fun q : Nat => s.heap.size ≤ q) b := Nat.not_le.mpr hbl
  obtain ⟨hP, hD, hS, hC, hM, hAI⟩ := hI
  refine lv_aload_n hx hb dL_law_1090 rfl (lv_at hl 1 rfl) ?_
  refine L_arg (kv := 1) hx hb hX hbl hbA hS hl h1 dL_law_1091 dL_law_1092 dL_law_1093 (by decide) dL_law_1094 dL_law_1095 ?_
  refine L_arg (kv := 2) hx hb hX hbl hbA hS hl h2 dL_law_1096 dL_law_1097 dL_law_1098 (by decide) dL_law_1099 dL_law_1100 ?_
  refine L_arg (kv := 3) hx hb hX hbl hbA hS hl h3 dL_law_1101 dL_law_1102 dL_law_1103 (by decide) dL_law_1104 dL_law_1105 ?_
  obtain ⟨z1, e1, e2⟩ := c_lots (N := N) (by omega) hC hAI (xs (x3 + 1).toNatClampNeg) (xs (x3 + 2).toNatClampNeg) (xs (x3 + 3).toNatClampNeg)
  refine L_X (As := [.int (xs (x3 + 1).toNatClampNeg), .int (xs (x3 + 2).toNatClampNeg), .int (xs (x3 + 3).toNatClampNeg)]) (rest := []) e1 (fun v z h => mX2_lots l D cI cJ a _ N τ σ (xs (x3 + 1).toNatClampNeg) (xs (x3 + 2).toNatClampNeg) (xs (x3 + 3).toNatClampNeg) (v, z) h) ⟨hx, hb, hml, hown, hts⟩ (cwV 3 hts gL_law_X2_lots rfl rfl rfl qX2_lots ⟨Nat.le_of_ble_eq_true rfl, Nat.le_of_ble_eq_true rfl⟩) hK hP hD hS hA rfl hl.1 rfl (Nat.le_of_ble_eq_true rfl) dL_law_1106 ⟨Nat.le_refl _, Nat.le_refl _⟩ (fun H locs hP hD hS => ?_)
  refine lv_aload_n hx hb dL_law_1109 rfl (lv_at hl 2 rfl) ?_
  refine L_arg (kv := 1) hx hb hX hbl hbA hS hl h1 dL_law_1110 dL_law_1111 dL_law_1112 (by decide) dL_law_1113 dL_law_1114 ?_
  refine L_arg (kv := 2) hx hb hX hbl hbA hS hl h2 dL_law_1115 dL_law_1116 dL_law_1117 (by decide) dL_law_1118 dL_law_1119 ?_
  refine L_arg (kv := 3) hx hb hX hbl hbA hS hl h3 dL_law_1120 dL_law_1121 dL_law_1122 (by decide) dL_law_1123 dL_law_1124 ?_
  obtain ⟨z2, e3, e4⟩ := m_lots (N := N) (by omega) hM hAI (xs (x3 + 1).toNatClampNeg) (xs (x3 + 2).toNatClampNeg) (xs (x3 + 3).toNatClampNeg)
  refine L_M (As := [.int (xs (x3 + 1).toNatClampNeg), .int (xs (x3 + 2).toNatClampNeg), .int (xs (x3 + 3).toNatClampNeg)]) (rest := [.int _]) e3 (fun v z h => mX3_lots l D cI cJ b' _ N ρ (xs (x3 + 1).toNatClampNeg) (xs (x3 + 2).toNatClampNeg) (xs (x3 + 3).toNatClampNeg) (v, z) h) ⟨hx, hb, hml, hown, hts⟩ (cwV 3 hts gL_law_X3_lots rfl rfl rfl qX3_lots ⟨Nat.le_of_ble_eq_true rfl, Nat.le_of_ble_eq_true rfl⟩) hK hP hD hS hA rfl hl.1 rfl (Nat.le_of_ble_eq_true rfl) dL_law_1125 ⟨Nat.le_refl _, Nat.le_refl _⟩ (fun H locs hP hD hS => ?_)
  refine lv_icmp_eq (tgt := 1182) hx hb dL_law_1128 (by decide) (fun _ => ?_) (fun q => absurd rfl q)
  exact fin τ z1 z2 _ H locs ⟨hP, hD, hS, e2, e4, a_lots hAI (xs (x3 + 1).toNatClampNeg) (xs (x3 + 2).toNatClampNeg) (xs (x3 + 3).toNatClampNeg)⟩
set_option maxHeartbeats 4000000 in
set_option maxRecDepth 100000 in
theorem lawc_33 {p : Program} {l : Launch} {e : Env} {s : State} {m : MethodId} {below : List Frame} {meth : Method} {c : Code} {b L : Nat} {xs : Nat → Int32} (C0 : lw_At p s m meth c b L xs) {D : va_G} {cI cJ : ClassId} {ad av a b' : Nat → Nat} (hX9 : SX ad av (fun q : Nat => s.heap.size ≤ q) s s.heap) (hK : va_K D vwCl (tyIJ cI cJ) s) {N : Nat} (hN : 600 < N) {x3 : Int32} (h1 : vp_in (x3 + 1) L) (h2 : vp_in (x3 + 2) L) (h3 : vp_in (x3 + 3) L) (h4 : vp_in (x3 + 4) L) {ls : Array Slot} (hl : lv_has ls 4 [(0, .ref b), (1, .ref (a 0)), (2, .ref (b' 0)), (3, .int x3)]) {H : Heap} {locs : List Loc} {τ : LSt} {σ ρ A : St} (hI : LI D cI cJ a b' s τ σ ρ A H locs) (fin : ∀ (τ : LSt) (σ ρ A : St) (H : Heap) (locs : List Loc), LI D cI cJ a b' s τ σ ρ A H locs → W p l e room_1 s m #[Value.ref b] below meth c H locs 38 707 (lw_Z below #[Value.ref b] s) (F0 m 1182 ls [])) : W p l e room_1 s m #[Value.ref b] below meth c H locs 38 707 (lw_Z below #[Value.ref b] s) (F0 m 1133 ls []) := by
  obtain ⟨hx, hb, hr, hml, hown, hts0, hX, hbl, hlocks, hgv⟩ := C0
  have hts : ∀ w ∈ wsL_law, w.before #[Value.ref b] s = true := fun w h => hts0 w (wsL_law_in w h)
  have hown : s.vm.findClass RL = some m.cls := hown
  have hb : c.code = cL_law := hb
  have hA : ∀ q : Nat, s.heap.size ≤ q → (fun q : Nat => s.heap.size ≤ q) q := fun _ h => h
  have hbA : ¬ (fun q : Nat => s.heap.size ≤ q) b := Nat.not_le.mpr hbl
  obtain ⟨hP, hD, hS, hC, hM, hAI⟩ := hI
  refine lv_aload_n hx hb dL_law_1133 rfl (lv_at hl 1 rfl) ?_
  obtain ⟨z1, e1, e2⟩ := c_image (N := N) (by omega) hC
  refine L_X (As := []) (rest := []) e1 (fun v z h => mX2_image l D cI cJ a _ N τ σ (v, z) h) ⟨hx, hb, hml, hown, hts⟩ (cwV 0 hts gL_law_X2_image rfl rfl rfl qX2_image ⟨Nat.le_of_ble_eq_true rfl, Nat.le_of_ble_eq_true rfl⟩) hK hP hD hS hA rfl hl.1 rfl (Nat.le_of_ble_eq_true rfl) dL_law_1134 ⟨Nat.le_refl _, Nat.le_refl _⟩ (fun H locs hP hD hS => ?_)
  refine lv_aload_n hx hb dL_law_1137 rfl (lv_at hl 2 rfl) ?_
  obtain ⟨z2, e3, e4⟩ := m_image (N := N) (by omega) hM
  refine L_M (As := []) (rest := [.int _]) e3 (fun v z h => mX3_image l D cI cJ b' _ N ρ (v, z) h) ⟨hx, hb, hml, hown, hts⟩ (cwV 0 hts gL_law_X3_image rfl rfl rfl qX3_image ⟨Nat.le_of_ble_eq_true rfl, Nat.le_of_ble_eq_true rfl⟩) hK hP hD hS hA rfl hl.1 rfl (Nat.le_of_ble_eq_true rfl) dL_law_1138 ⟨Nat.le_refl _, Nat.le_refl _⟩ (fun H locs hP hD hS => ?_)
  refine lv_icmp_eq (tgt := 1182) hx hb dL_law_1141 (by decide) (fun _ => ?_) (fun q => absurd rfl q)
  exact fin τ z1 z2 _ H locs ⟨hP, hD, hS, e2, e4, a_image hAI⟩
set_option maxHeartbeats 4000000 in
set_option maxRecDepth 100000 in
theorem lawc_34 {p : Program} {l : Launch} {e : Env} {s : State} {m : MethodId} {below : List Frame} {meth : Method} {c : Code} {b L : Nat} {xs : Nat → Int32} (C0 : lw_At p s m meth c b L xs) {D : va_G} {cI cJ : ClassId} {ad av a b' : Nat → Nat} (hX9 : SX ad av (fun q : Nat => s.heap.size ≤ q) s s.heap) (hK : va_K D vwCl (tyIJ cI cJ) s) {N : Nat} (hN : 600 < N) {x3 : Int32} (h1 : vp_in (x3 + 1) L) (h2 : vp_in (x3 + 2) L) (h3 : vp_in (x3 + 3) L) (h4 : vp_in (x3 + 4) L) {ls : Array Slot} (hl : lv_has ls 4 [(0, .ref b), (1, .ref (a 0)), (2, .ref (b' 0)), (3, .int x3)]) {H : Heap} {locs : List Loc} {τ : LSt} {σ ρ A : St} (hI : LI D cI cJ a b' s τ σ ρ A H locs) (fin : ∀ (τ : LSt) (σ ρ A : St) (H : Heap) (locs : List Loc), LI D cI cJ a b' s τ σ ρ A H locs → W p l e room_1 s m #[Value.ref b] below meth c H locs 38 707 (lw_Z below #[Value.ref b] s) (F0 m 1182 ls [])) : W p l e room_1 s m #[Value.ref b] below meth c H locs 38 707 (lw_Z below #[Value.ref b] s) (F0 m 1146 ls []) := by
  obtain ⟨hx, hb, hr, hml, hown, hts0, hX, hbl, hlocks, hgv⟩ := C0
  have hts : ∀ w ∈ wsL_law, w.before #[Value.ref b] s = true := fun w h => hts0 w (wsL_law_in w h)
  have hown : s.vm.findClass RL = some m.cls := hown
  have hb : c.code = cL_law := hb
  have hA : ∀ q : Nat, s.heap.size ≤ q → (fun q : Nat => s.heap.size ≤ q) q := fun _ h => h
  have hbA : ¬ (fun q : Nat => s.heap.size ≤ q) b := Nat.not_le.mpr hbl
  obtain ⟨hP, hD, hS, hC, hM, hAI⟩ := hI
  refine lv_aload_n hx hb dL_law_1146 rfl (lv_at hl 1 rfl) ?_
  obtain ⟨z1, e1, e2⟩ := c_on (N := N) (by omega) hC hAI
  refine L_X (As := []) (rest := []) e1 (fun v z h => mX2_on l D cI cJ a _ N τ σ (v, z) h) ⟨hx, hb, hml, hown, hts⟩ (cwV 0 hts gL_law_X2_on rfl rfl rfl qX2_on ⟨Nat.le_of_ble_eq_true rfl, Nat.le_of_ble_eq_true rfl⟩) hK hP hD hS hA rfl hl.1 rfl (Nat.le_of_ble_eq_true rfl) dL_law_1147 ⟨Nat.le_refl _, Nat.le_refl _⟩ (fun H locs hP hD hS => ?_)
  refine lv_aload_n hx hb dL_law_1150 rfl (lv_at hl 2 rfl) ?_
  obtain ⟨z2, e3, e4⟩ := m_on (N := N) (by omega) hM hAI
  refine L_M (As := []) (rest := [.int _]) e3 (fun v z h => mX3_on l D cI cJ b' _ N ρ (v, z) h) ⟨hx, hb, hml, hown, hts⟩ (cwV 0 hts gL_law_X3_on rfl rfl rfl qX3_on ⟨Nat.le_of_ble_eq_true rfl, Nat.le_of_ble_eq_true rfl⟩) hK hP hD hS hA rfl hl.1 rfl (Nat.le_of_ble_eq_true rfl) dL_law_1151 ⟨Nat.le_refl _, Nat.le_refl _⟩ (fun H locs hP hD hS => ?_)
  refine lv_icmp_eq (tgt := 1182) hx hb dL_law_1154 (by decide) (fun _ => ?_) (fun q => absurd rfl q)
  exact fin τ z1 z2 _ H locs ⟨hP, hD, hS, e2, e4, a_on hAI⟩
set_option maxHeartbeats 4000000 in
set_option maxRecDepth 100000 in
theorem lawc_35 {p : Program} {l : Launch} {e : Env} {s : State} {m : MethodId} {below : List Frame} {meth : Method} {c : Code} {b L : Nat} {xs : Nat → Int32} (C0 : lw_At p s m meth c b L xs) {D : va_G} {cI cJ : ClassId} {ad av a b' : Nat → Nat} (hX9 : SX ad av (fun q : Nat => s.heap.size ≤ q) s s.heap) (hK : va_K D vwCl (tyIJ cI cJ) s) {N : Nat} (hN : 600 < N) {x3 : Int32} (h1 : vp_in (x3 + 1) L) (h2 : vp_in (x3 + 2) L) (h3 : vp_in (x3 + 3) L) (h4 : vp_in (x3 + 4) L) {ls : Array Slot} (hl : lv_has ls 4 [(0, .ref b), (1, .ref (a 0)), (2, .ref (b' 0)), (3, .int x3)]) {H : Heap} {locs : List Loc} {τ : LSt} {σ ρ A : St} (hI : LI D cI cJ a b' s τ σ ρ A H locs) (fin : ∀ (τ : LSt) (σ ρ A : St) (H : Heap) (locs : List Loc), LI D cI cJ a b' s τ σ ρ A H locs → W p l e room_1 s m #[Value.ref b] below meth c H locs 38 707 (lw_Z below #[Value.ref b] s) (F0 m 1182 ls [])) : W p l e room_1 s m #[Value.ref b] below meth c H locs 38 707 (lw_Z below #[Value.ref b] s) (F0 m 1159 ls []) := by
  obtain ⟨hx, hb, hr, hml, hown, hts0, hX, hbl, hlocks, hgv⟩ := C0
  have hts : ∀ w ∈ wsL_law, w.before #[Value.ref b] s = true := fun w h => hts0 w (wsL_law_in w h)
  have hown : s.vm.findClass RL = some m.cls := hown
  have hb : c.code = cL_law := hb
  have hA : ∀ q : Nat, s.heap.size ≤ q → (fun q : Nat => s.heap.size ≤ q) q := fun _ h => h
  have hbA : ¬ (fun q : Nat => s.heap.size ≤ q) b := Nat.not_le.mpr hbl
  obtain ⟨hP, hD, hS, hC, hM, hAI⟩ := hI
  refine lv_aload_n hx hb dL_law_1159 rfl (lv_at hl 1 rfl) ?_
  refine L_arg (kv := 1) hx hb hX hbl hbA hS hl h1 dL_law_1160 dL_law_1161 dL_law_1162 (by decide) dL_law_1163 dL_law_1164 ?_
  refine L_XR (As := [.int (xs (x3 + 1).toNatClampNeg)]) (rest := []) (c_count (N := N) (by omega) hC hAI (xs (x3 + 1).toNatClampNeg)) (fun v h => mX2_count l D cI cJ a _ N τ σ (xs (x3 + 1).toNatClampNeg) v h) ⟨hx, hb, hml, hown, hts⟩ (cwV 1 hts gL_law_X2_count rfl rfl rfl qX2_count ⟨Nat.le_of_ble_eq_true rfl, Nat.le_of_ble_eq_true rfl⟩) hK hP hS hA rfl hl.1 rfl (Nat.le_of_ble_eq_true rfl) dL_law_1165 ⟨Nat.le_refl _, Nat.le_refl _⟩ (fun H locs hP hS => ?_)
  refine lv_aload_n hx hb dL_law_1168 rfl (lv_at hl 2 rfl) ?_
  refine L_arg (kv := 1) hx hb hX hbl hbA hS hl h1 dL_law_1169 dL_law_1170 dL_law_1171 (by decide) dL_law_1172 dL_law_1173 ?_
  refine L_MR (As := [.int (xs (x3 + 1).toNatClampNeg)]) (rest := [.int _]) (m_count (N := N) (by omega) hM hAI (xs (x3 + 1).toNatClampNeg)) (fun v h => mX3_count l D cI cJ b' _ N ρ (xs (x3 + 1).toNatClampNeg) v h) ⟨hx, hb, hml, hown, hts⟩ (cwV 1 hts gL_law_X3_count rfl rfl rfl qX3_count ⟨Nat.le_of_ble_eq_true rfl, Nat.le_of_ble_eq_true rfl⟩) hK hP hS hA rfl hl.1 rfl (Nat.le_of_ble_eq_true rfl) dL_law_1174 ⟨Nat.le_refl _, Nat.le_refl _⟩ (fun H locs hP hS => ?_)
  refine lv_icmp_eq (tgt := 1182) hx hb dL_law_1177 (by decide) (fun _ => ?_) (fun q => absurd rfl q)
  exact fin τ σ ρ A H locs ⟨hP, hD, hS, hC, hM, hAI⟩
