/-! the law's world: the class's and the reference's, side by side -/
section LA
variable {D : va_G} {A : Nat → Prop} {w1 w1' w2 w2' : va_W} {H H1 : Heap}
theorem app_l {k : Nat} {q : Nat × va_E} (h : w1[k]? = some q) : (w1 ++ w2)[k]? = some q := by
  rw [List.getElem?_append_left (List.getElem?_eq_some_iff.mp h).1]; exact h
theorem app_r {k : Nat} {q : Nat × va_E} (h : w2[k]? = some q) : (w1 ++ w2)[w1.length + k]? = some q := by
  rw [List.getElem?_append_right (Nat.le_add_right _ _), Nat.add_sub_cancel_left]; exact h
theorem app_P1 (h : va_P D vwCl (w1 ++ w2) H) : va_P D vwCl w1 H := fun k q hq => h k q (app_l hq)
theorem app_P2 (h : va_P D vwCl (w1 ++ w2) H) : va_P D vwCl w2 H := fun k q hq => h (w1.length + k) q (app_r hq)
theorem app_D1 (h : va_D A (w1 ++ w2)) : va_D A w1 := ⟨fun i j p q hi hj e => h.1 i j p q (app_l hi) (app_l hj) e, fun k q hq => h.2 k q (app_l hq)⟩
theorem app_D2 (h : va_D A (w1 ++ w2)) : va_D A w2 := ⟨fun i j p q hi hj e => by have := h.1 _ _ p q (app_r (w1 := w1) hi) (app_r (w1 := w1) hj) e; omega, fun k q hq => h.2 _ q (app_r (w1 := w1) hq)⟩
theorem app_X (h : va_D A (w1 ++ w2)) {i j : Nat} {p q : Nat × va_E} (hi : w1[i]? = some p) (hj : w2[j]? = some q) : p.1 ≠ q.1 := fun e => by
  have h1 := h.1 _ _ p q (app_l hi) (app_r hj) e
  have h2 := (List.getElem?_eq_some_iff.mp hi).1
  omega
theorem app_J1 (hP : va_P D vwCl (w1 ++ w2) H) (hD : va_D A (w1 ++ w2)) (hk : ∀ q : Nat, q < H.size → ¬ va_A w1 H.size q → H1[q]? = H[q]?) (h1 : va_P D vwCl w1' H1) : va_P D vwCl (w1' ++ w2) H1 := by
  refine h1.app (fun k q hq => ?_)
  have g := app_P2 hP k q hq
  have hl := g.lt
  refine g.kept (hk q.1 hl ?_)
  rintro (⟨k2, e2, h3⟩ | h3)
  · exact app_X hD h3 hq rfl
  · exact absurd h3 (Nat.not_le.mpr hl)
theorem app_J2 (hP : va_P D vwCl (w1 ++ w2) H) (hD : va_D A (w1 ++ w2)) (hk : ∀ q : Nat, q < H.size → ¬ va_A w2 H.size q → H1[q]? = H[q]?) (h2 : va_P D vwCl w2' H1) : va_P D vwCl (w1 ++ w2') H1 := by
  refine va_P.app (fun k q hq => ?_) h2
  have g := app_P1 hP k q hq
  have hl := g.lt
  refine g.kept (hk q.1 hl ?_)
  rintro (⟨k2, e2, h3⟩ | h3)
  · exact app_X hD hq h3 rfl
  · exact absurd h3 (Nat.not_le.mpr hl)
theorem app_a1 (e : w1'.map (fun q => q.1) = w1.map (fun q => q.1)) : (w1' ++ w2).map (fun q => q.1) = (w1 ++ w2).map (fun q => q.1) := by rw [List.map_append, List.map_append, e]
theorem app_a2 (e : w2'.map (fun q => q.1) = w2.map (fun q => q.1)) : (w1 ++ w2').map (fun q => q.1) = (w1 ++ w2).map (fun q => q.1) := by rw [List.map_append, List.map_append, e]
end LA
section LB
variable {p : Program} {l : Launch} {e : Env} {R : Room} {s : State} {m : MethodId} {args : Array Value} {below : List Frame} {meth : Method} {c : Code} {H : Heap} {locs : List Loc} {cells slots : Nat} {Q : State → Prop} {cc : ByteArray} {pc : Nat} {ls : Array Slot} {rest st0 : List Value}
variable {D : va_G} {A0 : Nat → Prop} {y : MethodName} {bytes : ByteArray} {maxL nL n index : Nat} {ret : Option FieldType} {ws Ts : List Cond} {rm : Room} {own : String} {As : List Value} {cI cJ : ClassId} {a : Nat → Nat} {w1 w2 : va_W} {τ : LSt} {σ z0 : St} {v0 : Int32} {u0 : Int64} {ad av : Nat → Nat}
theorem L_X {fc : Option (Int32 × St)} (hfc : fc = some (v0, z0)) (hM : ∀ v z, fc = some (v, z) → Met l y ws rm (WPre (.ref (a 0) :: As) H.size D (tyIJ cI cJ) (wHA cI cJ a τ σ)) (WQi H.size D (wHA cI cJ a τ σ) (wHA cI cJ a τ z) v) 0 0 (va_A (wHA cI cJ a τ σ) H.size)) (S : CallFix p m c cc nL s args Ts own) (cw : CallW R s args own RX2 index y bytes maxL ret ws rm 0 0 n) (hK : va_K D vwCl (tyIJ cI cJ) s) (hP : va_P D vwCl (wHA cI cJ a τ σ ++ w2) H) (hD : va_D A0 (wHA cI cJ a τ σ ++ w2)) (hS : va_S A0 s.heap H locs) (hA : ∀ q, s.heap.size ≤ q → A0 q) (hn : As.length = n) (hsize : ls.size = nL) (hst : st0 = As.reverse ++ .ref (a 0) :: rest) (hW : (rest.map fun v => v.category).sum ≤ 8) (hd : decode cc pc = .ok (.invokevirtual index, 3)) (hcs : cells ≤ R.cells ∧ slots ≤ R.slots)
    (kk : ∀ (H1 : Heap) (locs1 : List Loc), va_P D vwCl (wHA cI cJ a τ z0 ++ w2) H1 → va_D A0 (wHA cI cJ a τ z0 ++ w2) → va_S A0 s.heap H1 locs1 → W p l e R s m args below meth c H1 locs1 cells slots Q (F0 m (pc + 3) ls (.int v0 :: rest))) : W p l e R s m args below meth c H locs cells slots Q (F0 m pc ls st0) := by
  refine d_callV (w := fun z => wHA cI cJ a τ z ++ w2) (wc := fun z => wHA cI cJ a τ z) (put := fun z => z) (σ := σ) (τ0 := σ) (K := fun v z => some (v, z)) (r := (v0, z0)) S (by rw [hfc]; rfl) hM cw hK hP (fun z => hD.ad (app_a1 rfl)) hS hA ⟨app_P1 hP, app_D1 hD, fun z H1 hk h1 => app_J1 hP hD hk h1⟩ 2 rfl rfl rfl hn hsize hst hW hd hcs (fun v z H1 locs1 g1 g2 g3 => ?_)
  cases g3
  exact kk H1 locs1 g1 (hD.ad (app_a1 rfl)) g2
theorem L_XS {fc : Option (Int32 × St)} (hfc : fc = some (v0, z0)) (hM : ∀ v z, fc = some (v, z) → Met l y ws rm (WPreS ad av (.ref (a 0) :: As) H.size D (tyIJ cI cJ) (wHA cI cJ a τ σ)) (WQi H.size D (wHA cI cJ a τ σ) (wHA cI cJ a τ z) v) 0 0 (va_A (wHA cI cJ a τ σ) H.size)) (S : CallFix p m c cc nL s args Ts own) (cw : CallW R s args own RX2 index y bytes maxL ret ws rm 0 0 n) (hX : SX ad av A0 s s.heap) (hK : va_K D vwCl (tyIJ cI cJ) s) (hP : va_P D vwCl (wHA cI cJ a τ σ ++ w2) H) (hD : va_D A0 (wHA cI cJ a τ σ ++ w2)) (hS : va_S A0 s.heap H locs) (hA : ∀ q, s.heap.size ≤ q → A0 q) (hn : As.length = n) (hsize : ls.size = nL) (hst : st0 = As.reverse ++ .ref (a 0) :: rest) (hW : (rest.map fun v => v.category).sum ≤ 8) (hd : decode cc pc = .ok (.invokevirtual index, 3)) (hcs : cells ≤ R.cells ∧ slots ≤ R.slots)
    (kk : ∀ (H1 : Heap) (locs1 : List Loc), va_P D vwCl (wHA cI cJ a τ z0 ++ w2) H1 → va_D A0 (wHA cI cJ a τ z0 ++ w2) → va_S A0 s.heap H1 locs1 → W p l e R s m args below meth c H1 locs1 cells slots Q (F0 m (pc + 3) ls (.int v0 :: rest))) : W p l e R s m args below meth c H locs cells slots Q (F0 m pc ls st0) := by
  refine g_callV (w := fun z => wHA cI cJ a τ z ++ w2) (wc := fun z => wHA cI cJ a τ z) (put := fun z => z) (σ := σ) (τ0 := σ) (K := fun v z => some (v, z)) (r := (v0, z0)) S (by rw [hfc]; rfl) hM cw hX hK hP (fun z => hD.ad (app_a1 rfl)) hS hA ⟨app_P1 hP, app_D1 hD, fun z H1 hk h1 => app_J1 hP hD hk h1⟩ 2 rfl rfl rfl hn hsize hst hW hd hcs (fun v z H1 locs1 g1 g2 g3 => ?_)
  cases g3
  exact kk H1 locs1 g1 (hD.ad (app_a1 rfl)) g2
theorem L_M {fc : Option (Int32 × St)} (hfc : fc = some (v0, z0)) (hM : ∀ v z, fc = some (v, z) → Met l y ws rm (WPre (.ref (a 0) :: As) H.size D (tyIJ cI cJ) (wMo cI a σ)) (WQi H.size D (wMo cI a σ) (wMo cI a z) v) 0 0 (va_A (wMo cI a σ) H.size)) (S : CallFix p m c cc nL s args Ts own) (cw : CallW R s args own RX3 index y bytes maxL ret ws rm 0 0 n) (hK : va_K D vwCl (tyIJ cI cJ) s) (hP : va_P D vwCl (w1 ++ wMo cI a σ) H) (hD : va_D A0 (w1 ++ wMo cI a σ)) (hS : va_S A0 s.heap H locs) (hA : ∀ q, s.heap.size ≤ q → A0 q) (hn : As.length = n) (hsize : ls.size = nL) (hst : st0 = As.reverse ++ .ref (a 0) :: rest) (hW : (rest.map fun v => v.category).sum ≤ 8) (hd : decode cc pc = .ok (.invokevirtual index, 3)) (hcs : cells ≤ R.cells ∧ slots ≤ R.slots)
    (kk : ∀ (H1 : Heap) (locs1 : List Loc), va_P D vwCl (w1 ++ wMo cI a z0) H1 → va_D A0 (w1 ++ wMo cI a z0) → va_S A0 s.heap H1 locs1 → W p l e R s m args below meth c H1 locs1 cells slots Q (F0 m (pc + 3) ls (.int v0 :: rest))) : W p l e R s m args below meth c H locs cells slots Q (F0 m pc ls st0) := by
  refine d_callV (w := fun z => w1 ++ wMo cI a z) (wc := fun z => wMo cI a z) (put := fun z => z) (σ := σ) (τ0 := σ) (K := fun v z => some (v, z)) (r := (v0, z0)) S (by rw [hfc]; rfl) hM cw hK hP (fun z => hD.ad (app_a2 rfl)) hS hA ⟨app_P2 hP, app_D2 hD, fun z H1 hk h1 => app_J2 hP hD hk h1⟩ 3 rfl rfl rfl hn hsize hst hW hd hcs (fun v z H1 locs1 g1 g2 g3 => ?_)
  cases g3
  exact kk H1 locs1 g1 (hD.ad (app_a2 rfl)) g2
theorem L_XL {fc : Option (Int64 × St)} (hfc : fc = some (u0, z0)) (hM : ∀ v z, fc = some (v, z) → Met l y ws rm (WPre (.ref (a 0) :: As) H.size D (tyIJ cI cJ) (wHA cI cJ a τ σ)) (WQl H.size D (wHA cI cJ a τ σ) (wHA cI cJ a τ z) v) 0 0 (va_A (wHA cI cJ a τ σ) H.size)) (S : CallFix p m c cc nL s args Ts own) (cw : CallW R s args own RX2 index y bytes maxL ret ws rm 0 0 n) (hK : va_K D vwCl (tyIJ cI cJ) s) (hP : va_P D vwCl (wHA cI cJ a τ σ ++ w2) H) (hD : va_D A0 (wHA cI cJ a τ σ ++ w2)) (hS : va_S A0 s.heap H locs) (hA : ∀ q, s.heap.size ≤ q → A0 q) (hn : As.length = n) (hsize : ls.size = nL) (hst : st0 = As.reverse ++ .ref (a 0) :: rest) (hW : (rest.map fun v => v.category).sum ≤ 8) (hd : decode cc pc = .ok (.invokevirtual index, 3)) (hcs : cells ≤ R.cells ∧ slots ≤ R.slots)
    (kk : ∀ (H1 : Heap) (locs1 : List Loc), va_P D vwCl (wHA cI cJ a τ z0 ++ w2) H1 → va_D A0 (wHA cI cJ a τ z0 ++ w2) → va_S A0 s.heap H1 locs1 → W p l e R s m args below meth c H1 locs1 cells slots Q (F0 m (pc + 3) ls (.long u0 :: rest))) : W p l e R s m args below meth c H locs cells slots Q (F0 m pc ls st0) := by
  refine d_callVL (w := fun z => wHA cI cJ a τ z ++ w2) (wc := fun z => wHA cI cJ a τ z) (put := fun z => z) (σ := σ) (τ0 := σ) (K := fun v z => some (v, z)) (r := (u0, z0)) S (by rw [hfc]; rfl) hM cw hK hP (fun z => hD.ad (app_a1 rfl)) hS hA ⟨app_P1 hP, app_D1 hD, fun z H1 hk h1 => app_J1 hP hD hk h1⟩ 2 rfl rfl rfl hn hsize hst hW hd hcs (fun v z H1 locs1 g1 g2 g3 => ?_)
  cases g3
  exact kk H1 locs1 g1 (hD.ad (app_a1 rfl)) g2
theorem L_XL2 {zz : St × LSt} {fc : Option (Int64 × (St × LSt))} (hfc : fc = some (u0, zz)) (hM : ∀ v z, fc = some (v, z) → Met l y ws rm (WPre (.ref (a 0) :: As) H.size D (tyIJ cI cJ) (wHA cI cJ a τ σ)) (WQl H.size D (wHA cI cJ a τ σ) (wHA cI cJ a z.2 z.1) v) 0 0 (va_A (wHA cI cJ a τ σ) H.size)) (S : CallFix p m c cc nL s args Ts own) (cw : CallW R s args own RX2 index y bytes maxL ret ws rm 0 0 n) (hK : va_K D vwCl (tyIJ cI cJ) s) (hP : va_P D vwCl (wHA cI cJ a τ σ ++ w2) H) (hD : va_D A0 (wHA cI cJ a τ σ ++ w2)) (hS : va_S A0 s.heap H locs) (hA : ∀ q, s.heap.size ≤ q → A0 q) (hn : As.length = n) (hsize : ls.size = nL) (hst : st0 = As.reverse ++ .ref (a 0) :: rest) (hW : (rest.map fun v => v.category).sum ≤ 8) (hd : decode cc pc = .ok (.invokevirtual index, 3)) (hcs : cells ≤ R.cells ∧ slots ≤ R.slots)
    (kk : ∀ (H1 : Heap) (locs1 : List Loc), va_P D vwCl (wHA cI cJ a zz.2 zz.1 ++ w2) H1 → va_D A0 (wHA cI cJ a zz.2 zz.1 ++ w2) → va_S A0 s.heap H1 locs1 → W p l e R s m args below meth c H1 locs1 cells slots Q (F0 m (pc + 3) ls (.long u0 :: rest))) : W p l e R s m args below meth c H locs cells slots Q (F0 m pc ls st0) := by
  refine d_callVL (w := fun (z : St × LSt) => wHA cI cJ a z.2 z.1 ++ w2) (wc := fun (z : St × LSt) => wHA cI cJ a z.2 z.1) (put := fun z => z) (σ := (σ, τ)) (τ0 := (σ, τ)) (K := fun v z => some (v, z)) (r := (u0, zz)) S (by rw [hfc]; rfl) hM cw hK hP (fun z => hD.ad (app_a1 rfl)) hS hA ⟨app_P1 hP, app_D1 hD, fun z H1 hk h1 => app_J1 hP hD hk h1⟩ 2 rfl rfl rfl hn hsize hst hW hd hcs (fun v z H1 locs1 g1 g2 g3 => ?_)
  cases g3
  exact kk H1 locs1 g1 (hD.ad (app_a1 rfl)) g2
theorem L_ML {fc : Option (Int64 × St)} (hfc : fc = some (u0, z0)) (hM : ∀ v z, fc = some (v, z) → Met l y ws rm (WPre (.ref (a 0) :: As) H.size D (tyIJ cI cJ) (wMo cI a σ)) (WQl H.size D (wMo cI a σ) (wMo cI a z) v) 0 0 (va_A (wMo cI a σ) H.size)) (S : CallFix p m c cc nL s args Ts own) (cw : CallW R s args own RX3 index y bytes maxL ret ws rm 0 0 n) (hK : va_K D vwCl (tyIJ cI cJ) s) (hP : va_P D vwCl (w1 ++ wMo cI a σ) H) (hD : va_D A0 (w1 ++ wMo cI a σ)) (hS : va_S A0 s.heap H locs) (hA : ∀ q, s.heap.size ≤ q → A0 q) (hn : As.length = n) (hsize : ls.size = nL) (hst : st0 = As.reverse ++ .ref (a 0) :: rest) (hW : (rest.map fun v => v.category).sum ≤ 8) (hd : decode cc pc = .ok (.invokevirtual index, 3)) (hcs : cells ≤ R.cells ∧ slots ≤ R.slots)
    (kk : ∀ (H1 : Heap) (locs1 : List Loc), va_P D vwCl (w1 ++ wMo cI a z0) H1 → va_D A0 (w1 ++ wMo cI a z0) → va_S A0 s.heap H1 locs1 → W p l e R s m args below meth c H1 locs1 cells slots Q (F0 m (pc + 3) ls (.long u0 :: rest))) : W p l e R s m args below meth c H locs cells slots Q (F0 m pc ls st0) := by
  refine d_callVL (w := fun z => w1 ++ wMo cI a z) (wc := fun z => wMo cI a z) (put := fun z => z) (σ := σ) (τ0 := σ) (K := fun v z => some (v, z)) (r := (u0, z0)) S (by rw [hfc]; rfl) hM cw hK hP (fun z => hD.ad (app_a2 rfl)) hS hA ⟨app_P2 hP, app_D2 hD, fun z H1 hk h1 => app_J2 hP hD hk h1⟩ 3 rfl rfl rfl hn hsize hst hW hd hcs (fun v z H1 locs1 g1 g2 g3 => ?_)
  cases g3
  exact kk H1 locs1 g1 (hD.ad (app_a2 rfl)) g2
theorem L_XR {fc : Option Int32} (hfc : fc = some v0) (hM : ∀ v, fc = some v → Met l y ws rm (RPre (.ref (a 0) :: As) H.size D (tyIJ cI cJ) (wHA cI cJ a τ σ)) (RQi H.size v) 0 0 (fr0 H.size)) (S : CallFix p m c cc nL s args Ts own) (cw : CallW R s args own RX2 index y bytes maxL ret ws rm 0 0 n) (hK : va_K D vwCl (tyIJ cI cJ) s) (hP : va_P D vwCl (wHA cI cJ a τ σ ++ w2) H) (hS : va_S A0 s.heap H locs) (hA : ∀ q, s.heap.size ≤ q → A0 q) (hn : As.length = n) (hsize : ls.size = nL) (hst : st0 = As.reverse ++ .ref (a 0) :: rest) (hW : (rest.map fun v => v.category).sum ≤ 8) (hd : decode cc pc = .ok (.invokevirtual index, 3)) (hcs : cells ≤ R.cells ∧ slots ≤ R.slots)
    (kk : ∀ (H1 : Heap) (locs1 : List Loc), va_P D vwCl (wHA cI cJ a τ σ ++ w2) H1 → va_S A0 s.heap H1 locs1 → W p l e R s m args below meth c H1 locs1 cells slots Q (F0 m (pc + 3) ls (.int v0 :: rest))) : W p l e R s m args below meth c H locs cells slots Q (F0 m pc ls st0) := by
  refine c_callV (K := fun v => some v) (r := v0) S (by rw [hfc]; rfl) hM cw hK hP hS hA (app_P1 hP) 2 rfl rfl rfl hn hsize hst hW hd hcs (fun v H1 locs1 g1 g2 g3 => ?_)
  cases g3
  exact kk H1 locs1 g1 g2
theorem L_MR {fc : Option Int32} (hfc : fc = some v0) (hM : ∀ v, fc = some v → Met l y ws rm (RPre (.ref (a 0) :: As) H.size D (tyIJ cI cJ) (wMo cI a σ)) (RQi H.size v) 0 0 (fr0 H.size)) (S : CallFix p m c cc nL s args Ts own) (cw : CallW R s args own RX3 index y bytes maxL ret ws rm 0 0 n) (hK : va_K D vwCl (tyIJ cI cJ) s) (hP : va_P D vwCl (w1 ++ wMo cI a σ) H) (hS : va_S A0 s.heap H locs) (hA : ∀ q, s.heap.size ≤ q → A0 q) (hn : As.length = n) (hsize : ls.size = nL) (hst : st0 = As.reverse ++ .ref (a 0) :: rest) (hW : (rest.map fun v => v.category).sum ≤ 8) (hd : decode cc pc = .ok (.invokevirtual index, 3)) (hcs : cells ≤ R.cells ∧ slots ≤ R.slots)
    (kk : ∀ (H1 : Heap) (locs1 : List Loc), va_P D vwCl (w1 ++ wMo cI a σ) H1 → va_S A0 s.heap H1 locs1 → W p l e R s m args below meth c H1 locs1 cells slots Q (F0 m (pc + 3) ls (.int v0 :: rest))) : W p l e R s m args below meth c H locs cells slots Q (F0 m pc ls st0) := by
  refine c_callV (K := fun v => some v) (r := v0) S (by rw [hfc]; rfl) hM cw hK hP hS hA (app_P2 hP) 3 rfl rfl rfl hn hsize hst hW hd hcs (fun v H1 locs1 g1 g2 g3 => ?_)
  cases g3
  exact kk H1 locs1 g1 g2
/-- one of the script's ints as an argument -/
theorem L_arg {b L q1 q2 : Nat} {xs : Nat → Int32} {x3 kv : Int32} {k : Int} (hx : p.tables.exec = Jvm.exec) (hb : c.code = cc) (hX : va_X b L xs s s.heap) (hbl : b < s.heap.size) (hbA : ¬ A0 b) (hS : va_S A0 s.heap H locs) (hl : lv_has ls 4 [(0, .ref b), (1, .ref q1), (2, .ref q2), (3, .int x3)]) (hin : vp_in (x3 + kv) L) (d0 : decode cc pc = .ok (.aload_n 0, 1)) (d1 : decode cc (pc + 1) = .ok (.iload_n 3, 1)) (d2 : decode cc (pc + 2) = .ok (.iconst k, 1)) (hk : Int32.ofInt k = kv) (d3 : decode cc (pc + 3) = .ok (.iadd, 1)) (d4 : decode cc (pc + 4) = .ok (.iaload, 1))
    (kk : W p l e R s m args below meth c H locs cells slots Q (F0 m (pc + 5) ls (.int (xs (x3 + kv).toNatClampNeg) :: rest))) : W p l e R s m args below meth c H locs cells slots Q (F0 m pc ls rest) := by
  refine lv_aload_n hx hb d0 rfl (lv_at hl 0 rfl) ?_
  refine lv_iload_n hx hb d1 rfl (lv_at hl 3 rfl) ?_
  refine lv_iconst (v := kv) hx hb d2 hk ?_
  refine lv_iadd hx hb d3 ?_
  exact va_sld hx hb hX hbl hbA hS hin d4 kk
end LB
/-- between two calls -/
def LI (D : va_G) (cI cJ : ClassId) (a b' : Nat → Nat) (s : State) (τ : LSt) (σ ρ A : St) (H : Heap) (locs : List Loc) : Prop := va_P D vwCl (wHA cI cJ a τ σ ++ wMo cI b' ρ) H ∧ va_D (fun q : Nat => s.heap.size ≤ q) (wHA cI cJ a τ σ ++ wMo cI b' ρ) ∧ va_S (fun q : Nat => s.heap.size ≤ q) s.heap H locs ∧ CS σ A ∧ MS ρ A ∧ AI A
