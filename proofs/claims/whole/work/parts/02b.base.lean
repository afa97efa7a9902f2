/-- a call that writes: by the callee's end to the caller's new state -/
def bx {ρ β S T : Type} (x : Option (β × T)) (put : T → S) (k : β → S → Option ρ) : Option ρ := x.bind (fun y => k y.1 (put y.2))
def by_ {ρ S T : Type} (x : Option T) (put : T → S) (k : S → Option ρ) : Option ρ := x.bind (fun y => k (put y))
theorem bx_e {ρ β S T : Type} {x : Option (β × T)} {put : T → S} {k : β → S → Option ρ} {r : ρ} (h : bx x put k = some r) : ∃ v τ, x = some (v, τ) ∧ k v (put τ) = some r := by
  cases x with
  | none => cases h
  | some v => exact ⟨v.1, v.2, rfl, h⟩
theorem by_e {ρ S T : Type} {x : Option T} {put : T → S} {k : S → Option ρ} {r : ρ} (h : by_ x put k = some r) : ∃ τ, x = some τ ∧ k (put τ) = some r := by
  cases x with
  | none => cases h
  | some v => exact ⟨v, rfl, h⟩
section KC
variable {p : Program} {l : Launch} {e : Env} {R : Room} {s : State} {m : MethodId} {args : Array Value} {below : List Frame} {meth : Method} {c : Code} {H : Heap} {locs : List Loc} {cells slots : Nat} {Q : State → Prop} {cc : ByteArray} {pc : Nat} {ls : Array Slot} {rest : List Value} {ρ : Type} {r : ρ}
variable {D : va_G} {tys : List (ClassId × FieldType)} {A : Nat → Prop} {a : Nat} {H0 : Heap}
theorem k_iald (hx : p.tables.exec = Jvm.exec) (hb : c.code = cc) (hK : va_K D vwCl tys s) {w : va_W} (hP : va_P D vwCl w H) (q0 t0 : Nat) {cA : ClassId} {n cN : Nat} {σ : St} {i : Int32} {K : Int32 → Option ρ} (hf : bo (rdI σ cN n i) K = some r) (ha : w[q0]? = some (a, .inl (cA, n, .inl (σ cN)))) (ht : tys[t0]? = some (cA, .int)) (hd : decode cc pc = .ok (.iaload, 1))
    (kk : ∀ v, K v = some r → W p l e R s m args below meth c H locs cells slots Q (F0 m (pc + 1) ls (.int v :: rest))) : W p l e R s m args below meth c H locs cells slots Q (F0 m pc ls (.int i :: .ref a :: rest)) := by
  obtain ⟨v, h1, h2⟩ := bo_e hf
  obtain ⟨h3, h4⟩ := rdI_e h1
  exact va_iald hx hb hK hP q0 t0 ha ht h3 hd (by rw [h4]; exact kk v h2)
theorem k_lald (hx : p.tables.exec = Jvm.exec) (hb : c.code = cc) (hK : va_K D vwCl tys s) {w : va_W} (hP : va_P D vwCl w H) (q0 t0 : Nat) {cA : ClassId} {n cN : Nat} {σ : LSt} {i : Int32} {K : Int64 → Option ρ} (hf : bo (rdL σ cN n i) K = some r) (ha : w[q0]? = some (a, .inl (cA, n, .inr (.inl (σ cN))))) (ht : tys[t0]? = some (cA, .long)) (hd : decode cc pc = .ok (.laload, 1))
    (kk : ∀ v, K v = some r → W p l e R s m args below meth c H locs cells slots Q (F0 m (pc + 1) ls (.long v :: rest))) : W p l e R s m args below meth c H locs cells slots Q (F0 m pc ls (.int i :: .ref a :: rest)) := by
  obtain ⟨v, h1, h2⟩ := bo_e hf
  obtain ⟨h3, h4⟩ := rdL_e h1
  exact va_lald hx hb hK hP q0 t0 ha ht h3 hd (by rw [h4]; exact kk v h2)
theorem k_iast (hx : p.tables.exec = Jvm.exec) (hb : c.code = cc) (hK : va_K D vwCl tys s) {w : St → va_W} {σ : St} (hP : va_P D vwCl (w σ) H) (hD : ∀ z, va_D A (w z)) (hS : va_S A H0 H locs) (q0 t0 : Nat) {cA : ClassId} {n cN : Nat} {i x : Int32} {K : St → Option ρ} (hf : bo (wrI σ cN n i x) K = some r) (ha : (w σ)[q0]? = some (a, .inl (cA, n, .inl (σ cN)))) (ht : tys[t0]? = some (cA, .int)) (hw : ∀ j, (w σ).set q0 (a, .inl (cA, n, .inl (upd (σ cN) j x))) = w (up2 σ cN j x)) (hd : decode cc pc = .ok (.iastore, 1))
    (kk : ∀ (z : St) (H1 : Heap) (locs1 : List Loc), va_P D vwCl (w z) H1 → va_S A H0 H1 locs1 → K z = some r → W p l e R s m args below meth c H1 locs1 cells slots Q (F0 m (pc + 1) ls rest)) : W p l e R s m args below meth c H locs cells slots Q (F0 m pc ls (.int x :: .int i :: .ref a :: rest)) := by
  obtain ⟨v, h1, h2⟩ := bo_e hf
  obtain ⟨h3, h4⟩ := wrI_e h1
  refine va_iast hx hb hK hP (hD σ) hS q0 t0 ha ht h3 hd (fun H1 locs1 g1 _ g3 => ?_)
  rw [hw, h4] at g1
  exact kk v H1 locs1 g1 g3 h2
theorem k_last (hx : p.tables.exec = Jvm.exec) (hb : c.code = cc) (hK : va_K D vwCl tys s) {w : LSt → va_W} {σ : LSt} (hP : va_P D vwCl (w σ) H) (hD : ∀ z, va_D A (w z)) (hS : va_S A H0 H locs) (q0 t0 : Nat) {cA : ClassId} {n cN : Nat} {i : Int32} {x : Int64} {K : LSt → Option ρ} (hf : bo (wrL σ cN n i x) K = some r) (ha : (w σ)[q0]? = some (a, .inl (cA, n, .inr (.inl (σ cN))))) (ht : tys[t0]? = some (cA, .long)) (hw : ∀ j, (w σ).set q0 (a, .inl (cA, n, .inr (.inl (vp_updL (σ cN) j x)))) = w (up2L σ cN j x)) (hd : decode cc pc = .ok (.lastore, 1))
    (kk : ∀ (z : LSt) (H1 : Heap) (locs1 : List Loc), va_P D vwCl (w z) H1 → va_S A H0 H1 locs1 → K z = some r → W p l e R s m args below meth c H1 locs1 cells slots Q (F0 m (pc + 1) ls rest)) : W p l e R s m args below meth c H locs cells slots Q (F0 m pc ls (.long x :: .int i :: .ref a :: rest)) := by
  obtain ⟨v, h1, h2⟩ := bo_e hf
  obtain ⟨h3, h4⟩ := wrL_e h1
  refine va_last hx hb hK hP (hD σ) hS q0 t0 ha ht h3 hd (fun H1 locs1 g1 _ g3 => ?_)
  rw [hw, h4] at g1
  exact kk v H1 locs1 g1 g3 h2
theorem k_put (hx : p.tables.exec = Jvm.exec) (hb : c.code = cc) {own ref C : String} {T : u_T} {N ci index : Nat} {Ts : List Cond} (hts : ∀ w ∈ Ts, w.before args s = true) (hin : ∀ w ∈ u_ws C T N, w ∈ Ts) (ty0 : Nat → FieldType) (hty : ∀ k, k < N → parseFieldDescriptor (T k).2.2.1 = some (ty0 k)) (hnm : ∀ a, a < N → ∀ b, b < N → a ≠ b → (T a).2.1 ≠ (T b).2.1) (hown : s.vm.findClass own = some m.cls) (hK : va_K D vwCl tys s) {w : St → va_W} {σ : St} (hP : va_P D vwCl (w σ) H) (hD : ∀ z, va_D A (w z)) (hS : va_S A H0 H locs) (q0 : Nat) {fs : List Value} (he : (w σ)[q0]? = some (a, .inr (ci, fs))) (hc : vwCl[ci]? = some (C, T, N)) (k : Nat) (hk : k < N) (hlink : (Cond.fieldLink own index ref (T k).2.1 (T k).2.2.1).before args s = true) (hsame : ∀ x, s.fieldFound? (T k).1 (T k).2.1 (T k).2.2.1 = some x → s.fieldFound? ref (T k).2.1 (T k).2.2.1 = some x) (hfin : (T k).2.2.2 = false) {ty : FieldType} {v : Int32} (hdt : parseFieldDescriptor (T k).2.2.1 = some ty) (hn : narrow ty (.int v) = .int v) (hfit : fits ty (.int v) = true) (hl : k < fs.length) {cN : Nat} {K : St → Option ρ} (hf : lt_ (up2 σ cN k v) K = some r) (hw : (w σ).set q0 (a, .inr (ci, fs.set k (.int v))) = w (up2 σ cN k v)) (hd : decode cc pc = .ok (.putfield index, 3))
    (kk : ∀ (z : St) (H1 : Heap) (locs1 : List Loc), va_P D vwCl (w z) H1 → va_S A H0 H1 locs1 → K z = some r → W p l e R s m args below meth c H1 locs1 cells slots Q (F0 m (pc + 3) ls rest)) : W p l e R s m args below meth c H locs cells slots Q (F0 m pc ls (.int v :: .ref a :: rest)) := by
  refine va_put hx hb hts hin ty0 hty hnm hown hK hP (hD σ) hS q0 he hc k hk hlink hsame hfin hdt hn hfit hl hd (fun H1 locs1 g1 _ g3 => ?_)
  rw [hw] at g1
  exact kk _ H1 locs1 g1 g3 hf
/-! the ends -/
theorem R_iret {sz : Nat} (hx : p.tables.exec = Jvm.exec) (hb : c.code = cc) (hr : meth.sig.returnType = some .int) (hlk : meth.locks = false) (hS : va_S (fr0 s.heap.size) s.heap H locs) (hsz : s.heap.size = sz) {v z : Int32} (hf : some v = some z) (hd : decode cc pc = .ok (.ireturn, 1)) : W p l e R s m args below meth c H locs 0 0 (MQ below (RQi sz z) args s 0 0 (fr0 sz)) (F0 m pc ls [.int v]) := by
  subst hsz
  cases hf
  exact W.iret (v := v) hx hb hr (fun t ht _ => ⟨⟨v, (), rfl, rfl, trivial⟩, hS.F ht⟩) hS.2.2 hd hlk
theorem R_zret {sz : Nat} (hx : p.tables.exec = Jvm.exec) (hb : c.code = cc) (hr : meth.sig.returnType = some .boolean) (hlk : meth.locks = false) (hS : va_S (fr0 s.heap.size) s.heap H locs) (hsz : s.heap.size = sz) {v z : Int32} (hf : zr v = some z) (hd : decode cc pc = .ok (.ireturn, 1)) : W p l e R s m args below meth c H locs 0 0 (MQ below (RQi sz z) args s 0 0 (fr0 sz)) (F0 m pc ls [.int v]) := by
  subst hsz
  obtain ⟨h1, rfl⟩ := zr_e hf
  exact W.zret (v := v) hx hb hr h1 (fun t ht _ => ⟨⟨v, (), rfl, rfl, trivial⟩, hS.F ht⟩) hS.2.2 hd hlk
theorem R_lret {sz : Nat} (hx : p.tables.exec = Jvm.exec) (hb : c.code = cc) (hr : meth.sig.returnType = some .long) (hlk : meth.locks = false) (hS : va_S (fr0 s.heap.size) s.heap H locs) (hsz : s.heap.size = sz) {v z : Int64} (hf : some v = some z) (hd : decode cc pc = .ok (.lreturn, 1)) : W p l e R s m args below meth c H locs 0 0 (MQ below (RQl sz z) args s 0 0 (fr0 sz)) (F0 m pc ls [.long v]) := by
  subst hsz
  cases hf
  exact W.lret (v := v) hx hb hr (fun t ht _ => ⟨⟨v, (), rfl, rfl, trivial⟩, hS.F ht⟩) hS.2.2 hd hlk
theorem W_iret {S : Type} {sz : Nat} {w0 : va_W} (w : S → va_W) (hx : p.tables.exec = Jvm.exec) (hb : c.code = cc) (hr : meth.sig.returnType = some .int) (hlk : meth.locks = false) {σ : S} (hP : va_P D vwCl (w σ) H) (hS : va_S A s.heap H locs) (hAe : A = va_A w0 sz) {v : Int32} {z : Int32 × S} (hf : some (v, σ) = some z) (hd : decode cc pc = .ok (.ireturn, 1)) : W p l e R s m args below meth c H locs 0 0 (MQ below (WQi sz D w0 (w z.2) z.1) args s 0 0 A) (F0 m pc ls [.int v]) := by
  subst hAe
  cases hf
  exact W.iret (v := v) hx hb hr (fun t ht _ => ⟨⟨v, (), rfl, rfl, by show va_P D vwCl (w σ) t.heap; rw [ht]; exact hP⟩, hS.F ht⟩) hS.2.2 hd hlk
theorem W_zret {S : Type} {sz : Nat} {w0 : va_W} (w : S → va_W) (hx : p.tables.exec = Jvm.exec) (hb : c.code = cc) (hr : meth.sig.returnType = some .boolean) (hlk : meth.locks = false) {σ : S} (hP : va_P D vwCl (w σ) H) (hS : va_S A s.heap H locs) (hAe : A = va_A w0 sz) {v : Int32} {z : Int32 × S} (hf : bo (zr v) (fun v => some (v, σ)) = some z) (hd : decode cc pc = .ok (.ireturn, 1)) : W p l e R s m args below meth c H locs 0 0 (MQ below (WQi sz D w0 (w z.2) z.1) args s 0 0 A) (F0 m pc ls [.int v]) := by
  subst hAe
  obtain ⟨v', h1, h2⟩ := bo_e hf
  obtain ⟨h3, rfl⟩ := zr_e h1
  cases h2
  exact W.zret (v := v) hx hb hr h3 (fun t ht _ => ⟨⟨v, (), rfl, rfl, by show va_P D vwCl (w σ) t.heap; rw [ht]; exact hP⟩, hS.F ht⟩) hS.2.2 hd hlk
theorem W_lret {S : Type} {sz : Nat} {w0 : va_W} (w : S → va_W) (hx : p.tables.exec = Jvm.exec) (hb : c.code = cc) (hr : meth.sig.returnType = some .long) (hlk : meth.locks = false) {σ : S} (hP : va_P D vwCl (w σ) H) (hS : va_S A s.heap H locs) (hAe : A = va_A w0 sz) {v : Int64} {z : Int64 × S} (hf : some (v, σ) = some z) (hd : decode cc pc = .ok (.lreturn, 1)) : W p l e R s m args below meth c H locs 0 0 (MQ below (WQl sz D w0 (w z.2) z.1) args s 0 0 A) (F0 m pc ls [.long v]) := by
  subst hAe
  cases hf
  exact W.lret (v := v) hx hb hr (fun t ht _ => ⟨⟨v, (), rfl, rfl, by show va_P D vwCl (w σ) t.heap; rw [ht]; exact hP⟩, hS.F ht⟩) hS.2.2 hd hlk
theorem W_vret {S : Type} {sz : Nat} {w0 : va_W} (w : S → va_W) (hx : p.tables.exec = Jvm.exec) (hb : c.code = cc) (hr : meth.sig.returnType = none) (hlk : meth.locks = false) {σ : S} (hP : va_P D vwCl (w σ) H) (hS : va_S A s.heap H locs) (hAe : A = va_A w0 sz) {z : S} (hf : some σ = some z) (hd : decode cc pc = .ok (.return_, 1)) : W p l e R s m args below meth c H locs 0 0 (MQ below (WQv sz D w0 (w z)) args s 0 0 A) (F0 m pc ls []) := by
  subst hAe
  cases hf
  exact W.vret hx hb hr (fun t ht _ => ⟨⟨(), rfl, trivial, by show va_P D vwCl (w σ) t.heap; rw [ht]; exact hP⟩, hS.F ht⟩) hS.2.2 hd hlk
end KC
section KD
variable {p : Program} {l : Launch} {e : Env} {R : Room} {s : State} {m : MethodId} {args : Array Value} {below : List Frame} {meth : Method} {c : Code} {H : Heap} {locs : List Loc} {cells slots : Nat} {Q : State → Prop} {cc : ByteArray} {pc : Nat} {ls : Array Slot} {rest st0 : List Value} {ρ : Type} {r : ρ}
variable {D : va_G} {tys : List (ClassId × FieldType)} {A0 : Nat → Prop} {H0 : Heap}
variable {y : MethodName} {bytes : ByteArray} {maxL nL n index : Nat} {ret : Option FieldType} {ws Ts : List Cond} {rm : Room} {own C : String} {b : Addr} {As : List Value}
theorem va_P.keep0 {w : va_W} {H1 : Heap} (hP : va_P D vwCl w H) (hk : ∀ q : Nat, q < H.size → ¬ fr0 H.size q → H1[q]? = H[q]?) : va_P D vwCl w H1 := hP.kept (fun k q hq => by
  have hl := (hP k q hq).lt
  exact hk q.1 hl (Nat.not_le.mpr hl))
/-- calls that only read -/
theorem r_runI {a : Array Value} {v : Int32} {w : va_W} (hr : va_Run p l e R s m args below meth c H locs cells slots 0 0 (F0 m pc ls st0) rest (RQi H.size v a) (fr0 H.size)) (hP : va_P D vwCl w H) (hS : va_S A0 H0 H locs) (hA : ∀ q, H0.size ≤ q → A0 q)
    (kk : ∀ (H1 : Heap) (locs1 : List Loc), va_P D vwCl w H1 → va_S A0 H0 H1 locs1 → W p l e R s m args below meth c H1 locs1 cells slots Q (F0 m (pc + 3) ls (.int v :: rest))) : W p l e R s m args below meth c H locs cells slots Q (F0 m pc ls st0) := by
  refine va_calli hr hS (fun q h1 h2 => absurd h2 (Nat.not_le.mpr h1)) (fun q h => hA q (Nat.le_trans hS.1 h)) (fun r u t H1 locs1 ht hvm hp hB hz hk hS1 => ?_)
  subst hp
  exact kk H1 locs1 (hP.keep0 hk) hS1
theorem r_runL {a : Array Value} {v : Int64} {w : va_W} (hr : va_Run p l e R s m args below meth c H locs cells slots 0 0 (F0 m pc ls st0) rest (RQl H.size v a) (fr0 H.size)) (hP : va_P D vwCl w H) (hS : va_S A0 H0 H locs) (hA : ∀ q, H0.size ≤ q → A0 q)
    (kk : ∀ (H1 : Heap) (locs1 : List Loc), va_P D vwCl w H1 → va_S A0 H0 H1 locs1 → W p l e R s m args below meth c H1 locs1 cells slots Q (F0 m (pc + 3) ls (.long v :: rest))) : W p l e R s m args below meth c H locs cells slots Q (F0 m pc ls st0) := by
  refine va_calll hr hS (fun q h1 h2 => absurd h2 (Nat.not_le.mpr h1)) (fun q h => hA q (Nat.le_trans hS.1 h)) (fun r u t H1 locs1 ht hvm hp hB hz hk hS1 => ?_)
  subst hp
  exact kk H1 locs1 (hP.keep0 hk) hS1
theorem r_callV (S : CallFix p m c cc nL s args Ts own) {fc : Option Int32} {w wc : va_W} {K : Int32 → Option ρ} (hf : bo fc K = some r) (hM : ∀ v, fc = some v → Met l y ws rm (RPre (.ref b :: As) H.size D tys wc) (RQi H.size v) 0 0 (fr0 H.size)) (cw : CallW R s args own C index y bytes maxL ret ws rm 0 0 n) (hK : va_K D vwCl tys s) (hP : va_P D vwCl w H) (hS : va_S A0 H0 H locs) (hA : ∀ q, H0.size ≤ q → A0 q) (is : List Nat) (his : is.filterMap (fun i => w[i]?) = wc) (ci : Nat) {fs : List Value} {q : vw_C} (hc : vwCl[ci]? = some q) (hq : q.1 = C) (he : wc[0]? = some (b, .inr (ci, fs))) (hn : As.length = n) (hsize : ls.size = nL) (hst : st0 = As.reverse ++ .ref b :: rest) (hW : (rest.map fun v => v.category).sum ≤ 8) (hd : decode cc pc = .ok (.invokevirtual index, 3)) (hcs : cells ≤ R.cells ∧ slots ≤ R.slots)
    (kk : ∀ (v : Int32) (H1 : Heap) (locs1 : List Loc), va_P D vwCl w H1 → va_S A0 H0 H1 locs1 → K v = some r → W p l e R s m args below meth c H1 locs1 cells slots Q (F0 m (pc + 3) ls (.int v :: rest))) : W p l e R s m args below meth c H locs cells slots Q (F0 m pc ls st0) := by
  obtain ⟨v, h1, h2⟩ := bo_e hf
  subst hst
  have hPc := hP.sub is his
  refine r_runI (va_runV S (hM v h1) cw ⟨RPre.blind, by rw [← hq]; exact va_recv hK hPc hc he, fun U hU hW1 => ⟨rfl, by rw [hU], by rw [hU]; exact hPc, va_K.moved hW1.alike hK⟩⟩ rfl hn hsize rfl (lv_room hW) hd hcs) hP hS hA (fun H1 locs1 g1 g2 => kk v H1 locs1 g1 g2 h2)
theorem r_callS (S : CallFix p m c cc nL s args Ts own) {fc : Option Int32} {w wc : va_W} {K : Int32 → Option ρ} (hf : bo fc K = some r) (hM : ∀ v, fc = some v → Met l y ws rm (RPre As H.size D tys wc) (RQi H.size v) 0 0 (fr0 H.size)) (cw : CallB R s args own index y bytes maxL ret ws rm 0 0 n ∧ (Cond.static y).before args s = true) (hK : va_K D vwCl tys s) (hP : va_P D vwCl w H) (hS : va_S A0 H0 H locs) (hA : ∀ q, H0.size ≤ q → A0 q) (is : List Nat) (his : is.filterMap (fun i => w[i]?) = wc) (hn : As.length = n) (hsize : ls.size = nL) (hst : st0 = As.reverse ++ rest) (hW : (rest.map fun v => v.category).sum ≤ 8) (hd : decode cc pc = .ok (.invokestatic index, 3)) (hcs : cells ≤ R.cells ∧ slots ≤ R.slots)
    (kk : ∀ (v : Int32) (H1 : Heap) (locs1 : List Loc), va_P D vwCl w H1 → va_S A0 H0 H1 locs1 → K v = some r → W p l e R s m args below meth c H1 locs1 cells slots Q (F0 m (pc + 3) ls (.int v :: rest))) : W p l e R s m args below meth c H locs cells slots Q (F0 m pc ls st0) := by
  obtain ⟨v, h1, h2⟩ := bo_e hf
  subst hst
  have hPc := hP.sub is his
  refine r_runI (va_runS S (hM v h1) cw ⟨RPre.blind, fun U hU hW1 => ⟨rfl, by rw [hU], by rw [hU]; exact hPc, va_K.moved hW1.alike hK⟩⟩ rfl hn hsize rfl (lv_room hW) hd hcs) hP hS hA (fun H1 locs1 g1 g2 => kk v H1 locs1 g1 g2 h2)
theorem r_callSL (S : CallFix p m c cc nL s args Ts own) {fc : Option Int64} {w wc : va_W} {K : Int64 → Option ρ} (hf : bo fc K = some r) (hM : ∀ v, fc = some v → Met l y ws rm (RPre As H.size D tys wc) (RQl H.size v) 0 0 (fr0 H.size)) (cw : CallB R s args own index y bytes maxL ret ws rm 0 0 n ∧ (Cond.static y).before args s = true) (hK : va_K D vwCl tys s) (hP : va_P D vwCl w H) (hS : va_S A0 H0 H locs) (hA : ∀ q, H0.size ≤ q → A0 q) (is : List Nat) (his : is.filterMap (fun i => w[i]?) = wc) (hn : As.length = n) (hsize : ls.size = nL) (hst : st0 = As.reverse ++ rest) (hW : (rest.map fun v => v.category).sum ≤ 8) (hd : decode cc pc = .ok (.invokestatic index, 3)) (hcs : cells ≤ R.cells ∧ slots ≤ R.slots)
    (kk : ∀ (v : Int64) (H1 : Heap) (locs1 : List Loc), va_P D vwCl w H1 → va_S A0 H0 H1 locs1 → K v = some r → W p l e R s m args below meth c H1 locs1 cells slots Q (F0 m (pc + 3) ls (.long v :: rest))) : W p l e R s m args below meth c H locs cells slots Q (F0 m pc ls st0) := by
  obtain ⟨v, h1, h2⟩ := bo_e hf
  subst hst
  have hPc := hP.sub is his
  refine r_runL (va_runS S (hM v h1) cw ⟨RPre.blind, fun U hU hW1 => ⟨rfl, by rw [hU], by rw [hU]; exact hPc, va_K.moved hW1.alike hK⟩⟩ rfl hn hsize rfl (lv_room hW) hd hcs) hP hS hA (fun H1 locs1 g1 g2 => kk v H1 locs1 g1 g2 h2)
/-- the frame of a call that writes -/
theorem w_join {w w' wc wc' : va_W} {H1 : Heap} (hP : va_P D vwCl w H) (hD : va_D A0 w) (is rs : List Nat) (nW : Nat) (hC : is.map (fun i => w[i]?) = wc.map some) (hC' : is.map (fun i => w'[i]?) = wc'.map some) (hR : rs.map (fun i => w'[i]?) = rs.map (fun i => w[i]?)) (hlen : w'.length = nW) (hall : ∀ i, i < nW → i ∈ is ∨ i ∈ rs) (hdis : ∀ i ∈ rs, i ∉ is) (hk : ∀ q : Nat, q < H.size → ¬ va_A wc H.size q → H1[q]? = H[q]?) (hP1 : va_P D vwCl wc' H1) : va_P D vwCl w' H1 := by
  intro k q hq
  have hlt : k < nW := by rw [← hlen]; exact (List.getElem?_eq_some_iff.mp hq).1
  rcases hall k hlt with h | h
  · obtain ⟨j, hj⟩ := List.mem_iff_getElem?.mp h
    have h1 : (is.map (fun i => w'[i]?))[j]? = some (some q) := by rw [List.getElem?_map, hj]; show some (w'[k]?) = _; rw [hq]
    rw [hC', List.getElem?_map] at h1
    cases h2 : wc'[j]? with
    | none => rw [h2] at h1; cases h1
    | some q' => rw [h2] at h1; cases h1; exact hP1 j q h2
  · obtain ⟨j, hj⟩ := List.mem_iff_getElem?.mp h
    have h1 : (rs.map (fun i => w'[i]?))[j]? = some (some q) := by rw [List.getElem?_map, hj]; show some (w'[k]?) = _; rw [hq]
    rw [hR, List.getElem?_map, hj] at h1
    have h2 : w[k]? = some q := Option.some.inj h1
    have hl := (hP k q h2).lt
    refine (hP k q h2).kept (hk q.1 hl ?_)
    rintro (⟨k2, e2, h3⟩ | h3)
    · have h4 : (is.map (fun i => w[i]?))[k2]? = some (some (q.1, e2)) := by rw [hC, List.getElem?_map, h3]; rfl
      rw [List.getElem?_map] at h4
      cases hi : is[k2]? with
      | none => rw [hi] at h4; cases h4
      | some i =>
        rw [hi] at h4
        have h5 : w[i]? = some (q.1, e2) := Option.some.inj h4
        have h6 := hD.1 k i q (q.1, e2) h2 h5 rfl
        subst h6
        exact hdis k h (List.mem_of_getElem? hi)
    · exact absurd h3 (Nat.not_le.mpr hl)
theorem w_callV {S' T : Type} (S : CallFix p m c cc nL s args Ts own) {fc : Option (Int32 × T)} {w : S' → va_W} {wc : T → va_W} {put : T → S'} {σ : S'} {τ0 : T} {K : Int32 → S' → Option ρ} (hf : bx fc put K = some r) (hM : ∀ v τ, fc = some (v, τ) → Met l y ws rm (WPre (.ref b :: As) H.size D tys (wc τ0)) (WQi H.size D (wc τ0) (wc τ) v) 0 0 (va_A (wc τ0) H.size)) (cw : CallW R s args own C index y bytes maxL ret ws rm 0 0 n) (hK : va_K D vwCl tys s) (hP : va_P D vwCl (w σ) H) (hD : ∀ z, va_D A0 (w z)) (hS : va_S A0 H0 H locs) (hA : ∀ q, H0.size ≤ q → A0 q) (is rs : List Nat) (nW : Nat) (hC : is.map (fun i => (w σ)[i]?) = (wc τ0).map some) (hC' : ∀ τ, is.map (fun i => (w (put τ))[i]?) = (wc τ).map some) (hR : ∀ τ, rs.map (fun i => (w (put τ))[i]?) = rs.map (fun i => (w σ)[i]?)) (hlen : ∀ z, (w z).length = nW) (hall : (∀ i, i < nW → i ∈ is ∨ i ∈ rs) ∧ (∀ i ∈ rs, i ∉ is) ∧ va_nd is = true) (ci : Nat) {fs : List Value} {q : vw_C} (hc : vwCl[ci]? = some q) (hq : q.1 = C) (he : (wc τ0)[0]? = some (b, .inr (ci, fs))) (hn : As.length = n) (hsize : ls.size = nL) (hst : st0 = As.reverse ++ .ref b :: rest) (hW : (rest.map fun v => v.category).sum ≤ 8) (hd : decode cc pc = .ok (.invokevirtual index, 3)) (hcs : cells ≤ R.cells ∧ slots ≤ R.slots)
    (kk : ∀ (v : Int32) (z : S') (H1 : Heap) (locs1 : List Loc), va_P D vwCl (w z) H1 → va_S A0 H0 H1 locs1 → K v z = some r → W p l e R s m args below meth c H1 locs1 cells slots Q (F0 m (pc + 3) ls (.int v :: rest))) : W p l e R s m args below meth c H locs cells slots Q (F0 m pc ls st0) := by
  obtain ⟨v, τ, h1, h2⟩ := bx_e hf
  subst hst
  have hDc := (hD σ).sub (ws' := wc τ0) is hall.2.2 hC
  have hPc : va_P D vwCl (wc τ0) H := hP.sub is (by
    have h := congrArg (List.filterMap id) hC
    simpa [List.filterMap_map, Function.comp_def] using h)
  have hFc := va_free (wc := wc τ0) (hD σ) hS hA is hC
  refine va_calli (va_runV S (hM v τ h1) cw ⟨WPre.blind, by rw [← hq]; exact va_recv hK hPc hc he, fun U hU hW1 => ⟨rfl, by rw [hU], by rw [hU]; exact hPc, va_K.moved hW1.alike hK, hDc.weaken (fun _ _ _ _ => trivial)⟩⟩ rfl hn hsize rfl (lv_room hW) hd hcs) hS (fun q _ h => hFc q h) hFc (fun r' u t H1 locs1 ht hvm hp hB hz hk hS1 => ?_)
  subst hp
  rw [ht] at hB
  exact kk r' (put τ) H1 locs1 (w_join hP (hD σ) is rs nW hC (hC' τ) (hR τ) (hlen _) hall.1 hall.2.1 hk hB) hS1 h2
theorem w_callVL {S' T : Type} (S : CallFix p m c cc nL s args Ts own) {fc : Option (Int64 × T)} {w : S' → va_W} {wc : T → va_W} {put : T → S'} {σ : S'} {τ0 : T} {K : Int64 → S' → Option ρ} (hf : bx fc put K = some r) (hM : ∀ v τ, fc = some (v, τ) → Met l y ws rm (WPre (.ref b :: As) H.size D tys (wc τ0)) (WQl H.size D (wc τ0) (wc τ) v) 0 0 (va_A (wc τ0) H.size)) (cw : CallW R s args own C index y bytes maxL ret ws rm 0 0 n) (hK : va_K D vwCl tys s) (hP : va_P D vwCl (w σ) H) (hD : ∀ z, va_D A0 (w z)) (hS : va_S A0 H0 H locs) (hA : ∀ q, H0.size ≤ q → A0 q) (is rs : List Nat) (nW : Nat) (hC : is.map (fun i => (w σ)[i]?) = (wc τ0).map some) (hC' : ∀ τ, is.map (fun i => (w (put τ))[i]?) = (wc τ).map some) (hR : ∀ τ, rs.map (fun i => (w (put τ))[i]?) = rs.map (fun i => (w σ)[i]?)) (hlen : ∀ z, (w z).length = nW) (hall : (∀ i, i < nW → i ∈ is ∨ i ∈ rs) ∧ (∀ i ∈ rs, i ∉ is) ∧ va_nd is = true) (ci : Nat) {fs : List Value} {q : vw_C} (hc : vwCl[ci]? = some q) (hq : q.1 = C) (he : (wc τ0)[0]? = some (b, .inr (ci, fs))) (hn : As.length = n) (hsize : ls.size = nL) (hst : st0 = As.reverse ++ .ref b :: rest) (hW : (rest.map fun v => v.category).sum ≤ 8) (hd : decode cc pc = .ok (.invokevirtual index, 3)) (hcs : cells ≤ R.cells ∧ slots ≤ R.slots)
    (kk : ∀ (v : Int64) (z : S') (H1 : Heap) (locs1 : List Loc), va_P D vwCl (w z) H1 → va_S A0 H0 H1 locs1 → K v z = some r → W p l e R s m args below meth c H1 locs1 cells slots Q (F0 m (pc + 3) ls (.long v :: rest))) : W p l e R s m args below meth c H locs cells slots Q (F0 m pc ls st0) := by
  obtain ⟨v, τ, h1, h2⟩ := bx_e hf
  subst hst
  have hDc := (hD σ).sub (ws' := wc τ0) is hall.2.2 hC
  have hPc : va_P D vwCl (wc τ0) H := hP.sub is (by
    have h := congrArg (List.filterMap id) hC
    simpa [List.filterMap_map, Function.comp_def] using h)
  have hFc := va_free (wc := wc τ0) (hD σ) hS hA is hC
  refine va_calll (va_runV S (hM v τ h1) cw ⟨WPre.blind, by rw [← hq]; exact va_recv hK hPc hc he, fun U hU hW1 => ⟨rfl, by rw [hU], by rw [hU]; exact hPc, va_K.moved hW1.alike hK, hDc.weaken (fun _ _ _ _ => trivial)⟩⟩ rfl hn hsize rfl (lv_room hW) hd hcs) hS (fun q _ h => hFc q h) hFc (fun r' u t H1 locs1 ht hvm hp hB hz hk hS1 => ?_)
  subst hp
  rw [ht] at hB
  exact kk r' (put τ) H1 locs1 (w_join hP (hD σ) is rs nW hC (hC' τ) (hR τ) (hlen _) hall.1 hall.2.1 hk hB) hS1 h2
theorem w_callVv {S' T : Type} (S : CallFix p m c cc nL s args Ts own) {fc : Option T} {w : S' → va_W} {wc : T → va_W} {put : T → S'} {σ : S'} {τ0 : T} {K : S' → Option ρ} (hf : by_ fc put K = some r) (hM : ∀ τ, fc = some τ → Met l y ws rm (WPre (.ref b :: As) H.size D tys (wc τ0)) (WQv H.size D (wc τ0) (wc τ)) 0 0 (va_A (wc τ0) H.size)) (cw : CallW R s args own C index y bytes maxL ret ws rm 0 0 n) (hK : va_K D vwCl tys s) (hP : va_P D vwCl (w σ) H) (hD : ∀ z, va_D A0 (w z)) (hS : va_S A0 H0 H locs) (hA : ∀ q, H0.size ≤ q → A0 q) (is rs : List Nat) (nW : Nat) (hC : is.map (fun i => (w σ)[i]?) = (wc τ0).map some) (hC' : ∀ τ, is.map (fun i => (w (put τ))[i]?) = (wc τ).map some) (hR : ∀ τ, rs.map (fun i => (w (put τ))[i]?) = rs.map (fun i => (w σ)[i]?)) (hlen : ∀ z, (w z).length = nW) (hall : (∀ i, i < nW → i ∈ is ∨ i ∈ rs) ∧ (∀ i ∈ rs, i ∉ is) ∧ va_nd is = true) (ci : Nat) {fs : List Value} {q : vw_C} (hc : vwCl[ci]? = some q) (hq : q.1 = C) (he : (wc τ0)[0]? = some (b, .inr (ci, fs))) (hn : As.length = n) (hsize : ls.size = nL) (hst : st0 = As.reverse ++ .ref b :: rest) (hW : (rest.map fun v => v.category).sum ≤ 8) (hd : decode cc pc = .ok (.invokevirtual index, 3)) (hcs : cells ≤ R.cells ∧ slots ≤ R.slots)
    (kk : ∀ (z : S') (H1 : Heap) (locs1 : List Loc), va_P D vwCl (w z) H1 → va_S A0 H0 H1 locs1 → K z = some r → W p l e R s m args below meth c H1 locs1 cells slots Q (F0 m (pc + 3) ls rest)) : W p l e R s m args below meth c H locs cells slots Q (F0 m pc ls st0) := by
  obtain ⟨τ, h1, h2⟩ := by_e hf
  subst hst
  have hDc := (hD σ).sub (ws' := wc τ0) is hall.2.2 hC
  have hPc : va_P D vwCl (wc τ0) H := hP.sub is (by
    have h := congrArg (List.filterMap id) hC
    simpa [List.filterMap_map, Function.comp_def] using h)
  have hFc := va_free (wc := wc τ0) (hD σ) hS hA is hC
  refine va_callv (va_runV S (hM τ h1) cw ⟨WPre.blind, by rw [← hq]; exact va_recv hK hPc hc he, fun U hU hW1 => ⟨rfl, by rw [hU], by rw [hU]; exact hPc, va_K.moved hW1.alike hK, hDc.weaken (fun _ _ _ _ => trivial)⟩⟩ rfl hn hsize rfl (lv_room hW) hd hcs) hS (fun q _ h => hFc q h) hFc (fun u t H1 locs1 ht hvm hp hB hz hk hS1 => ?_)
  rw [ht] at hB
  exact kk (put τ) H1 locs1 (w_join hP (hD σ) is rs nW hC (hC' τ) (hR τ) (hlen _) hall.1 hall.2.1 hk hB) hS1 h2
theorem w_callSv {S' T : Type} (S : CallFix p m c cc nL s args Ts own) {fc : Option T} {w : S' → va_W} {wc : T → va_W} {put : T → S'} {σ : S'} {τ0 : T} {K : S' → Option ρ} (hf : by_ fc put K = some r) (hM : ∀ τ, fc = some τ → Met l y ws rm (WPre As H.size D tys (wc τ0)) (WQv H.size D (wc τ0) (wc τ)) 0 0 (va_A (wc τ0) H.size)) (cw : CallB R s args own index y bytes maxL ret ws rm 0 0 n ∧ (Cond.static y).before args s = true) (hK : va_K D vwCl tys s) (hP : va_P D vwCl (w σ) H) (hD : ∀ z, va_D A0 (w z)) (hS : va_S A0 H0 H locs) (hA : ∀ q, H0.size ≤ q → A0 q) (is rs : List Nat) (nW : Nat) (hC : is.map (fun i => (w σ)[i]?) = (wc τ0).map some) (hC' : ∀ τ, is.map (fun i => (w (put τ))[i]?) = (wc τ).map some) (hR : ∀ τ, rs.map (fun i => (w (put τ))[i]?) = rs.map (fun i => (w σ)[i]?)) (hlen : ∀ z, (w z).length = nW) (hall : (∀ i, i < nW → i ∈ is ∨ i ∈ rs) ∧ (∀ i ∈ rs, i ∉ is) ∧ va_nd is = true) (hn : As.length = n) (hsize : ls.size = nL) (hst : st0 = As.reverse ++ rest) (hW : (rest.map fun v => v.category).sum ≤ 8) (hd : decode cc pc = .ok (.invokestatic index, 3)) (hcs : cells ≤ R.cells ∧ slots ≤ R.slots)
    (kk : ∀ (z : S') (H1 : Heap) (locs1 : List Loc), va_P D vwCl (w z) H1 → va_S A0 H0 H1 locs1 → K z = some r → W p l e R s m args below meth c H1 locs1 cells slots Q (F0 m (pc + 3) ls rest)) : W p l e R s m args below meth c H locs cells slots Q (F0 m pc ls st0) := by
  obtain ⟨τ, h1, h2⟩ := by_e hf
  subst hst
  have hDc := (hD σ).sub (ws' := wc τ0) is hall.2.2 hC
  have hPc : va_P D vwCl (wc τ0) H := hP.sub is (by
    have h := congrArg (List.filterMap id) hC
    simpa [List.filterMap_map, Function.comp_def] using h)
  have hFc := va_free (wc := wc τ0) (hD σ) hS hA is hC
  refine va_callv (va_runS S (hM τ h1) cw ⟨WPre.blind, fun U hU hW1 => ⟨rfl, by rw [hU], by rw [hU]; exact hPc, va_K.moved hW1.alike hK, hDc.weaken (fun _ _ _ _ => trivial)⟩⟩ rfl hn hsize rfl (lv_room hW) hd hcs) hS (fun q _ h => hFc q h) hFc (fun u t H1 locs1 ht hvm hp hB hz hk hS1 => ?_)
  rw [ht] at hB
  exact kk (put τ) H1 locs1 (w_join hP (hD σ) is rs nW hC (hC' τ) (hR τ) (hlen _) hall.1 hall.2.1 hk hB) hS1 h2
end KD
/-! the worlds: which cells, how long their rows -/
abbrev wNo : va_W := []
abbrev wHo (cI : ClassId) (a : Nat → Nat) (σ : St) : va_W := [(a 0, .inr (0, [.int (σ 0 0), .int (σ 0 1), .int (σ 0 2), .int (σ 0 3), .ref (a 1), .ref (a 2), .ref (a 3), .ref (a 4), .ref (a 5)])), (a 1, .inl (cI, 2, .inl (σ 1))), (a 2, .inl (cI, 8, .inl (σ 2))), (a 3, .inl (cI, 8, .inl (σ 3))), (a 4, .inl (cI, 8, .inl (σ 4))), (a 5, .inl (cI, 8, .inl (σ 5)))]
abbrev wHo2 (cI : ClassId) (a : Nat → Nat) (σ : St) : va_W := [(a 0, .inr (0, [.int (σ 0 0), .int (σ 0 1), .int (σ 0 2), .int (σ 0 3), .ref (a 1), .ref (a 2), .ref (a 3), .ref (a 4), .ref (a 5)])), (a 1, .inl (cI, 2, .inl (σ 1))), (a 2, .inl (cI, 8, .inl (σ 2))), (a 3, .inl (cI, 8, .inl (σ 3))), (a 4, .inl (cI, 8, .inl (σ 4))), (a 5, .inl (cI, 8, .inl (σ 5))),
  (a 6, .inr (0, [.int (σ 6 0), .int (σ 6 1), .int (σ 6 2), .int (σ 6 3), .ref (a 7), .ref (a 8), .ref (a 9), .ref (a 10), .ref (a 11)])), (a 7, .inl (cI, 2, .inl (σ 7))), (a 8, .inl (cI, 8, .inl (σ 8))), (a 9, .inl (cI, 8, .inl (σ 9))), (a 10, .inl (cI, 8, .inl (σ 10))), (a 11, .inl (cI, 8, .inl (σ 11)))]
abbrev wHoP (cI : ClassId) (a : Nat → Nat) (σ : St) : va_W := [(a 0, .inr (0, [.int (σ 0 0), .int (σ 0 1), .int (σ 0 2), .int (σ 0 3), .ref (a 1), .ref (a 2), .ref (a 3), .ref (a 4), .ref (a 5)])), (a 1, .inl (cI, 2, .inl (σ 1))), (a 2, .inl (cI, 8, .inl (σ 2))), (a 3, .inl (cI, 8, .inl (σ 3))), (a 4, .inl (cI, 8, .inl (σ 4))), (a 5, .inl (cI, 8, .inl (σ 5))), (a 6, .inl (cI, 71, .inl (σ 6)))]
abbrev wTe (cI : ClassId) (a : Nat → Nat) (σ : St) : va_W := [(a 0, .inr (1, [.int (σ 0 0), .ref (a 1)])), (a 1, .inl (cI, 96, .inl (σ 1)))]
abbrev wTeH (cI : ClassId) (a : Nat → Nat) (σ : St) : va_W := [(a 0, .inr (1, [.int (σ 0 0), .ref (a 1)])), (a 1, .inl (cI, 96, .inl (σ 1))),
  (a 2, .inr (0, [.int (σ 2 0), .int (σ 2 1), .int (σ 2 2), .int (σ 2 3), .ref (a 3), .ref (a 4), .ref (a 5), .ref (a 6), .ref (a 7)])), (a 3, .inl (cI, 2, .inl (σ 3))), (a 4, .inl (cI, 8, .inl (σ 4))), (a 5, .inl (cI, 8, .inl (σ 5))), (a 6, .inl (cI, 8, .inl (σ 6))), (a 7, .inl (cI, 8, .inl (σ 7)))]
abbrev wHA (cI cJ : ClassId) (a : Nat → Nat) (τ : LSt) (σ : St) : va_W := [(a 0, .inr (2, [.ref (a 1), .ref (a 7), .ref (a 13), .ref (a 19), .ref (a 21), .ref (a 22), .ref (a 23), .ref (a 24), .ref (a 25), .ref (a 26), .ref (a 27), .ref (a 28), .int (σ 0 12), .int (σ 0 13)])),
  (a 1, .inr (0, [.int (σ 1 0), .int (σ 1 1), .int (σ 1 2), .int (σ 1 3), .ref (a 2), .ref (a 3), .ref (a 4), .ref (a 5), .ref (a 6)])), (a 2, .inl (cI, 2, .inl (σ 2))), (a 3, .inl (cI, 8, .inl (σ 3))), (a 4, .inl (cI, 8, .inl (σ 4))), (a 5, .inl (cI, 8, .inl (σ 5))), (a 6, .inl (cI, 8, .inl (σ 6))),
  (a 7, .inr (0, [.int (σ 7 0), .int (σ 7 1), .int (σ 7 2), .int (σ 7 3), .ref (a 8), .ref (a 9), .ref (a 10), .ref (a 11), .ref (a 12)])), (a 8, .inl (cI, 2, .inl (σ 8))), (a 9, .inl (cI, 8, .inl (σ 9))), (a 10, .inl (cI, 8, .inl (σ 10))), (a 11, .inl (cI, 8, .inl (σ 11))), (a 12, .inl (cI, 8, .inl (σ 12))),
  (a 13, .inr (0, [.int (σ 13 0), .int (σ 13 1), .int (σ 13 2), .int (σ 13 3), .ref (a 14), .ref (a 15), .ref (a 16), .ref (a 17), .ref (a 18)])), (a 14, .inl (cI, 2, .inl (σ 14))), (a 15, .inl (cI, 8, .inl (σ 15))), (a 16, .inl (cI, 8, .inl (σ 16))), (a 17, .inl (cI, 8, .inl (σ 17))), (a 18, .inl (cI, 8, .inl (σ 18))),
  (a 19, .inr (1, [.int (σ 19 0), .ref (a 20)])), (a 20, .inl (cI, 96, .inl (σ 20))),
  (a 21, .inl (cI, 71, .inl (σ 21))), (a 22, .inl (cI, 31, .inl (σ 22))), (a 23, .inl (cI, 8, .inl (σ 23))), (a 24, .inl (cI, 4, .inl (σ 24))), (a 25, .inl (cJ, 21, .inr (.inl (τ 0)))), (a 26, .inl (cJ, 21, .inr (.inl (τ 1)))), (a 27, .inl (cI, 16, .inl (σ 27))), (a 28, .inl (cI, 7, .inl (σ 28)))]
abbrev wAr (cI : ClassId) (a : Nat → Nat) (σ : St) : va_W := [(a 0, .inl (cI, 38, .inl (σ 0)))]
abbrev wAr2 (cI : ClassId) (a : Nat → Nat) (σ : St) : va_W := [(a 0, .inl (cI, 38, .inl (σ 0))), (a 1, .inl (cI, 38, .inl (σ 1)))]
abbrev wMo (cI : ClassId) (a : Nat → Nat) (σ : St) : va_W := [(a 0, .inr (3, [.ref (a 1), .ref (a 2), .ref (a 3), .ref (a 4), .int (σ 0 4), .ref (a 5), .ref (a 6), .ref (a 7), .int (σ 0 8), .int (σ 0 9), .int (σ 0 10), .ref (a 8), .int (σ 0 12)])), (a 1, .inl (cI, 38, .inl (σ 1))), (a 2, .inl (cI, 38, .inl (σ 2))), (a 3, .inl (cI, 38, .inl (σ 3))), (a 4, .inl (cI, 38, .inl (σ 4))), (a 5, .inl (cI, 96, .inl (σ 5))), (a 6, .inl (cI, 16, .inl (σ 6))), (a 7, .inl (cI, 7, .inl (σ 7))), (a 8, .inl (cI, 3, .inl (σ 8)))]
