/-! the two texts of the telling: their places, what holds of them, contracts over them -/
def txL : List Nat := [6, 6]
def txB : List (List Int32) := [[116, 104, 98, 102, 100, 110], [104, 108, 116, 115, 98, 119]]
def SX (ad av : Nat → Nat) (A : Nat → Prop) (U : State) (H : Heap) : Prop := vk_S 2 txL txB ad av A U H ∧ vk_R RX1 37 "thbfdn" (ad 0) U ∧ vk_R RX1 47 "hltsbw" (ad 1) U ∧ va_Z "java/lang/String" "COMPACT_STRINGS" "Z" (.int 1) A U H
theorem SX.go {ad av : Nat → Nat} {A B : Nat → Prop} {s U : State} {H : Heap} (hW : s.WarmedH U.vm) (h : SX ad av A s s.heap) (hq : ∀ a : Nat, a < s.heap.size → ¬ A a → H[a]? = s.heap[a]?) (hAB : ∀ q, B q → A q) : SX ad av B U H :=
  ⟨((h.1.kept hq).narrow hAB).moved hW.alike, h.2.1.warm hW, h.2.2.1.warm hW, ((h.2.2.2.kept hq).narrow hAB).moved hW.alike⟩
theorem SX.call {ad av : Nat → Nat} {A : Nat → Prop} {U U' : State} {H : Heap} (hv : U'.vm = U.vm) (h : SX ad av A U H) : SX ad av A U' H :=
  ⟨h.1.moved (by rw [hv]; exact Vm.Alike.refl U.vm), h.2.1.same hv, h.2.2.1.same hv, h.2.2.2.moved (by rw [hv]; exact Vm.Alike.refl U.vm)⟩
def RPreS (ad av : Nat → Nat) (vs : List Value) (sz : Nat) (D : va_G) (tys : List (ClassId × FieldType)) (w : va_W) : Array Value → State → Prop := va_Pc vs (fun U => U.heap.size = sz ∧ va_P D vwCl w U.heap ∧ va_K D vwCl tys U ∧ SX ad av (fr0 sz) U U.heap)
def WPreS (ad av : Nat → Nat) (vs : List Value) (sz : Nat) (D : va_G) (tys : List (ClassId × FieldType)) (w : va_W) : Array Value → State → Prop := va_Pc vs (fun U => U.heap.size = sz ∧ va_P D vwCl w U.heap ∧ va_K D vwCl tys U ∧ va_D (fun _ => True) w ∧ SX ad av (va_A w sz) U U.heap)
theorem RPreS.blind {ad av : Nat → Nat} {vs : List Value} {sz : Nat} {D : va_G} {tys : List (ClassId × FieldType)} {w : va_W} : FrameBlind (RPreS ad av vs sz D tys w) := fun a U g mk q => by
  obtain ⟨q0, q1, qP, qK, qX⟩ := q
  exact ⟨q0, q1, qP, va_K.moved (u := U) (U := U.calling g mk a) (Vm.Alike.refl U.vm) qK, SX.call (U := U) (U' := U.calling g mk a) rfl qX⟩
theorem WPreS.blind {ad av : Nat → Nat} {vs : List Value} {sz : Nat} {D : va_G} {tys : List (ClassId × FieldType)} {w : va_W} : FrameBlind (WPreS ad av vs sz D tys w) := fun a U g mk q => by
  obtain ⟨q0, q1, qP, qK, qD, qX⟩ := q
  exact ⟨q0, q1, qP, va_K.moved (u := U) (U := U.calling g mk a) (Vm.Alike.refl U.vm) qK, qD, SX.call (U := U) (U' := U.calling g mk a) rfl qX⟩
theorem RS_start {l : Launch} {y : MethodName} {ws ws' : List Cond} {rm : Room} {ad av : Nat → Nat} {vs : List Value} {sz : Nat} {D : va_G} {tys : List (ClassId × FieldType)} {w : va_W} {Qc : Array Value → State → Outcome → State → Prop} {cc : ByteArray} {maxL : Nat} {ret : Option FieldType}
    (hy : plainName y.cls = true) (hw : ws = Cond.code y cc maxL ret :: ws') (hn : (lg_sl vs).length ≤ maxL)
    (body : ∀ (p : Program) (e : Env) (s : State) (m : MethodId) (below : List Frame) (meth : Method) (c : Code) (ls : Array Slot), p.tables.exec = Jvm.exec → c.code = cc → meth.sig.returnType = ret → c.maxLocals = maxL → s.vm.findClass y.cls = some m.cls → (∀ w ∈ ws, w.before vs.toArray s = true) → meth.locks = false → va_P D vwCl w s.heap → va_K D vwCl tys s → va_S (fr0 s.heap.size) s.heap s.heap [] → (∀ q : Nat, s.heap.size ≤ q → fr0 s.heap.size q) → s.heap.size = sz → lv_has ls maxL (lv_args 0 vs) → SX ad av (fr0 s.heap.size) s s.heap →
      W p l e rm s m vs.toArray below meth c s.heap [] 0 0 (MQ below Qc vs.toArray s 0 0 (fr0 sz)) (F0 m 0 ls [])) : Met l y ws rm (RPreS ad av vs sz D tys w) Qc 0 0 (fr0 sz) := by
  refine Met.ofW (cc := cc) (maxL := maxL) (ret := ret) hy hw ?_
  intro p e s m args below meth c s₁ B hml hv
  obtain ⟨rfl, hsz, hP, hK, hX⟩ := hv
  have hl := lv_entry vs (n := maxL) hn
  rw [lg_entry_eq]
  exact body p e s m below meth c _ B.exec B.bytes B.returns hml (findClass_of_methodNamed B.named) (atoms_spec (ws := ws) B.pre) B.notSynchronized hP hK va_S.rf (fun _ h => h) hsz hl (by rw [hsz]; exact hX)
theorem WS_start {l : Launch} {y : MethodName} {ws ws' : List Cond} {rm : Room} {ad av : Nat → Nat} {vs : List Value} {sz : Nat} {D : va_G} {tys : List (ClassId × FieldType)} {w : va_W} {Qc : Array Value → State → Outcome → State → Prop} {cc : ByteArray} {maxL : Nat} {ret : Option FieldType}
    (hy : plainName y.cls = true) (hw : ws = Cond.code y cc maxL ret :: ws') (hn : (lg_sl vs).length ≤ maxL)
    (body : ∀ (p : Program) (e : Env) (s : State) (m : MethodId) (below : List Frame) (meth : Method) (c : Code) (ls : Array Slot) (A : Nat → Prop), p.tables.exec = Jvm.exec → c.code = cc → meth.sig.returnType = ret → c.maxLocals = maxL → s.vm.findClass y.cls = some m.cls → (∀ w ∈ ws, w.before vs.toArray s = true) → meth.locks = false → va_P D vwCl w s.heap → va_K D vwCl tys s → va_S A s.heap s.heap [] → (∀ q : Nat, s.heap.size ≤ q → A q) → va_D A w → A = va_A w sz → lv_has ls maxL (lv_args 0 vs) → SX ad av A s s.heap →
      W p l e rm s m vs.toArray below meth c s.heap [] 0 0 (MQ below Qc vs.toArray s 0 0 A) (F0 m 0 ls [])) : Met l y ws rm (WPreS ad av vs sz D tys w) Qc 0 0 (va_A w sz) := by
  refine Met.ofW (cc := cc) (maxL := maxL) (ret := ret) hy hw ?_
  intro p e s m args below meth c s₁ B hml hv
  obtain ⟨rfl, hsz, hP, hK, hD, hX⟩ := hv
  have hl := lv_entry vs (n := maxL) hn
  rw [lg_entry_eq]
  exact body p e s m below meth c _ _ B.exec B.bytes B.returns hml (findClass_of_methodNamed B.named) (atoms_spec (ws := ws) B.pre) B.notSynchronized hP hK va_S.rf (fun q h => Or.inr (by rw [← hsz]; exact h)) hD.self rfl hl hX
section KS
variable {p : Program} {l : Launch} {e : Env} {R : Room} {s : State} {m : MethodId} {args : Array Value} {below : List Frame} {meth : Method} {c : Code} {H : Heap} {locs : List Loc} {cells slots : Nat} {Q : State → Prop} {cc : ByteArray} {pc : Nat} {ls : Array Slot} {rest st0 : List Value} {ρ : Type} {r : ρ}
variable {D : va_G} {tys : List (ClassId × FieldType)} {A0 : Nat → Prop} {ad av : Nat → Nat}
variable {y : MethodName} {bytes : ByteArray} {maxL nL n index : Nat} {ret : Option FieldType} {ws Ts : List Cond} {rm : Room} {own C : String} {b : Addr} {As : List Value}
/-- a method of an object of ours that reads, over the texts -/
theorem e_callV (S : CallFix p m c cc nL s args Ts own) {fc : Option Int32} {w wc : va_W} {K : Int32 → Option ρ} (hf : bo fc K = some r) (hM : ∀ v, fc = some v → Met l y ws rm (RPreS ad av (.ref b :: As) H.size D tys wc) (RQi H.size v) 0 0 (fr0 H.size)) (cw : CallW R s args own C index y bytes maxL ret ws rm 0 0 n) (hX : SX ad av A0 s s.heap) (hK : va_K D vwCl tys s) (hP : va_P D vwCl w H) (hS : va_S A0 s.heap H locs) (hA : ∀ q, s.heap.size ≤ q → A0 q) (hPc : va_P D vwCl wc H) (ci : Nat) {fs : List Value} {q : vw_C} (hc : vwCl[ci]? = some q) (hq : q.1 = C) (he : wc[0]? = some (b, .inr (ci, fs))) (hn : As.length = n) (hsize : ls.size = nL) (hst : st0 = As.reverse ++ .ref b :: rest) (hW : (rest.map fun v => v.category).sum ≤ 8) (hd : decode cc pc = .ok (.invokevirtual index, 3)) (hcs : cells ≤ R.cells ∧ slots ≤ R.slots)
    (kk : ∀ (v : Int32) (H1 : Heap) (locs1 : List Loc), va_P D vwCl w H1 → va_S A0 s.heap H1 locs1 → K v = some r → W p l e R s m args below meth c H1 locs1 cells slots Q (F0 m (pc + 3) ls (.int v :: rest))) : W p l e R s m args below meth c H locs cells slots Q (F0 m pc ls st0) := by
  obtain ⟨v, h1, h2⟩ := bo_e hf
  subst hst
  refine r_runI (va_runV S (hM v h1) cw ⟨RPreS.blind, by rw [← hq]; exact va_recv hK hPc hc he, fun U hU hW1 => ⟨rfl, by rw [hU], by rw [hU]; exact hPc, va_K.moved hW1.alike hK, by rw [hU]; exact SX.go hW1 hX hS.2.1 (fun q h => hA q (Nat.le_trans hS.1 h))⟩⟩ rfl hn hsize rfl (lv_room hW) hd hcs) hP hS hA (fun H1 locs1 g1 g2 => kk v H1 locs1 g1 g2 h2)
/-- a method of a text -/
theorem e_callJ (S : CallFix p m c cc nL s args Ts own) {i : Nat} (hi : i < 2) {v : Int32} {w : va_W} (hM : Met l y ws rm (RPreS ad av (.ref (ad i) :: As) H.size D tys []) (RQi H.size v) 0 0 (fr0 H.size)) (cw : CallW R s args own RJ0 index y bytes maxL ret ws rm 0 0 n) (hX : SX ad av A0 s s.heap) (hK : va_K D vwCl tys s) (hP : va_P D vwCl w H) (hS : va_S A0 s.heap H locs) (hA : ∀ q, s.heap.size ≤ q → A0 q) (hn : As.length = n) (hsize : ls.size = nL) (hst : st0 = As.reverse ++ .ref (ad i) :: rest) (hW : (rest.map fun v => v.category).sum ≤ 8) (hd : decode cc pc = .ok (.invokevirtual index, 3)) (hcs : cells ≤ R.cells ∧ slots ≤ R.slots)
    (kk : ∀ (H1 : Heap) (locs1 : List Loc), va_P D vwCl w H1 → va_S A0 s.heap H1 locs1 → W p l e R s m args below meth c H1 locs1 cells slots Q (F0 m (pc + 3) ls (.int v :: rest))) : W p l e R s m args below meth c H locs cells slots Q (F0 m pc ls st0) := by
  subst hst
  refine r_runI (va_runV S hM cw ⟨RPreS.blind, vk_recv hX.1 hi hS, fun U hU hW1 => ⟨rfl, by rw [hU], by rw [hU]; exact va_P_nil, va_K.moved hW1.alike hK, by rw [hU]; exact SX.go hW1 hX hS.2.1 (fun q h => hA q (Nat.le_trans hS.1 h))⟩⟩ rfl hn hsize rfl (lv_room hW) hd hcs) hP hS hA kk
/-- a static method over the texts -/
theorem e_callS (S : CallFix p m c cc nL s args Ts own) {v : Int32} {w : va_W} (hM : Met l y ws rm (RPreS ad av As H.size D tys []) (RQi H.size v) 0 0 (fr0 H.size)) (cw : CallB R s args own index y bytes maxL ret ws rm 0 0 n ∧ (Cond.static y).before args s = true) (hX : SX ad av A0 s s.heap) (hK : va_K D vwCl tys s) (hP : va_P D vwCl w H) (hS : va_S A0 s.heap H locs) (hA : ∀ q, s.heap.size ≤ q → A0 q) (hn : As.length = n) (hsize : ls.size = nL) (hst : st0 = As.reverse ++ rest) (hW : (rest.map fun v => v.category).sum ≤ 8) (hd : decode cc pc = .ok (.invokestatic index, 3)) (hcs : cells ≤ R.cells ∧ slots ≤ R.slots)
    (kk : ∀ (H1 : Heap) (locs1 : List Loc), va_P D vwCl w H1 → va_S A0 s.heap H1 locs1 → W p l e R s m args below meth c H1 locs1 cells slots Q (F0 m (pc + 3) ls (.int v :: rest))) : W p l e R s m args below meth c H locs cells slots Q (F0 m pc ls st0) := by
  subst hst
  refine r_runI (va_runS S hM cw ⟨RPreS.blind, fun U hU hW1 => ⟨rfl, by rw [hU], by rw [hU]; exact va_P_nil, va_K.moved hW1.alike hK, by rw [hU]; exact SX.go hW1 hX hS.2.1 (fun q h => hA q (Nat.le_trans hS.1 h))⟩⟩ rfl hn hsize rfl (lv_room hW) hd hcs) hP hS hA kk
/-- a method of an object of ours that writes, over the texts -/
theorem g_callV {S' T : Type} (S : CallFix p m c cc nL s args Ts own) {fc : Option (Int32 × T)} {w : S' → va_W} {wc : T → va_W} {put : T → S'} {σ : S'} {τ0 : T} {K : Int32 → S' → Option ρ} (hf : bx fc put K = some r) (hM : ∀ v τ, fc = some (v, τ) → Met l y ws rm (WPreS ad av (.ref b :: As) H.size D tys (wc τ0)) (WQi H.size D (wc τ0) (wc τ) v) 0 0 (va_A (wc τ0) H.size)) (cw : CallW R s args own C index y bytes maxL ret ws rm 0 0 n) (hX : SX ad av A0 s s.heap) (hK : va_K D vwCl tys s) (hP : va_P D vwCl (w σ) H) (hD : ∀ z, va_D A0 (w z)) (hS : va_S A0 s.heap H locs) (hA : ∀ q, s.heap.size ≤ q → A0 q) (h3 : va_P D vwCl (wc τ0) H ∧ va_D A0 (wc τ0) ∧ ∀ (z : T) (H1 : Heap), (∀ q : Nat, q < H.size → ¬ va_A (wc τ0) H.size q → H1[q]? = H[q]?) → va_P D vwCl (wc z) H1 → va_P D vwCl (w (put z)) H1) (ci : Nat) {fs : List Value} {q : vw_C} (hc : vwCl[ci]? = some q) (hq : q.1 = C) (he : (wc τ0)[0]? = some (b, .inr (ci, fs))) (hn : As.length = n) (hsize : ls.size = nL) (hst : st0 = As.reverse ++ .ref b :: rest) (hW : (rest.map fun v => v.category).sum ≤ 8) (hd : decode cc pc = .ok (.invokevirtual index, 3)) (hcs : cells ≤ R.cells ∧ slots ≤ R.slots)
    (kk : ∀ (v : Int32) (z : S') (H1 : Heap) (locs1 : List Loc), va_P D vwCl (w z) H1 → va_S A0 s.heap H1 locs1 → K v z = some r → W p l e R s m args below meth c H1 locs1 cells slots Q (F0 m (pc + 3) ls (.int v :: rest))) : W p l e R s m args below meth c H locs cells slots Q (F0 m pc ls st0) := by
  obtain ⟨v, τ, h1, h2⟩ := bx_e hf
  subst hst
  obtain ⟨hPc, hDc, hJ⟩ := h3
  have hFc : ∀ q, va_A (wc τ0) H.size q → A0 q := fun q h => h.elim (fun ⟨k, e2, g⟩ => hDc.2 k (q, e2) g) (fun g => hA q (Nat.le_trans hS.1 g))
  refine va_calli (va_runV S (hM v τ h1) cw ⟨WPreS.blind, by rw [← hq]; exact va_recv hK hPc hc he, fun U hU hW1 => ⟨rfl, by rw [hU], by rw [hU]; exact hPc, va_K.moved hW1.alike hK, hDc.weaken (fun _ _ _ _ => trivial), by rw [hU]; exact SX.go hW1 hX hS.2.1 hFc⟩⟩ rfl hn hsize rfl (lv_room hW) hd hcs) hS (fun q _ h => hFc q h) hFc (fun r' u t H1 locs1 ht hvm hp hB hz hk hS1 => ?_)
  subst hp
  rw [ht] at hB
  exact kk r' (put τ) H1 locs1 (hJ τ H1 hk hB) hS1 h2
theorem R_bret {sz : Nat} (hx : p.tables.exec = Jvm.exec) (hb : c.code = cc) (hr : meth.sig.returnType = some .byte) (hlk : meth.locks = false) (hS : va_S (fr0 s.heap.size) s.heap H locs) (hsz : s.heap.size = sz) {v : Int32} (hv : narrow .byte (.int v) = .int v) (hd : decode cc pc = .ok (.ireturn, 1)) : W p l e R s m args below meth c H locs 0 0 (MQ below (RQi sz v) args s 0 0 (fr0 sz)) (F0 m pc ls [.int v]) := by
  subst hsz
  exact W.zret (v := v) hx hb hr hv (fun t ht _ => ⟨⟨v, (), rfl, rfl, trivial⟩, hS.F ht⟩) hS.2.2 hd hlk
end KS
