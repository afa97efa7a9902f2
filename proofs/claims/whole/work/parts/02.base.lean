/-! states: cell, place -> int (long); the operations that a method's meaning is written with -/
abbrev St : Type := Nat → Nat → Int32
abbrev LSt : Type := Nat → Nat → Int64
def up2 (σ : St) (c i : Nat) (v : Int32) : St := fun d => cond (Nat.beq d c) (upd (σ c) i v) (σ d)
def up2L (τ : LSt) (c i : Nat) (v : Int64) : LSt := fun d => cond (Nat.beq d c) (vp_updL (τ c) i v) (τ d)
def rdI (σ : St) (c n : Nat) (i : Int32) : Option Int32 := if i < 0 ∨ n ≤ i.toNatClampNeg then none else some (σ c i.toNatClampNeg)
def rdL (τ : LSt) (c n : Nat) (i : Int32) : Option Int64 := if i < 0 ∨ n ≤ i.toNatClampNeg then none else some (τ c i.toNatClampNeg)
def wrI (σ : St) (c n : Nat) (i x : Int32) : Option St := if i < 0 ∨ n ≤ i.toNatClampNeg then none else some (up2 σ c i.toNatClampNeg x)
def wrL (τ : LSt) (c n : Nat) (i : Int32) (x : Int64) : Option LSt := if i < 0 ∨ n ≤ i.toNatClampNeg then none else some (up2L τ c i.toNatClampNeg x)
def lt_ {α β : Type} (x : α) (k : α → β) : β := k x
def bo {α β : Type} (x : Option α) (k : α → Option β) : Option β := x.bind k
def dvI (x y : Int32) : Option Int32 := if y = 0 then none else some (x / y)
def rmI (x y : Int32) : Option Int32 := if y = 0 then none else some (x - x / y * y)
def dvL (x y : Int64) : Option Int64 := if y = 0 then none else some (x / y)
def rmL (x y : Int64) : Option Int64 := if y = 0 then none else some (x - x / y * y)
def zr (v : Int32) : Option Int32 := if v = 0 ∨ v = 1 then some v else none
/-- a callee's state out of the caller's, by the places of its cells; and back -/
def sb {α : Type} (is : List Nat) (σ : Nat → α) : Nat → α := fun c => σ (is.getD c 0)
def pbG {α : Type} : List Nat → Nat → (Nat → α) → (Nat → α) → Nat → α
  | [], _, _, σ, c => σ c
  | x :: l, k, τ, σ, c => cond (Nat.beq c x) (τ k) (pbG l (k + 1) τ σ c)
def pb {α : Type} (is : List Nat) (τ σ : Nat → α) : Nat → α := fun c => pbG is 0 τ σ c
def bw {ρ : Type} (x : Option (Int32 × St)) (is : List Nat) (σ : St) (k : Int32 → St → Option ρ) : Option ρ := x.bind (fun y => k y.1 (pb is y.2 σ))
def bv {ρ : Type} (x : Option St) (is : List Nat) (σ : St) (k : St → Option ρ) : Option ρ := x.bind (fun y => k (pb is y σ))
theorem rdI_e {σ : St} {c n : Nat} {i v : Int32} (h : rdI σ c n i = some v) : vp_in i n ∧ σ c i.toNatClampNeg = v := by
  unfold rdI at h
  by_cases q : i < 0 ∨ n ≤ i.toNatClampNeg
  · rw [if_pos q] at h; cases h
  · rw [if_neg q] at h; exact ⟨q, Option.some.inj h⟩
theorem rdL_e {σ : LSt} {c n : Nat} {i : Int32} {v : Int64} (h : rdL σ c n i = some v) : vp_in i n ∧ σ c i.toNatClampNeg = v := by
  unfold rdL at h
  by_cases q : i < 0 ∨ n ≤ i.toNatClampNeg
  · rw [if_pos q] at h; cases h
  · rw [if_neg q] at h; exact ⟨q, Option.some.inj h⟩
theorem wrI_e {σ τ : St} {c n : Nat} {i x : Int32} (h : wrI σ c n i x = some τ) : vp_in i n ∧ up2 σ c i.toNatClampNeg x = τ := by
  unfold wrI at h
  by_cases q : i < 0 ∨ n ≤ i.toNatClampNeg
  · rw [if_pos q] at h; cases h
  · rw [if_neg q] at h; exact ⟨q, Option.some.inj h⟩
theorem wrL_e {σ τ : LSt} {c n : Nat} {i : Int32} {x : Int64} (h : wrL σ c n i x = some τ) : vp_in i n ∧ up2L σ c i.toNatClampNeg x = τ := by
  unfold wrL at h
  by_cases q : i < 0 ∨ n ≤ i.toNatClampNeg
  · rw [if_pos q] at h; cases h
  · rw [if_neg q] at h; exact ⟨q, Option.some.inj h⟩
theorem bo_e {α β : Type} {x : Option α} {k : α → Option β} {r : β} (h : bo x k = some r) : ∃ v, x = some v ∧ k v = some r := by
  cases x with
  | none => cases h
  | some v => exact ⟨v, rfl, h⟩
theorem bw_e {ρ : Type} {x : Option (Int32 × St)} {is : List Nat} {σ : St} {k : Int32 → St → Option ρ} {r : ρ} (h : bw x is σ k = some r) : ∃ v τ, x = some (v, τ) ∧ k v (pb is τ σ) = some r := by
  cases x with
  | none => cases h
  | some v => exact ⟨v.1, v.2, rfl, h⟩
theorem bv_e {ρ : Type} {x : Option St} {is : List Nat} {σ : St} {k : St → Option ρ} {r : ρ} (h : bv x is σ k = some r) : ∃ τ, x = some τ ∧ k (pb is τ σ) = some r := by
  cases x with
  | none => cases h
  | some v => exact ⟨v, rfl, h⟩
theorem zr_e {v w : Int32} (h : zr v = some w) : narrow .boolean (.int v) = .int v ∧ v = w := by
  unfold zr at h
  by_cases q : v = 0 ∨ v = 1
  · rw [if_pos q] at h
    refine ⟨?_, Option.some.inj h⟩
    rcases q with rfl | rfl <;> rfl
  · rw [if_neg q] at h; cases h
/-! contracts of methods that only read (R), and of methods that write in their world (W) -/
abbrev tyIJ (cI cJ : ClassId) : List (ClassId × FieldType) := [(cI, .int), (cJ, .long)]
def fr0 (sz : Nat) : Nat → Prop := fun q => sz ≤ q
def RPre (av : List Value) (sz : Nat) (D : va_G) (tys : List (ClassId × FieldType)) (w : va_W) : Array Value → State → Prop := va_Pc av (fun U => U.heap.size = sz ∧ va_P D vwCl w U.heap ∧ va_K D vwCl tys U)
def RQi (sz : Nat) (v : Int32) : Array Value → State → Outcome → State → Prop := va_Qi (fun r (_ : Unit) => r = v) (fun _ _ => True) (fr0 sz)
def RQl (sz : Nat) (v : Int64) : Array Value → State → Outcome → State → Prop := va_Ql (fun r (_ : Unit) => r = v) (fun _ _ => True) (fr0 sz)
def WPre (av : List Value) (sz : Nat) (D : va_G) (tys : List (ClassId × FieldType)) (w : va_W) : Array Value → State → Prop := va_Pc av (fun U => U.heap.size = sz ∧ va_P D vwCl w U.heap ∧ va_K D vwCl tys U ∧ va_D (fun _ => True) w)
def WQi (sz : Nat) (D : va_G) (w w' : va_W) (v : Int32) : Array Value → State → Outcome → State → Prop := va_Qi (fun r (_ : Unit) => r = v) (fun _ t => va_P D vwCl w' t.heap) (va_A w sz)
def WQl (sz : Nat) (D : va_G) (w w' : va_W) (v : Int64) : Array Value → State → Outcome → State → Prop := va_Ql (fun r (_ : Unit) => r = v) (fun _ t => va_P D vwCl w' t.heap) (va_A w sz)
def WQv (sz : Nat) (D : va_G) (w w' : va_W) : Array Value → State → Outcome → State → Prop := va_Qv (fun (_ : Unit) => True) (fun _ t => va_P D vwCl w' t.heap) (va_A w sz)
theorem RPre.blind {av : List Value} {sz : Nat} {D : va_G} {tys : List (ClassId × FieldType)} {w : va_W} : FrameBlind (RPre av sz D tys w) := fun a U g mk q => by
  obtain ⟨q0, q1, qP, qK⟩ := q
  exact ⟨q0, q1, qP, va_K.moved (u := U) (U := U.calling g mk a) (Vm.Alike.refl U.vm) qK⟩
theorem WPre.blind {av : List Value} {sz : Nat} {D : va_G} {tys : List (ClassId × FieldType)} {w : va_W} : FrameBlind (WPre av sz D tys w) := fun a U g mk q => by
  obtain ⟨q0, q1, qP, qK, qD⟩ := q
  exact ⟨q0, q1, qP, va_K.moved (u := U) (U := U.calling g mk a) (Vm.Alike.refl U.vm) qK, qD⟩
theorem R_start {l : Launch} {y : MethodName} {ws ws' : List Cond} {rm : Room} {av : List Value} {sz : Nat} {D : va_G} {tys : List (ClassId × FieldType)} {w : va_W} {Qc : Array Value → State → Outcome → State → Prop} {cc : ByteArray} {maxL : Nat} {ret : Option FieldType}
    (hy : plainName y.cls = true) (hw : ws = Cond.code y cc maxL ret :: ws') (hn : (lg_sl av).length ≤ maxL)
    (body : ∀ (p : Program) (e : Env) (s : State) (m : MethodId) (below : List Frame) (meth : Method) (c : Code) (ls : Array Slot), p.tables.exec = Jvm.exec → c.code = cc → meth.sig.returnType = ret → c.maxLocals = maxL → s.vm.findClass y.cls = some m.cls → (∀ w ∈ ws, w.before av.toArray s = true) → meth.locks = false → va_P D vwCl w s.heap → va_K D vwCl tys s → va_S (fr0 s.heap.size) s.heap s.heap [] → (∀ q : Nat, s.heap.size ≤ q → fr0 s.heap.size q) → s.heap.size = sz → lv_has ls maxL (lv_args 0 av) →
      W p l e rm s m av.toArray below meth c s.heap [] 0 0 (MQ below Qc av.toArray s 0 0 (fr0 sz)) (F0 m 0 ls [])) : Met l y ws rm (RPre av sz D tys w) Qc 0 0 (fr0 sz) := by
  refine Met.ofW (cc := cc) (maxL := maxL) (ret := ret) hy hw ?_
  intro p e s m args below meth c s₁ B hml hv
  obtain ⟨rfl, hsz, hP, hK⟩ := hv
  have hl := lv_entry av (n := maxL) hn
  rw [lg_entry_eq]
  exact body p e s m below meth c _ B.exec B.bytes B.returns hml (findClass_of_methodNamed B.named) (atoms_spec (ws := ws) B.pre) B.notSynchronized hP hK va_S.rf (fun _ h => h) hsz hl
theorem W_start {l : Launch} {y : MethodName} {ws ws' : List Cond} {rm : Room} {av : List Value} {sz : Nat} {D : va_G} {tys : List (ClassId × FieldType)} {w : va_W} {Qc : Array Value → State → Outcome → State → Prop} {cc : ByteArray} {maxL : Nat} {ret : Option FieldType}
    (hy : plainName y.cls = true) (hw : ws = Cond.code y cc maxL ret :: ws') (hn : (lg_sl av).length ≤ maxL)
    (body : ∀ (p : Program) (e : Env) (s : State) (m : MethodId) (below : List Frame) (meth : Method) (c : Code) (ls : Array Slot) (A : Nat → Prop), p.tables.exec = Jvm.exec → c.code = cc → meth.sig.returnType = ret → c.maxLocals = maxL → s.vm.findClass y.cls = some m.cls → (∀ w ∈ ws, w.before av.toArray s = true) → meth.locks = false → va_P D vwCl w s.heap → va_K D vwCl tys s → va_S A s.heap s.heap [] → (∀ q : Nat, s.heap.size ≤ q → A q) → va_D A w → A = va_A w sz → lv_has ls maxL (lv_args 0 av) →
      W p l e rm s m av.toArray below meth c s.heap [] 0 0 (MQ below Qc av.toArray s 0 0 A) (F0 m 0 ls [])) : Met l y ws rm (WPre av sz D tys w) Qc 0 0 (va_A w sz) := by
  refine Met.ofW (cc := cc) (maxL := maxL) (ret := ret) hy hw ?_
  intro p e s m args below meth c s₁ B hml hv
  obtain ⟨rfl, hsz, hP, hK, hD⟩ := hv
  have hl := lv_entry av (n := maxL) hn
  rw [lg_entry_eq]
  exact body p e s m below meth c _ _ B.exec B.bytes B.returns hml (findClass_of_methodNamed B.named) (atoms_spec (ws := ws) B.pre) B.notSynchronized hP hK va_S.rf (fun q h => Or.inr (by rw [← hsz]; exact h)) hD.self rfl hl
/-- the addresses alone decide va_D -/
theorem va_D.ad {A : Nat → Prop} {w w' : va_W} (h : va_D A w) (e : w'.map (fun q => q.1) = w.map (fun q => q.1)) : va_D A w' := by
  have at' : ∀ (k : Nat) (q : Nat × va_E), w'[k]? = some q → ∃ q', w[k]? = some q' ∧ q'.1 = q.1 := by
    intro k q hq
    have h1 : (w'.map (fun q => q.1))[k]? = some q.1 := by rw [List.getElem?_map, hq]; rfl
    rw [e, List.getElem?_map] at h1
    cases hk : w[k]? with
    | none => rw [hk] at h1; cases h1
    | some q' => rw [hk] at h1; exact ⟨q', rfl, Option.some.inj h1⟩
  refine ⟨fun i j p q hi hj hpq => ?_, fun k q hk => ?_⟩
  · obtain ⟨p', h1, h2⟩ := at' i p hi
    obtain ⟨q', h3, h4⟩ := at' j q hj
    exact h.1 i j p' q' h1 h3 (by rw [h2, h4, hpq])
  · obtain ⟨q', h1, h2⟩ := at' k q hk
    rw [← h2]
    exact h.2 k q' h1
section KB
variable {p : Program} {l : Launch} {e : Env} {R : Room} {s : State} {m : MethodId} {args : Array Value} {below : List Frame} {meth : Method} {c : Code} {H : Heap} {locs : List Loc} {cells slots : Nat} {Q : State → Prop} {cc : ByteArray} {pc : Nat} {ls : Array Slot} {rest : List Value} {ρ : Type} {r : ρ} {O P' : Option ρ}
/-! branches -/
theorem k_if_eq (hx : p.tables.exec = Jvm.exec) (hb : c.code = cc) {x : Int32} {off : Int} {tgt : Nat} (hd : decode cc pc = .ok (.ifCond .eq off, 3)) (ht : (pc : Int) + off = (tgt : Int)) (hf : (if x = 0 then O else P') = some r) (kt : O = some r → W p l e R s m args below meth c H locs cells slots Q (F0 m tgt ls rest)) (kf : P' = some r → W p l e R s m args below meth c H locs cells slots Q (F0 m (pc + 3) ls rest)) : W p l e R s m args below meth c H locs cells slots Q (F0 m pc ls (.int x :: rest)) :=
  lv_if_eq hx hb hd ht (fun q => kt ((if_pos q).symm.trans hf)) (fun q => kf ((if_neg q).symm.trans hf))
theorem k_if_ne (hx : p.tables.exec = Jvm.exec) (hb : c.code = cc) {x : Int32} {off : Int} {tgt : Nat} (hd : decode cc pc = .ok (.ifCond .ne off, 3)) (ht : (pc : Int) + off = (tgt : Int)) (hf : (if x = 0 then P' else O) = some r) (kt : O = some r → W p l e R s m args below meth c H locs cells slots Q (F0 m tgt ls rest)) (kf : P' = some r → W p l e R s m args below meth c H locs cells slots Q (F0 m (pc + 3) ls rest)) : W p l e R s m args below meth c H locs cells slots Q (F0 m pc ls (.int x :: rest)) :=
  lv_if_ne hx hb hd ht (fun q => kt ((if_neg q).symm.trans hf)) (fun q => kf ((if_pos q).symm.trans hf))
theorem k_if_lt (hx : p.tables.exec = Jvm.exec) (hb : c.code = cc) {x : Int32} {off : Int} {tgt : Nat} (hd : decode cc pc = .ok (.ifCond .lt off, 3)) (ht : (pc : Int) + off = (tgt : Int)) (hf : (if x < 0 then O else P') = some r) (kt : O = some r → W p l e R s m args below meth c H locs cells slots Q (F0 m tgt ls rest)) (kf : P' = some r → W p l e R s m args below meth c H locs cells slots Q (F0 m (pc + 3) ls rest)) : W p l e R s m args below meth c H locs cells slots Q (F0 m pc ls (.int x :: rest)) :=
  lv_if_lt hx hb hd ht (fun q => kt ((if_pos q).symm.trans hf)) (fun q => kf ((if_neg q).symm.trans hf))
theorem k_if_ge (hx : p.tables.exec = Jvm.exec) (hb : c.code = cc) {x : Int32} {off : Int} {tgt : Nat} (hd : decode cc pc = .ok (.ifCond .ge off, 3)) (ht : (pc : Int) + off = (tgt : Int)) (hf : (if 0 ≤ x then O else P') = some r) (kt : O = some r → W p l e R s m args below meth c H locs cells slots Q (F0 m tgt ls rest)) (kf : P' = some r → W p l e R s m args below meth c H locs cells slots Q (F0 m (pc + 3) ls rest)) : W p l e R s m args below meth c H locs cells slots Q (F0 m pc ls (.int x :: rest)) :=
  lv_if_ge hx hb hd ht (fun q => kt ((if_pos q).symm.trans hf)) (fun q => kf ((if_neg q).symm.trans hf))
theorem k_if_gt (hx : p.tables.exec = Jvm.exec) (hb : c.code = cc) {x : Int32} {off : Int} {tgt : Nat} (hd : decode cc pc = .ok (.ifCond .gt off, 3)) (ht : (pc : Int) + off = (tgt : Int)) (hf : (if 0 < x then O else P') = some r) (kt : O = some r → W p l e R s m args below meth c H locs cells slots Q (F0 m tgt ls rest)) (kf : P' = some r → W p l e R s m args below meth c H locs cells slots Q (F0 m (pc + 3) ls rest)) : W p l e R s m args below meth c H locs cells slots Q (F0 m pc ls (.int x :: rest)) :=
  lv_if_gt hx hb hd ht (fun q => kt ((if_pos q).symm.trans hf)) (fun q => kf ((if_neg q).symm.trans hf))
theorem k_if_le (hx : p.tables.exec = Jvm.exec) (hb : c.code = cc) {x : Int32} {off : Int} {tgt : Nat} (hd : decode cc pc = .ok (.ifCond .le off, 3)) (ht : (pc : Int) + off = (tgt : Int)) (hf : (if x ≤ 0 then O else P') = some r) (kt : O = some r → W p l e R s m args below meth c H locs cells slots Q (F0 m tgt ls rest)) (kf : P' = some r → W p l e R s m args below meth c H locs cells slots Q (F0 m (pc + 3) ls rest)) : W p l e R s m args below meth c H locs cells slots Q (F0 m pc ls (.int x :: rest)) :=
  lv_if_le hx hb hd ht (fun q => kt ((if_pos q).symm.trans hf)) (fun q => kf ((if_neg q).symm.trans hf))
theorem k_icmp_eq (hx : p.tables.exec = Jvm.exec) (hb : c.code = cc) {x y : Int32} {off : Int} {tgt : Nat} (hd : decode cc pc = .ok (.if_icmp .eq off, 3)) (ht : (pc : Int) + off = (tgt : Int)) (hf : (if x = y then O else P') = some r) (kt : O = some r → W p l e R s m args below meth c H locs cells slots Q (F0 m tgt ls rest)) (kf : P' = some r → W p l e R s m args below meth c H locs cells slots Q (F0 m (pc + 3) ls rest)) : W p l e R s m args below meth c H locs cells slots Q (F0 m pc ls (.int y :: .int x :: rest)) :=
  lv_icmp_eq hx hb hd ht (fun q => kt ((if_pos q).symm.trans hf)) (fun q => kf ((if_neg q).symm.trans hf))
theorem k_icmp_ne (hx : p.tables.exec = Jvm.exec) (hb : c.code = cc) {x y : Int32} {off : Int} {tgt : Nat} (hd : decode cc pc = .ok (.if_icmp .ne off, 3)) (ht : (pc : Int) + off = (tgt : Int)) (hf : (if x = y then P' else O) = some r) (kt : O = some r → W p l e R s m args below meth c H locs cells slots Q (F0 m tgt ls rest)) (kf : P' = some r → W p l e R s m args below meth c H locs cells slots Q (F0 m (pc + 3) ls rest)) : W p l e R s m args below meth c H locs cells slots Q (F0 m pc ls (.int y :: .int x :: rest)) :=
  lv_icmp_ne hx hb hd ht (fun q => kt ((if_neg q).symm.trans hf)) (fun q => kf ((if_pos q).symm.trans hf))
theorem k_icmp_lt (hx : p.tables.exec = Jvm.exec) (hb : c.code = cc) {x y : Int32} {off : Int} {tgt : Nat} (hd : decode cc pc = .ok (.if_icmp .lt off, 3)) (ht : (pc : Int) + off = (tgt : Int)) (hf : (if x < y then O else P') = some r) (kt : O = some r → W p l e R s m args below meth c H locs cells slots Q (F0 m tgt ls rest)) (kf : P' = some r → W p l e R s m args below meth c H locs cells slots Q (F0 m (pc + 3) ls rest)) : W p l e R s m args below meth c H locs cells slots Q (F0 m pc ls (.int y :: .int x :: rest)) :=
  lv_icmp_lt hx hb hd ht (fun q => kt ((if_pos q).symm.trans hf)) (fun q => kf ((if_neg q).symm.trans hf))
theorem k_icmp_ge (hx : p.tables.exec = Jvm.exec) (hb : c.code = cc) {x y : Int32} {off : Int} {tgt : Nat} (hd : decode cc pc = .ok (.if_icmp .ge off, 3)) (ht : (pc : Int) + off = (tgt : Int)) (hf : (if y ≤ x then O else P') = some r) (kt : O = some r → W p l e R s m args below meth c H locs cells slots Q (F0 m tgt ls rest)) (kf : P' = some r → W p l e R s m args below meth c H locs cells slots Q (F0 m (pc + 3) ls rest)) : W p l e R s m args below meth c H locs cells slots Q (F0 m pc ls (.int y :: .int x :: rest)) :=
  lv_icmp_ge hx hb hd ht (fun q => kt ((if_pos q).symm.trans hf)) (fun q => kf ((if_neg q).symm.trans hf))
theorem k_icmp_gt (hx : p.tables.exec = Jvm.exec) (hb : c.code = cc) {x y : Int32} {off : Int} {tgt : Nat} (hd : decode cc pc = .ok (.if_icmp .gt off, 3)) (ht : (pc : Int) + off = (tgt : Int)) (hf : (if y < x then O else P') = some r) (kt : O = some r → W p l e R s m args below meth c H locs cells slots Q (F0 m tgt ls rest)) (kf : P' = some r → W p l e R s m args below meth c H locs cells slots Q (F0 m (pc + 3) ls rest)) : W p l e R s m args below meth c H locs cells slots Q (F0 m pc ls (.int y :: .int x :: rest)) :=
  lv_icmp_gt hx hb hd ht (fun q => kt ((if_pos q).symm.trans hf)) (fun q => kf ((if_neg q).symm.trans hf))
theorem k_icmp_le (hx : p.tables.exec = Jvm.exec) (hb : c.code = cc) {x y : Int32} {off : Int} {tgt : Nat} (hd : decode cc pc = .ok (.if_icmp .le off, 3)) (ht : (pc : Int) + off = (tgt : Int)) (hf : (if x ≤ y then O else P') = some r) (kt : O = some r → W p l e R s m args below meth c H locs cells slots Q (F0 m tgt ls rest)) (kf : P' = some r → W p l e R s m args below meth c H locs cells slots Q (F0 m (pc + 3) ls rest)) : W p l e R s m args below meth c H locs cells slots Q (F0 m pc ls (.int y :: .int x :: rest)) :=
  lv_icmp_le hx hb hd ht (fun q => kt ((if_pos q).symm.trans hf)) (fun q => kf ((if_neg q).symm.trans hf))
/-! division by what may be 0 -/
theorem k_idiv (hx : p.tables.exec = Jvm.exec) (hb : c.code = cc) {x y : Int32} {K : Int32 → Option ρ} (hd : decode cc pc = .ok (.idiv, 1)) (hf : bo (dvI x y) K = some r) (k : ∀ v, K v = some r → W p l e R s m args below meth c H locs cells slots Q (F0 m (pc + 1) ls (.int v :: rest))) : W p l e R s m args below meth c H locs cells slots Q (F0 m pc ls (.int y :: .int x :: rest)) := by
  obtain ⟨v, h1, h2⟩ := bo_e hf
  unfold dvI at h1
  by_cases q : y = 0
  · rw [if_pos q] at h1; cases h1
  · rw [if_neg q] at h1
    exact lv_idiv hx hb hd q (by rw [Option.some.inj h1]; exact k v h2)
theorem k_irem (hx : p.tables.exec = Jvm.exec) (hb : c.code = cc) {x y : Int32} {K : Int32 → Option ρ} (hd : decode cc pc = .ok (.irem, 1)) (hf : bo (rmI x y) K = some r) (k : ∀ v, K v = some r → W p l e R s m args below meth c H locs cells slots Q (F0 m (pc + 1) ls (.int v :: rest))) : W p l e R s m args below meth c H locs cells slots Q (F0 m pc ls (.int y :: .int x :: rest)) := by
  obtain ⟨v, h1, h2⟩ := bo_e hf
  unfold rmI at h1
  by_cases q : y = 0
  · rw [if_pos q] at h1; cases h1
  · rw [if_neg q] at h1
    exact lv_irem hx hb hd q (by rw [Option.some.inj h1]; exact k v h2)
theorem k_ldiv (hx : p.tables.exec = Jvm.exec) (hb : c.code = cc) {x y : Int64} {K : Int64 → Option ρ} (hd : decode cc pc = .ok (.ldiv, 1)) (hf : bo (dvL x y) K = some r) (k : ∀ v, K v = some r → W p l e R s m args below meth c H locs cells slots Q (F0 m (pc + 1) ls (.long v :: rest))) : W p l e R s m args below meth c H locs cells slots Q (F0 m pc ls (.long y :: .long x :: rest)) := by
  obtain ⟨v, h1, h2⟩ := bo_e hf
  unfold dvL at h1
  by_cases q : y = 0
  · rw [if_pos q] at h1; cases h1
  · rw [if_neg q] at h1
    exact lv_ldiv hx hb hd q (by rw [Option.some.inj h1]; exact k v h2)
theorem k_lrem (hx : p.tables.exec = Jvm.exec) (hb : c.code = cc) {x y : Int64} {K : Int64 → Option ρ} (hd : decode cc pc = .ok (.lrem, 1)) (hf : bo (rmL x y) K = some r) (k : ∀ v, K v = some r → W p l e R s m args below meth c H locs cells slots Q (F0 m (pc + 1) ls (.long v :: rest))) : W p l e R s m args below meth c H locs cells slots Q (F0 m pc ls (.long y :: .long x :: rest)) := by
  obtain ⟨v, h1, h2⟩ := bo_e hf
  unfold rmL at h1
  by_cases q : y = 0
  · rw [if_pos q] at h1; cases h1
  · rw [if_neg q] at h1
    exact lv_lrem hx hb hd q (by rw [Option.some.inj h1]; exact k v h2)
/-! a computed number gets a name -/
theorem k_let {x : Int32} {K : Int32 → Option ρ} (hf : lt_ x K = some r) (k : ∀ v, K v = some r → W p l e R s m args below meth c H locs cells slots Q (F0 m pc ls (.int v :: rest))) : W p l e R s m args below meth c H locs cells slots Q (F0 m pc ls (.int x :: rest)) := k x hf
theorem k_letL {x : Int64} {K : Int64 → Option ρ} (hf : lt_ x K = some r) (k : ∀ v, K v = some r → W p l e R s m args below meth c H locs cells slots Q (F0 m pc ls (.long v :: rest))) : W p l e R s m args below meth c H locs cells slots Q (F0 m pc ls (.long x :: rest)) := k x hf
theorem k_iinc (hx : p.tables.exec = Jvm.exec) (hb : c.code = cc) {i nL k : Nat} {n : Int} {x d : Int32} {lv : List (Nat × Value)} {lv' : Int32 → List (Nat × Value)} {K : Int32 → Option ρ} (hd : decode cc pc = .ok (.iinc i n, 3)) (h : lv_has ls nL lv) (hk : lv[k]? = some (i, .int x)) (hv : Int32.ofInt n = d) (hn : i < nL) (hl : ∀ v, (i, Value.int v) :: lv.filter (fun q => !(q.1 == i) && !(q.1 + 1 == i && q.2.category == 2)) = lv' v) (hf : lt_ (x + d) K = some r)
    (kk : ∀ (v : Int32) (ls' : Array Slot), lv_has ls' nL (lv' v) → K v = some r → W p l e R s m args below meth c H locs cells slots Q (F0 m (pc + 3) ls' rest)) : W p l e R s m args below meth c H locs cells slots Q (F0 m pc ls rest) :=
  lv_iinc (v := x + d) (lv' := lv' (x + d)) hx hb hd h hk (by rw [hv]) hn (hl _) (fun ls' h' => kk (x + d) ls' h' hf)
end KB
