def minI (x y : Int32) : Int32 := if y < x then y else x
def maxI (x y : Int32) : Int32 := if x < y then y else x
def absI (x : Int32) : Int32 := if 0 ≤ x then x else 0 - x
theorem i32_ne {x k : Int32} {n : Int} (h : ¬ x = k) (hk : k.toInt = n) : x.toInt ≠ n := fun q => h (Int32.toInt_inj.mp (by rw [q, hk]))
theorem sw_if {ρ : Type} {r : ρ} {c G : Prop} {hc : Decidable c} {O P' : Option ρ} (hf : (if c then O else P') = some r) (kt : c → O = some r → G) (kf : ¬ c → P' = some r → G) : G := by
  by_cases q : c
  · exact kt q ((if_pos q).symm.trans hf)
  · exact kf q ((if_neg q).symm.trans hf)
section KE
variable {p : Program} {l : Launch} {e : Env} {R : Room} {s : State} {m : MethodId} {args : Array Value} {below : List Frame} {meth : Method} {c : Code} {H : Heap} {locs : List Loc} {cells slots : Nat} {Q : State → Prop} {cc : ByteArray} {pc : Nat} {ls : Array Slot} {rest : List Value} {ρ : Type} {r : ρ} {O P' : Option ρ}
theorem k_mmin (hx : p.tables.exec = Jvm.exec) (hb : c.code = cc) (hml : c.maxLocals = ls.size) {own : String} {index : Nat} (hown : s.vm.findClass own = some m.cls) (hlink : (Cond.methodLink own index Lib.Math.min.name).before args s = true) (hstat : (Cond.static Lib.Math.min.name).before args s = true) (hini : (Cond.initialized "java/lang/Math").before args s = true) (hcode : (Cond.code Lib.Math.min.name Lib.Math.min.code 2 (some .int)).before args s = true)
    (h1 : 1 ≤ R.frames) (h2 : (rest.map fun v => v.category).sum + 13 ≤ R.locals) (hc : cells ≤ R.cells) (hs : slots ≤ R.slots) {x y : Int32} {K : Int32 → Option ρ} (hd : decode cc pc = .ok (.invokestatic index, 3)) (hf : lt_ (minI x y) K = some r)
    (kk : ∀ v, K v = some r → W p l e R s m args below meth c H locs cells slots Q (F0 m (pc + 3) ls (.int v :: rest))) : W p l e R s m args below meth c H locs cells slots Q (F0 m pc ls (.int y :: .int x :: rest)) :=
  va_mmin hx hb hml hown hlink hstat hini hcode h1 h2 hc hs hd (kk (minI x y) hf)
theorem k_mmax (hx : p.tables.exec = Jvm.exec) (hb : c.code = cc) (hml : c.maxLocals = ls.size) {own : String} {index : Nat} (hown : s.vm.findClass own = some m.cls) (hlink : (Cond.methodLink own index Lib.Math.max.name).before args s = true) (hstat : (Cond.static Lib.Math.max.name).before args s = true) (hini : (Cond.initialized "java/lang/Math").before args s = true) (hcode : (Cond.code Lib.Math.max.name Lib.Math.max.code 2 (some .int)).before args s = true)
    (h1 : 1 ≤ R.frames) (h2 : (rest.map fun v => v.category).sum + 13 ≤ R.locals) (hc : cells ≤ R.cells) (hs : slots ≤ R.slots) {x y : Int32} {K : Int32 → Option ρ} (hd : decode cc pc = .ok (.invokestatic index, 3)) (hf : lt_ (maxI x y) K = some r)
    (kk : ∀ v, K v = some r → W p l e R s m args below meth c H locs cells slots Q (F0 m (pc + 3) ls (.int v :: rest))) : W p l e R s m args below meth c H locs cells slots Q (F0 m pc ls (.int y :: .int x :: rest)) :=
  va_mmax hx hb hml hown hlink hstat hini hcode h1 h2 hc hs hd (kk (maxI x y) hf)
theorem k_mabs (hx : p.tables.exec = Jvm.exec) (hb : c.code = cc) (hml : c.maxLocals = ls.size) {own : String} {index : Nat} (hown : s.vm.findClass own = some m.cls) (hlink : (Cond.methodLink own index Lib.Math.abs.name).before args s = true) (hstat : (Cond.static Lib.Math.abs.name).before args s = true) (hini : (Cond.initialized "java/lang/Math").before args s = true) (hcode : (Cond.code Lib.Math.abs.name Lib.Math.abs.code 1 (some .int)).before args s = true)
    (h1 : 1 ≤ R.frames) (h2 : (rest.map fun v => v.category).sum + 13 ≤ R.locals) (hc : cells ≤ R.cells) (hs : slots ≤ R.slots) {x : Int32} {K : Int32 → Option ρ} (hd : decode cc pc = .ok (.invokestatic index, 3)) (hf : lt_ (absI x) K = some r)
    (kk : ∀ v, K v = some r → W p l e R s m args below meth c H locs cells slots Q (F0 m (pc + 3) ls (.int v :: rest))) : W p l e R s m args below meth c H locs cells slots Q (F0 m pc ls (.int x :: rest)) :=
  va_mabs hx hb hml hown hlink hstat hini hcode h1 h2 hc hs hd (kk (absI x) hf)
theorem lg_cmp0 (x y : Int64) : lg_cmp x y = 0 ↔ x = y := by
  unfold lg_cmp
  by_cases h1 : y < x
  · simp only [h1, if_true]
    constructor
    · intro h; exact absurd h (by decide)
    · rintro rfl; exact absurd h1 (Int64.lt_irrefl)
  · by_cases h2 : x = y
    · simp [h2]
    · simp only [h1, h2, if_false, iff_false]
      decide
theorem k_lcmp_ne (hx : p.tables.exec = Jvm.exec) (hb : c.code = cc) {x y : Int64} {off : Int} {tgt : Nat} (hd1 : decode cc pc = .ok (.lcmp, 1)) (hd : decode cc (pc + 1) = .ok (.ifCond .ne off, 3)) (ht : ((pc + 1 : Nat) : Int) + off = (tgt : Int)) (hf : (if x = y then P' else O) = some r) (kt : O = some r → W p l e R s m args below meth c H locs cells slots Q (F0 m tgt ls rest)) (kf : P' = some r → W p l e R s m args below meth c H locs cells slots Q (F0 m (pc + 1 + 3) ls rest)) : W p l e R s m args below meth c H locs cells slots Q (F0 m pc ls (.long y :: .long x :: rest)) :=
  W.lcmp hx hb hd1 (lv_if_ne hx hb hd ht (fun q => kt ((if_neg (fun z => q ((lg_cmp0 x y).mpr z))).symm.trans hf)) (fun q => kf ((if_pos ((lg_cmp0 x y).mp q)).symm.trans hf)))
theorem k_lcmp_eq (hx : p.tables.exec = Jvm.exec) (hb : c.code = cc) {x y : Int64} {off : Int} {tgt : Nat} (hd1 : decode cc pc = .ok (.lcmp, 1)) (hd : decode cc (pc + 1) = .ok (.ifCond .eq off, 3)) (ht : ((pc + 1 : Nat) : Int) + off = (tgt : Int)) (hf : (if x = y then O else P') = some r) (kt : O = some r → W p l e R s m args below meth c H locs cells slots Q (F0 m tgt ls rest)) (kf : P' = some r → W p l e R s m args below meth c H locs cells slots Q (F0 m (pc + 1 + 3) ls rest)) : W p l e R s m args below meth c H locs cells slots Q (F0 m pc ls (.long y :: .long x :: rest)) :=
  W.lcmp hx hb hd1 (lv_if_eq hx hb hd ht (fun q => kt ((if_pos ((lg_cmp0 x y).mp q)).symm.trans hf)) (fun q => kf ((if_neg (fun z => q ((lg_cmp0 x y).mpr z))).symm.trans hf)))
/-- a switch by a table, at a number that goes the default's way from inside it or outside -/
theorem sw_tab (hx : p.tables.exec = Jvm.exec) (hb : c.code = cc) {dflt lo hi off : Int} {offs : Array Int} {len : Nat} {x : Int32} {tgt : Nat} (hd : decode cc pc = .ok (.tableswitch dflt lo hi offs, len)) (ho : dflt = off) {P : Int → Prop} (hin : ∀ j : Nat, j < (hi - lo + 1).toNat → P (lo + j) → offs[j]? = some off) (hP : P x.toInt) (ht : (pc : Int) + off = (tgt : Int))
    (k : W p l e R s m args below meth c H locs cells slots Q (F0 m tgt ls rest)) : W p l e R s m args below meth c H locs cells slots Q (F0 m pc ls (.int x :: rest)) := by
  by_cases q : x.toInt < lo ∨ hi < x.toInt
  · exact lv_tableOut hx hb hd q (by rw [ho]; exact ht) k
  · have q1 : ¬ x.toInt < lo := fun z => q (Or.inl z)
    have q2 : ¬ hi < x.toInt := fun z => q (Or.inr z)
    refine lv_tableIn (off := off) hx hb hd q1 q2 (hin _ ?_ ?_) ht k
    · omega
    · rw [show lo + ((x.toInt - lo).toNat : Int) = x.toInt from by omega]; exact hP
end KE
/-- some cells of a world replaced -/
def rep : va_W → List Nat → va_W → va_W
  | w, i :: is, q :: qs => rep (w.set i q) is qs
  | w, _, _ => w
theorem va_rep {D : va_G} {H1 : Heap} : ∀ (is : List Nat) (w wc : va_W), wc.length = is.length → (∀ (k : Nat) (q : Nat × va_E), w[k]? = some q → k ∉ is → va_at D vwCl q H1) → va_P D vwCl wc H1 → va_P D vwCl (rep w is wc) H1 := by
  intro is
  induction is with
  | nil =>
    intro w wc hl h1 h2 k q hq
    cases wc with
    | nil => exact h1 k q hq List.not_mem_nil
    | cons x xs => cases hl
  | cons i is ih =>
    intro w wc hl h1 h2
    cases wc with
    | nil => cases hl
    | cons x xs =>
      refine ih (w.set i x) xs (Nat.succ.inj hl) (fun k q hq hk => ?_) (fun k q hq => h2 (k + 1) q hq)
      by_cases e : i = k
      · subst e
        rw [List.getElem?_set] at hq
        by_cases g : i < w.length
        · simp [g] at hq
          rw [← hq]
          exact h2 0 x rfl
        · simp [g] at hq
      · rw [List.getElem?_set_ne e] at hq
        exact h1 k q hq (fun z => (List.mem_cons.mp z).elim (fun y => e y.symm) hk)
section KF
variable {p : Program} {l : Launch} {e : Env} {R : Room} {s : State} {m : MethodId} {args : Array Value} {below : List Frame} {meth : Method} {c : Code} {H : Heap} {locs : List Loc} {cells slots : Nat} {Q : State → Prop} {cc : ByteArray} {pc : Nat} {ls : Array Slot} {rest st0 : List Value} {ρ : Type} {r : ρ}
variable {D : va_G} {tys : List (ClassId × FieldType)} {A0 : Nat → Prop} {H0 : Heap}
variable {y : MethodName} {bytes : ByteArray} {maxL nL n index : Nat} {ret : Option FieldType} {ws Ts : List Cond} {rm : Room} {own C : String} {b : Addr} {As : List Value}
theorem x_join {w w' wc wc' : va_W} {H1 : Heap} (hP : va_P D vwCl w H) (hD : va_D A0 w) (is : List Nat) (hC : is.map (fun i => w[i]?) = wc.map some) (hrep : w' = rep w is wc') (hlc : wc'.length = is.length) (hk : ∀ q : Nat, q < H.size → ¬ va_A wc H.size q → H1[q]? = H[q]?) (hP1 : va_P D vwCl wc' H1) : va_P D vwCl w' H1 := by
  rw [hrep]
  refine va_rep is w wc' hlc (fun k q h2 hkn => ?_) hP1
  have hl := (hP k q h2).lt
  refine (hP k q h2).kept (hk q.1 hl ?_)
  rintro (⟨k2, e2, h3⟩ | h3)
  · have h4 : (is.map (fun i => w[i]?))[k2]? = some (some (q.1, e2)) := by rw [hC, List.getElem?_map, h3]; rfl
    rw [List.getElem?_map] at h4
    cases hi : is[k2]? with
    | none => rw [hi] at h4; cases h4
    | some i =>
      rw [hi] at h4
      have h5 : w[i]? = some (q.1, e2) := Option.some.inj h4
      have h6 := hD.1 k i q (q.1, e2) h2 h5 rfl
      subst h6
      exact hkn (List.mem_of_getElem? hi)
  · exact absurd h3 (Nat.not_le.mpr hl)
end KF
section KG
variable {p : Program} {l : Launch} {e : Env} {R : Room} {s : State} {m : MethodId} {args : Array Value} {below : List Frame} {meth : Method} {c : Code} {H : Heap} {locs : List Loc} {cells slots : Nat} {Q : State → Prop} {cc : ByteArray} {pc : Nat} {ls : Array Slot} {rest st0 : List Value} {ρ : Type} {r : ρ}
variable {D : va_G} {tys : List (ClassId × FieldType)} {A0 : Nat → Prop} {H0 : Heap}
variable {y : MethodName} {bytes : ByteArray} {maxL nL n index : Nat} {ret : Option FieldType} {ws Ts : List Cond} {rm : Room} {own C : String} {b : Addr} {As : List Value}
theorem c_callV (S : CallFix p m c cc nL s args Ts own) {fc : Option Int32} {w wc : va_W} {K : Int32 → Option ρ} (hf : bo fc K = some r) (hM : ∀ v, fc = some v → Met l y ws rm (RPre (.ref b :: As) H.size D tys wc) (RQi H.size v) 0 0 (fr0 H.size)) (cw : CallW R s args own C index y bytes maxL ret ws rm 0 0 n) (hK : va_K D vwCl tys s) (hP : va_P D vwCl w H) (hS : va_S A0 H0 H locs) (hA : ∀ q, H0.size ≤ q → A0 q) (hPc : va_P D vwCl wc H) (ci : Nat) {fs : List Value} {q : vw_C} (hc : vwCl[ci]? = some q) (hq : q.1 = C) (he : wc[0]? = some (b, .inr (ci, fs))) (hn : As.length = n) (hsize : ls.size = nL) (hst : st0 = As.reverse ++ .ref b :: rest) (hW : (rest.map fun v => v.category).sum ≤ 8) (hd : decode cc pc = .ok (.invokevirtual index, 3)) (hcs : cells ≤ R.cells ∧ slots ≤ R.slots)
    (kk : ∀ (v : Int32) (H1 : Heap) (locs1 : List Loc), va_P D vwCl w H1 → va_S A0 H0 H1 locs1 → K v = some r → W p l e R s m args below meth c H1 locs1 cells slots Q (F0 m (pc + 3) ls (.int v :: rest))) : W p l e R s m args below meth c H locs cells slots Q (F0 m pc ls st0) := by
  obtain ⟨v, h1, h2⟩ := bo_e hf
  subst hst
  refine r_runI (va_runV S (hM v h1) cw ⟨RPre.blind, by rw [← hq]; exact va_recv hK hPc hc he, fun U hU hW1 => ⟨rfl, by rw [hU], by rw [hU]; exact hPc, va_K.moved hW1.alike hK⟩⟩ rfl hn hsize rfl (lv_room hW) hd hcs) hP hS hA (fun H1 locs1 g1 g2 => kk v H1 locs1 g1 g2 h2)
theorem c_callS (S : CallFix p m c cc nL s args Ts own) {fc : Option Int32} {w wc : va_W} {K : Int32 → Option ρ} (hf : bo fc K = some r) (hM : ∀ v, fc = some v → Met l y ws rm (RPre As H.size D tys wc) (RQi H.size v) 0 0 (fr0 H.size)) (cw : CallB R s args own index y bytes maxL ret ws rm 0 0 n ∧ (Cond.static y).before args s = true) (hK : va_K D vwCl tys s) (hP : va_P D vwCl w H) (hS : va_S A0 H0 H locs) (hA : ∀ q, H0.size ≤ q → A0 q) (hPc : va_P D vwCl wc H) (hn : As.length = n) (hsize : ls.size = nL) (hst : st0 = As.reverse ++ rest) (hW : (rest.map fun v => v.category).sum ≤ 8) (hd : decode cc pc = .ok (.invokestatic index, 3)) (hcs : cells ≤ R.cells ∧ slots ≤ R.slots)
    (kk : ∀ (v : Int32) (H1 : Heap) (locs1 : List Loc), va_P D vwCl w H1 → va_S A0 H0 H1 locs1 → K v = some r → W p l e R s m args below meth c H1 locs1 cells slots Q (F0 m (pc + 3) ls (.int v :: rest))) : W p l e R s m args below meth c H locs cells slots Q (F0 m pc ls st0) := by
  obtain ⟨v, h1, h2⟩ := bo_e hf
  subst hst
  refine r_runI (va_runS S (hM v h1) cw ⟨RPre.blind, fun U hU hW1 => ⟨rfl, by rw [hU], by rw [hU]; exact hPc, va_K.moved hW1.alike hK⟩⟩ rfl hn hsize rfl (lv_room hW) hd hcs) hP hS hA (fun H1 locs1 g1 g2 => kk v H1 locs1 g1 g2 h2)
theorem c_callSL (S : CallFix p m c cc nL s args Ts own) {fc : Option Int64} {w wc : va_W} {K : Int64 → Option ρ} (hf : bo fc K = some r) (hM : ∀ v, fc = some v → Met l y ws rm (RPre As H.size D tys wc) (RQl H.size v) 0 0 (fr0 H.size)) (cw : CallB R s args own index y bytes maxL ret ws rm 0 0 n ∧ (Cond.static y).before args s = true) (hK : va_K D vwCl tys s) (hP : va_P D vwCl w H) (hS : va_S A0 H0 H locs) (hA : ∀ q, H0.size ≤ q → A0 q) (hPc : va_P D vwCl wc H) (hn : As.length = n) (hsize : ls.size = nL) (hst : st0 = As.reverse ++ rest) (hW : (rest.map fun v => v.category).sum ≤ 8) (hd : decode cc pc = .ok (.invokestatic index, 3)) (hcs : cells ≤ R.cells ∧ slots ≤ R.slots)
    (kk : ∀ (v : Int64) (H1 : Heap) (locs1 : List Loc), va_P D vwCl w H1 → va_S A0 H0 H1 locs1 → K v = some r → W p l e R s m args below meth c H1 locs1 cells slots Q (F0 m (pc + 3) ls (.long v :: rest))) : W p l e R s m args below meth c H locs cells slots Q (F0 m pc ls st0) := by
  obtain ⟨v, h1, h2⟩ := bo_e hf
  subst hst
  refine r_runL (va_runS S (hM v h1) cw ⟨RPre.blind, fun U hU hW1 => ⟨rfl, by rw [hU], by rw [hU]; exact hPc, va_K.moved hW1.alike hK⟩⟩ rfl hn hsize rfl (lv_room hW) hd hcs) hP hS hA (fun H1 locs1 g1 g2 => kk v H1 locs1 g1 g2 h2)
theorem d_callV {S' T : Type} (S : CallFix p m c cc nL s args Ts own) {fc : Option (Int32 × T)} {w : S' → va_W} {wc : T → va_W} {put : T → S'} {σ : S'} {τ0 : T} {K : Int32 → S' → Option ρ} (hf : bx fc put K = some r) (hM : ∀ v τ, fc = some (v, τ) → Met l y ws rm (WPre (.ref b :: As) H.size D tys (wc τ0)) (WQi H.size D (wc τ0) (wc τ) v) 0 0 (va_A (wc τ0) H.size)) (cw : CallW R s args own C index y bytes maxL ret ws rm 0 0 n) (hK : va_K D vwCl tys s) (hP : va_P D vwCl (w σ) H) (hD : ∀ z, va_D A0 (w z)) (hS : va_S A0 H0 H locs) (hA : ∀ q, H0.size ≤ q → A0 q) (h3 : va_P D vwCl (wc τ0) H ∧ va_D A0 (wc τ0) ∧ ∀ (z : T) (H1 : Heap), (∀ q : Nat, q < H.size → ¬ va_A (wc τ0) H.size q → H1[q]? = H[q]?) → va_P D vwCl (wc z) H1 → va_P D vwCl (w (put z)) H1) (ci : Nat) {fs : List Value} {q : vw_C} (hc : vwCl[ci]? = some q) (hq : q.1 = C) (he : (wc τ0)[0]? = some (b, .inr (ci, fs))) (hn : As.length = n) (hsize : ls.size = nL) (hst : st0 = As.reverse ++ .ref b :: rest) (hW : (rest.map fun v => v.category).sum ≤ 8) (hd : decode cc pc = .ok (.invokevirtual index, 3)) (hcs : cells ≤ R.cells ∧ slots ≤ R.slots)
    (kk : ∀ (v : Int32) (z : S') (H1 : Heap) (locs1 : List Loc), va_P D vwCl (w z) H1 → va_S A0 H0 H1 locs1 → K v z = some r → W p l e R s m args below meth c H1 locs1 cells slots Q (F0 m (pc + 3) ls (.int v :: rest))) : W p l e R s m args below meth c H locs cells slots Q (F0 m pc ls st0) := by
  obtain ⟨v, τ, h1, h2⟩ := bx_e hf
  subst hst
  obtain ⟨hPc, hDc, hJ⟩ := h3
  have hFc : ∀ q, va_A (wc τ0) H.size q → A0 q := fun q h => h.elim (fun ⟨k, e2, g⟩ => hDc.2 k (q, e2) g) (fun g => hA q (Nat.le_trans hS.1 g))
  refine va_calli (va_runV S (hM v τ h1) cw ⟨WPre.blind, by rw [← hq]; exact va_recv hK hPc hc he, fun U hU hW1 => ⟨rfl, by rw [hU], by rw [hU]; exact hPc, va_K.moved hW1.alike hK, hDc.weaken (fun _ _ _ _ => trivial)⟩⟩ rfl hn hsize rfl (lv_room hW) hd hcs) hS (fun q _ h => hFc q h) hFc (fun r' u t H1 locs1 ht hvm hp hB hz hk hS1 => ?_)
  subst hp
  rw [ht] at hB
  exact kk r' (put τ) H1 locs1 (hJ τ H1 hk hB) hS1 h2
theorem d_callVL {S' T : Type} (S : CallFix p m c cc nL s args Ts own) {fc : Option (Int64 × T)} {w : S' → va_W} {wc : T → va_W} {put : T → S'} {σ : S'} {τ0 : T} {K : Int64 → S' → Option ρ} (hf : bx fc put K = some r) (hM : ∀ v τ, fc = some (v, τ) → Met l y ws rm (WPre (.ref b :: As) H.size D tys (wc τ0)) (WQl H.size D (wc τ0) (wc τ) v) 0 0 (va_A (wc τ0) H.size)) (cw : CallW R s args own C index y bytes maxL ret ws rm 0 0 n) (hK : va_K D vwCl tys s) (hP : va_P D vwCl (w σ) H) (hD : ∀ z, va_D A0 (w z)) (hS : va_S A0 H0 H locs) (hA : ∀ q, H0.size ≤ q → A0 q) (h3 : va_P D vwCl (wc τ0) H ∧ va_D A0 (wc τ0) ∧ ∀ (z : T) (H1 : Heap), (∀ q : Nat, q < H.size → ¬ va_A (wc τ0) H.size q → H1[q]? = H[q]?) → va_P D vwCl (wc z) H1 → va_P D vwCl (w (put z)) H1) (ci : Nat) {fs : List Value} {q : vw_C} (hc : vwCl[ci]? = some q) (hq : q.1 = C) (he : (wc τ0)[0]? = some (b, .inr (ci, fs))) (hn : As.length = n) (hsize : ls.size = nL) (hst : st0 = As.reverse ++ .ref b :: rest) (hW : (rest.map fun v => v.category).sum ≤ 8) (hd : decode cc pc = .ok (.invokevirtual index, 3)) (hcs : cells ≤ R.cells ∧ slots ≤ R.slots)
    (kk : ∀ (v : Int64) (z : S') (H1 : Heap) (locs1 : List Loc), va_P D vwCl (w z) H1 → va_S A0 H0 H1 locs1 → K v z = some r → W p l e R s m args below meth c H1 locs1 cells slots Q (F0 m (pc + 3) ls (.long v :: rest))) : W p l e R s m args below meth c H locs cells slots Q (F0 m pc ls st0) := by
  obtain ⟨v, τ, h1, h2⟩ := bx_e hf
  subst hst
  obtain ⟨hPc, hDc, hJ⟩ := h3
  have hFc : ∀ q, va_A (wc τ0) H.size q → A0 q := fun q h => h.elim (fun ⟨k, e2, g⟩ => hDc.2 k (q, e2) g) (fun g => hA q (Nat.le_trans hS.1 g))
  refine va_calll (va_runV S (hM v τ h1) cw ⟨WPre.blind, by rw [← hq]; exact va_recv hK hPc hc he, fun U hU hW1 => ⟨rfl, by rw [hU], by rw [hU]; exact hPc, va_K.moved hW1.alike hK, hDc.weaken (fun _ _ _ _ => trivial)⟩⟩ rfl hn hsize rfl (lv_room hW) hd hcs) hS (fun q _ h => hFc q h) hFc (fun r' u t H1 locs1 ht hvm hp hB hz hk hS1 => ?_)
  subst hp
  rw [ht] at hB
  exact kk r' (put τ) H1 locs1 (hJ τ H1 hk hB) hS1 h2
theorem d_callVv {S' T : Type} (S : CallFix p m c cc nL s args Ts own) {fc : Option T} {w : S' → va_W} {wc : T → va_W} {put : T → S'} {σ : S'} {τ0 : T} {K : S' → Option ρ} (hf : by_ fc put K = some r) (hM : ∀ τ, fc = some τ → Met l y ws rm (WPre (.ref b :: As) H.size D tys (wc τ0)) (WQv H.size D (wc τ0) (wc τ)) 0 0 (va_A (wc τ0) H.size)) (cw : CallW R s args own C index y bytes maxL ret ws rm 0 0 n) (hK : va_K D vwCl tys s) (hP : va_P D vwCl (w σ) H) (hD : ∀ z, va_D A0 (w z)) (hS : va_S A0 H0 H locs) (hA : ∀ q, H0.size ≤ q → A0 q) (h3 : va_P D vwCl (wc τ0) H ∧ va_D A0 (wc τ0) ∧ ∀ (z : T) (H1 : Heap), (∀ q : Nat, q < H.size → ¬ va_A (wc τ0) H.size q → H1[q]? = H[q]?) → va_P D vwCl (wc z) H1 → va_P D vwCl (w (put z)) H1) (ci : Nat) {fs : List Value} {q : vw_C} (hc : vwCl[ci]? = some q) (hq : q.1 = C) (he : (wc τ0)[0]? = some (b, .inr (ci, fs))) (hn : As.length = n) (hsize : ls.size = nL) (hst : st0 = As.reverse ++ .ref b :: rest) (hW : (rest.map fun v => v.category).sum ≤ 8) (hd : decode cc pc = .ok (.invokevirtual index, 3)) (hcs : cells ≤ R.cells ∧ slots ≤ R.slots)
    (kk : ∀ (z : S') (H1 : Heap) (locs1 : List Loc), va_P D vwCl (w z) H1 → va_S A0 H0 H1 locs1 → K z = some r → W p l e R s m args below meth c H1 locs1 cells slots Q (F0 m (pc + 3) ls rest)) : W p l e R s m args below meth c H locs cells slots Q (F0 m pc ls st0) := by
  obtain ⟨τ, h1, h2⟩ := by_e hf
  subst hst
  obtain ⟨hPc, hDc, hJ⟩ := h3
  have hFc : ∀ q, va_A (wc τ0) H.size q → A0 q := fun q h => h.elim (fun ⟨k, e2, g⟩ => hDc.2 k (q, e2) g) (fun g => hA q (Nat.le_trans hS.1 g))
  refine va_callv (va_runV S (hM τ h1) cw ⟨WPre.blind, by rw [← hq]; exact va_recv hK hPc hc he, fun U hU hW1 => ⟨rfl, by rw [hU], by rw [hU]; exact hPc, va_K.moved hW1.alike hK, hDc.weaken (fun _ _ _ _ => trivial)⟩⟩ rfl hn hsize rfl (lv_room hW) hd hcs) hS (fun q _ h => hFc q h) hFc (fun u t H1 locs1 ht hvm hp hB hz hk hS1 => ?_)
  rw [ht] at hB
  exact kk (put τ) H1 locs1 (hJ τ H1 hk hB) hS1 h2
theorem d_callSv {S' T : Type} (S : CallFix p m c cc nL s args Ts own) {fc : Option T} {w : S' → va_W} {wc : T → va_W} {put : T → S'} {σ : S'} {τ0 : T} {K : S' → Option ρ} (hf : by_ fc put K = some r) (hM : ∀ τ, fc = some τ → Met l y ws rm (WPre As H.size D tys (wc τ0)) (WQv H.size D (wc τ0) (wc τ)) 0 0 (va_A (wc τ0) H.size)) (cw : CallB R s args own index y bytes maxL ret ws rm 0 0 n ∧ (Cond.static y).before args s = true) (hK : va_K D vwCl tys s) (hP : va_P D vwCl (w σ) H) (hD : ∀ z, va_D A0 (w z)) (hS : va_S A0 H0 H locs) (hA : ∀ q, H0.size ≤ q → A0 q) (h3 : va_P D vwCl (wc τ0) H ∧ va_D A0 (wc τ0) ∧ ∀ (z : T) (H1 : Heap), (∀ q : Nat, q < H.size → ¬ va_A (wc τ0) H.size q → H1[q]? = H[q]?) → va_P D vwCl (wc z) H1 → va_P D vwCl (w (put z)) H1) (hn : As.length = n) (hsize : ls.size = nL) (hst : st0 = As.reverse ++ rest) (hW : (rest.map fun v => v.category).sum ≤ 8) (hd : decode cc pc = .ok (.invokestatic index, 3)) (hcs : cells ≤ R.cells ∧ slots ≤ R.slots)
    (kk : ∀ (z : S') (H1 : Heap) (locs1 : List Loc), va_P D vwCl (w z) H1 → va_S A0 H0 H1 locs1 → K z = some r → W p l e R s m args below meth c H1 locs1 cells slots Q (F0 m (pc + 3) ls rest)) : W p l e R s m args below meth c H locs cells slots Q (F0 m pc ls st0) := by
  obtain ⟨τ, h1, h2⟩ := by_e hf
  subst hst
  obtain ⟨hPc, hDc, hJ⟩ := h3
  have hFc : ∀ q, va_A (wc τ0) H.size q → A0 q := fun q h => h.elim (fun ⟨k, e2, g⟩ => hDc.2 k (q, e2) g) (fun g => hA q (Nat.le_trans hS.1 g))
  refine va_callv (va_runS S (hM τ h1) cw ⟨WPre.blind, fun U hU hW1 => ⟨rfl, by rw [hU], by rw [hU]; exact hPc, va_K.moved hW1.alike hK, hDc.weaken (fun _ _ _ _ => trivial)⟩⟩ rfl hn hsize rfl (lv_room hW) hd hcs) hS (fun q _ h => hFc q h) hFc (fun u t H1 locs1 ht hvm hp hB hz hk hS1 => ?_)
  rw [ht] at hB
  exact kk (put τ) H1 locs1 (hJ τ H1 hk hB) hS1 h2
end KG
theorem va_P_nil {D : va_G} {H : Heap} : va_P D vwCl wNo H := fun k q h => by simp at h
theorem cmb_of {D : va_G} {H : Heap} {A0 : Nat → Prop} {w wc : St → va_W} {σ τ0 : St} {put : St → St} (hP : va_P D vwCl (w σ) H) (hD : va_D A0 (w σ)) (is : List Nat) (hC : is.map (fun i => (w σ)[i]?) = (wc τ0).map some) (hE : is.filterMap (fun i => (w σ)[i]?) = wc τ0) (hnd : va_nd is = true) (hlc : ∀ z, (wc z).length = is.length) (hrep : ∀ z, w (put z) = rep (w σ) is (wc z)) :
    va_P D vwCl (wc τ0) H ∧ va_D A0 (wc τ0) ∧ ∀ (z : St) (H1 : Heap), (∀ q : Nat, q < H.size → ¬ va_A (wc τ0) H.size q → H1[q]? = H[q]?) → va_P D vwCl (wc z) H1 → va_P D vwCl (w (put z)) H1 :=
  ⟨hP.sub is hE, hD.sub is hnd hC, fun z _ hk hB => x_join hP hD is hC (hrep z) (hlc z) hk hB⟩
