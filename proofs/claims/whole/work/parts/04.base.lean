def minI (x y : Int32) : Int32 := if y < x then y else x
def maxI (x y : Int32) : Int32 := if x < y then y else x
def absI (x : Int32) : Int32 := if 0 ≤ x then x else 0 - x
theorem i32_ne {x k : Int32} {n : Int} (h : ¬ x = k) (hk : k.toInt = n) : x.toInt ≠ n := fun q => h (Int32.toInt_inj.mp (by rw [q, hk]))
theorem sw_if {ρ : Type} {r : ρ} {c G : Prop} {hc : Decidable c} {O P' : Option ρ} (hf : (if c then O else P') = some r) (kt : c → O = some r → G) (kf : ¬ c → P' = some r → G) : G := by
  by_cases q : c
  · exact kt q ((if_pos q).symm.trans hf)
  · exact kf q ((if_neg q).symm.trans hf)
section KE
variable {p : Program} {l : Launch} {e : Env} {R : Room} {s : State} {m : MethodId} {args : Array Value} {below : List Frame} {meth : Method} {c : Code} {H : Heap} {locs : List Loc} {cells slots : Nat} {Q : State → Prop} {cc : ByteArray} {pc : Nat} {ls : Array Slot} {rest : List Value} {ρ : Type} {r : ρ} {O P' : Option ρ}
theorem k_mmin (hx : p.tables.exec = Jvm.exec) (hb : c.code = cc) (hml : c.maxLocals = ls.size) {own : String} {index : Nat} (hown : s.vm.findClass own = some m.cls) (hlink : (Cond.methodLink own index Lib.Math.min.name).before args s = true) (hstat : (Cond.static Lib.Math.min.name).before args s = true) (hini : (Cond.initialized "java/lang/Math").before args s = true) (hcode : (Cond.code Lib.Math.min.name Lib.Math.min.code 2 (some .int)).before args s = true)
    (h1 : 1 ≤ R.frames) (h2 : (rest.map fun v => v.category).sum + 13 ≤ R.locals) (hc : cells ≤ R.cells) (hs : slots ≤ R.slots) {x y : Int32} {K : Int32 → Option ρ} (hd : decode cc pc = .ok (.invokestatic index, 3)) (hf : lt_ (minI x y) K = some r)
    (kk : ∀ v, K v = some r → W p l e R s m args below meth c H locs cells slots Q (F0 m (pc + 3) ls (.int v :: rest))) : W p l e R s m args below meth c H locs cells slots Q (F0 m pc ls (.int y :: .int x :: rest)) :=
  va_mmin hx hb hml hown hlink hstat hini hcode h1 h2 hc hs hd (kk (minI x y) hf)
theorem k_mmax (hx : p.tables.exec = Jvm.exec) (hb : c.code = cc) (hml : c.maxLocals = ls.size) {own : String} {index : Nat} (hown : s.vm.findClass own = some m.cls) (hlink : (Cond.methodLink own index Lib.Math.max.name).before args s = true) (hstat : (Cond.static Lib.Math.max.name).before args s = true) (hini : (Cond.initialized "java/lang/Math").before args s = true) (hcode : (Cond.code Lib.Math.max.name Lib.Math.max.code 2 (some .int)).before args s = true)
    (h1 : 1 ≤ R.frames) (h2 : (rest.map fun v => v.category).sum + 13 ≤ R.locals) (hc : cells ≤ R.cells) (hs : slots ≤ R.slots) {x y : Int32} {K : Int32 → Option ρ} (hd : decode cc pc = .ok (.invokestatic index, 3)) (hf : lt_ (maxI x y) K = some r)
    (kk : ∀ v, K v = some r → W p l e R s m args below meth c H locs cells slots Q (F0 m (pc + 3) ls (.int v :: rest))) : W p l e R s m args below meth c H locs cells slots Q (F0 m pc ls (.int y :: .int x :: rest)) :=
  va_mmax hx hb hml hown hlink hstat hini hcode h1 h2 hc hs hd (kk (maxI x y) hf)
theorem k_mabs (hx : p.tables.exec = Jvm.exec) (hb : c.code = cc) (hml : c.maxLocals = ls.size) {own : String} {index : Nat} (hown : s.vm.findClass own = some m.cls) (hlink : (Cond.methodLink own index Lib.Math.abs.name).before args s = true) (hstat : (Cond.static Lib.Math.abs.name).before args s = true) (hini : (Cond.initialized "java/lang/Math").before args s = true) (hcode : (Cond.code Lib.Math.abs.name Lib.Math.abs.code 1 (some .int)).before args s = true)
    (h1 : 1 ≤ R.frames) (h2 : (rest.map fun v => v.category).sum + 13 ≤ R.locals) (hc : cells ≤ R.cells) (hs : slots ≤ R.slots) {x : Int32} {K : Int32 → Option ρ} (hd : decode cc pc = .ok (.invokestatic index, 3)) (hf : lt_ (absI x) K = some r)
    (kk : ∀ v, K v = some r → W p l e R s m args below meth c H locs cells slots Q (F0 m (pc + 3) ls (.int v :: rest))) : W p l e R s m args below meth c H locs cells slots Q (F0 m pc ls (.int x :: rest)) :=
  va_mabs hx hb hml hown hlink hstat hini hcode h1 h2 hc hs hd (kk (absI x) hf)
theorem lg_cmp0 (x y : Int64) : lg_cmp x y = 0 ↔ x = y := by
  unfold lg_cmp
  by_cases h1 : y < x
  · simp only [h1, if_true]
    constructor
    · intro h; exact absurd h (by decide)
    · rintro rfl; exact absurd h1 (Int64.lt_irrefl)
  · by_cases h2 : x = y
    · simp [h2]
    · simp only [h1, h2, if_false, iff_false]
      decide
theorem k_lcmp_ne (hx : p.tables.exec = Jvm.exec) (hb : c.code = cc) {x y : Int64} {off : Int} {tgt : Nat} (hd1 : decode cc pc = .ok (.lcmp, 1)) (hd : decode cc (pc + 1) = .ok (.ifCond .ne off, 3)) (ht : ((pc + 1 : Nat) : Int) + off = (tgt : Int)) (hf : (if x = y then P' else O) = some r) (kt : O = some r → W p l e R s m args below meth c H locs cells slots Q (F0 m tgt ls rest)) (kf : P' = some r → W p l e R s m args below meth c H locs cells slots Q (F0 m (pc + 1 + 3) ls rest)) : W p l e R s m args below meth c H locs cells slots Q (F0 m pc ls (.long y :: .long x :: rest)) :=
  W.lcmp hx hb hd1 (lv_if_ne hx hb hd ht (fun q => kt ((if_neg (fun z => q ((lg_cmp0 x y).mpr z))).symm.trans hf)) (fun q => kf ((if_pos ((lg_cmp0 x y).mp q)).symm.trans hf)))
theorem k_lcmp_eq (hx : p.tables.exec = Jvm.exec) (hb : c.code = cc) {x y : Int64} {off : Int} {tgt : Nat} (hd1 : decode cc pc = .ok (.lcmp, 1)) (hd : decode cc (pc + 1) = .ok (.ifCond .eq off, 3)) (ht : ((pc + 1 : Nat) : Int) + off = (tgt : Int)) (hf : (if x = y then O else P') = some r) (kt : O = some r → W p l e R s m args below meth c H locs cells slots Q (F0 m tgt ls rest)) (kf : P' = some r → W p l e R s m args below meth c H locs cells slots Q (F0 m (pc + 1 + 3) ls rest)) : W p l e R s m args below meth c H locs cells slots Q (F0 m pc ls (.long y :: .long x :: rest)) :=
  W.lcmp hx hb hd1 (lv_if_eq hx hb hd ht (fun q => kt ((if_pos ((lg_cmp0 x y).mp q)).symm.trans hf)) (fun q => kf ((if_neg (fun z => q ((lg_cmp0 x y).mpr z))).symm.trans hf)))
/-- a switch by a table, at a number that goes the default's way from inside it or outside -/
theorem sw_tab (hx : p.tables.exec = Jvm.exec) (hb : c.code = cc) {dflt lo hi off : Int} {offs : Array Int} {len : Nat} {x : Int32} {tgt : Nat} (hd : decode cc pc = .ok (.tableswitch dflt lo hi offs, len)) (ho : dflt = off) {P : Int → Prop} (hin : ∀ j : Nat, j < (hi - lo + 1).toNat → P (lo + j) → offs[j]? = some off) (hP : P x.toInt) (ht : (pc : Int) + off = (tgt : Int))
    (k : W p l e R s m args below meth c H locs cells slots Q (F0 m tgt ls rest)) : W p l e R s m args below meth c H locs cells slots Q (F0 m pc ls (.int x :: rest)) := by
  by_cases q : x.toInt < lo ∨ hi < x.toInt
  · exact lv_tableOut hx hb hd q (by rw [ho]; exact ht) k
  · have q1 : ¬ x.toInt < lo := fun z => q (Or.inl z)
    have q2 : ¬ hi < x.toInt := fun z => q (Or.inr z)
    refine lv_tableIn (off := off) hx hb hd q1 q2 (hin _ ?_ ?_) ht k
    · omega
    · rw [show lo + ((x.toInt - lo).toNat : Int) = x.toInt from by omega]; exact hP
end KE
