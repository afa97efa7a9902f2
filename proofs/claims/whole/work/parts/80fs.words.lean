/-! the law's switch, read number by number -/
theorem s4L_36 : Jvm.ClassFile.Reader.runAt (Jvm.ClassFile.Reader.s4 (ε := Jvm.ClassFile.DecodeError)) cL_law 36 = .ok (1150, 40) := by decide +kernel
theorem s4L_40 : Jvm.ClassFile.Reader.runAt (Jvm.ClassFile.Reader.s4 (ε := Jvm.ClassFile.DecodeError)) cL_law 40 = .ok (0, 44) := by decide +kernel
theorem s4L_44 : Jvm.ClassFile.Reader.runAt (Jvm.ClassFile.Reader.s4 (ε := Jvm.ClassFile.DecodeError)) cL_law 44 = .ok (35, 48) := by decide +kernel
theorem s4L_48 : Jvm.ClassFile.Reader.runAt (Jvm.ClassFile.Reader.s4 (ε := Jvm.ClassFile.DecodeError)) cL_law 48 = .ok (160, 52) := by decide +kernel
theorem s4L_52 : Jvm.ClassFile.Reader.runAt (Jvm.ClassFile.Reader.s4 (ε := Jvm.ClassFile.DecodeError)) cL_law 52 = .ok (183, 56) := by decide +kernel
theorem s4L_56 : Jvm.ClassFile.Reader.runAt (Jvm.ClassFile.Reader.s4 (ε := Jvm.ClassFile.DecodeError)) cL_law 56 = .ok (196, 60) := by decide +kernel
theorem s4L_60 : Jvm.ClassFile.Reader.runAt (Jvm.ClassFile.Reader.s4 (ε := Jvm.ClassFile.DecodeError)) cL_law 60 = .ok (229, 64) := by decide +kernel
theorem s4L_64 : Jvm.ClassFile.Reader.runAt (Jvm.ClassFile.Reader.s4 (ε := Jvm.ClassFile.DecodeError)) cL_law 64 = .ok (262, 68) := by decide +kernel
theorem s4L_68 : Jvm.ClassFile.Reader.runAt (Jvm.ClassFile.Reader.s4 (ε := Jvm.ClassFile.DecodeError)) cL_law 68 = .ok (295, 72) := by decide +kernel
theorem s4L_72 : Jvm.ClassFile.Reader.runAt (Jvm.ClassFile.Reader.s4 (ε := Jvm.ClassFile.DecodeError)) cL_law 72 = .ok (328, 76) := by decide +kernel
theorem s4L_76 : Jvm.ClassFile.Reader.runAt (Jvm.ClassFile.Reader.s4 (ε := Jvm.ClassFile.DecodeError)) cL_law 76 = .ok (351, 80) := by decide +kernel
theorem s4L_80 : Jvm.ClassFile.Reader.runAt (Jvm.ClassFile.Reader.s4 (ε := Jvm.ClassFile.DecodeError)) cL_law 80 = .ok (374, 84) := by decide +kernel
theorem s4L_84 : Jvm.ClassFile.Reader.runAt (Jvm.ClassFile.Reader.s4 (ε := Jvm.ClassFile.DecodeError)) cL_law 84 = .ok (417, 88) := by decide +kernel
theorem s4L_88 : Jvm.ClassFile.Reader.runAt (Jvm.ClassFile.Reader.s4 (ε := Jvm.ClassFile.DecodeError)) cL_law 88 = .ok (440, 92) := by decide +kernel
theorem s4L_92 : Jvm.ClassFile.Reader.runAt (Jvm.ClassFile.Reader.s4 (ε := Jvm.ClassFile.DecodeError)) cL_law 92 = .ok (473, 96) := by decide +kernel
theorem s4L_96 : Jvm.ClassFile.Reader.runAt (Jvm.ClassFile.Reader.s4 (ε := Jvm.ClassFile.DecodeError)) cL_law 96 = .ok (506, 100) := by decide +kernel
theorem s4L_100 : Jvm.ClassFile.Reader.runAt (Jvm.ClassFile.Reader.s4 (ε := Jvm.ClassFile.DecodeError)) cL_law 100 = .ok (529, 104) := by decide +kernel
theorem s4L_104 : Jvm.ClassFile.Reader.runAt (Jvm.ClassFile.Reader.s4 (ε := Jvm.ClassFile.DecodeError)) cL_law 104 = .ok (542, 108) := by decide +kernel
theorem s4L_108 : Jvm.ClassFile.Reader.runAt (Jvm.ClassFile.Reader.s4 (ε := Jvm.ClassFile.DecodeError)) cL_law 108 = .ok (575, 112) := by decide +kernel
theorem s4L_112 : Jvm.ClassFile.Reader.runAt (Jvm.ClassFile.Reader.s4 (ε := Jvm.ClassFile.DecodeError)) cL_law 112 = .ok (598, 116) := by decide +kernel
theorem s4L_116 : Jvm.ClassFile.Reader.runAt (Jvm.ClassFile.Reader.s4 (ε := Jvm.ClassFile.DecodeError)) cL_law 116 = .ok (621, 120) := by decide +kernel
theorem s4L_120 : Jvm.ClassFile.Reader.runAt (Jvm.ClassFile.Reader.s4 (ε := Jvm.ClassFile.DecodeError)) cL_law 120 = .ok (644, 124) := by decide +kernel
theorem s4L_124 : Jvm.ClassFile.Reader.runAt (Jvm.ClassFile.Reader.s4 (ε := Jvm.ClassFile.DecodeError)) cL_law 124 = .ok (667, 128) := by decide +kernel
theorem s4L_128 : Jvm.ClassFile.Reader.runAt (Jvm.ClassFile.Reader.s4 (ε := Jvm.ClassFile.DecodeError)) cL_law 128 = .ok (690, 132) := by decide +kernel
theorem s4L_132 : Jvm.ClassFile.Reader.runAt (Jvm.ClassFile.Reader.s4 (ε := Jvm.ClassFile.DecodeError)) cL_law 132 = .ok (703, 136) := by decide +kernel
theorem s4L_136 : Jvm.ClassFile.Reader.runAt (Jvm.ClassFile.Reader.s4 (ε := Jvm.ClassFile.DecodeError)) cL_law 136 = .ok (746, 140) := by decide +kernel
theorem s4L_140 : Jvm.ClassFile.Reader.runAt (Jvm.ClassFile.Reader.s4 (ε := Jvm.ClassFile.DecodeError)) cL_law 140 = .ok (789, 144) := by decide +kernel
theorem s4L_144 : Jvm.ClassFile.Reader.runAt (Jvm.ClassFile.Reader.s4 (ε := Jvm.ClassFile.DecodeError)) cL_law 144 = .ok (832, 148) := by decide +kernel
theorem s4L_148 : Jvm.ClassFile.Reader.runAt (Jvm.ClassFile.Reader.s4 (ε := Jvm.ClassFile.DecodeError)) cL_law 148 = .ok (855, 152) := by decide +kernel
theorem s4L_152 : Jvm.ClassFile.Reader.runAt (Jvm.ClassFile.Reader.s4 (ε := Jvm.ClassFile.DecodeError)) cL_law 152 = .ok (898, 156) := by decide +kernel
theorem s4L_156 : Jvm.ClassFile.Reader.runAt (Jvm.ClassFile.Reader.s4 (ε := Jvm.ClassFile.DecodeError)) cL_law 156 = .ok (952, 160) := by decide +kernel
theorem s4L_160 : Jvm.ClassFile.Reader.runAt (Jvm.ClassFile.Reader.s4 (ε := Jvm.ClassFile.DecodeError)) cL_law 160 = .ok (976, 164) := by decide +kernel
theorem s4L_164 : Jvm.ClassFile.Reader.runAt (Jvm.ClassFile.Reader.s4 (ε := Jvm.ClassFile.DecodeError)) cL_law 164 = .ok (1009, 168) := by decide +kernel
theorem s4L_168 : Jvm.ClassFile.Reader.runAt (Jvm.ClassFile.Reader.s4 (ε := Jvm.ClassFile.DecodeError)) cL_law 168 = .ok (1032, 172) := by decide +kernel
theorem s4L_172 : Jvm.ClassFile.Reader.runAt (Jvm.ClassFile.Reader.s4 (ε := Jvm.ClassFile.DecodeError)) cL_law 172 = .ok (1045, 176) := by decide +kernel
theorem s4L_176 : Jvm.ClassFile.Reader.runAt (Jvm.ClassFile.Reader.s4 (ε := Jvm.ClassFile.DecodeError)) cL_law 176 = .ok (1058, 180) := by decide +kernel
theorem s4L_180 : Jvm.ClassFile.Reader.runAt (Jvm.ClassFile.Reader.s4 (ε := Jvm.ClassFile.DecodeError)) cL_law 180 = .ok (1101, 184) := by decide +kernel
theorem s4L_184 : Jvm.ClassFile.Reader.runAt (Jvm.ClassFile.Reader.s4 (ε := Jvm.ClassFile.DecodeError)) cL_law 184 = .ok (1114, 188) := by decide +kernel
theorem s4L_188 : Jvm.ClassFile.Reader.runAt (Jvm.ClassFile.Reader.s4 (ε := Jvm.ClassFile.DecodeError)) cL_law 188 = .ok (1127, 192) := by decide +kernel
theorem u1L_32 : Jvm.ClassFile.Reader.runAt (Jvm.ClassFile.Reader.u1 (ε := Jvm.ClassFile.DecodeError)) cL_law 32 = .ok (170, 33) := by decide +kernel
theorem padL_33 : Jvm.ClassFile.Reader.runAt Jvm.ClassFile.Decoder.padding cL_law 33 = .ok ((), 36) := by decide +kernel
theorem go_of (b : ByteArray) : ∀ (vs : List Int) (acc : Array Int) (p : Nat), (∀ i v, vs[i]? = some v → Jvm.ClassFile.Reader.runAt (Jvm.ClassFile.Reader.s4 (ε := Jvm.ClassFile.DecodeError)) b (p + 4 * i) = .ok (v, p + 4 * i + 4)) → Jvm.ClassFile.Reader.runAt (Jvm.ClassFile.Reader.times.go (Jvm.ClassFile.Reader.s4 (ε := Jvm.ClassFile.DecodeError)) vs.length acc) b p = .ok (vs.foldl Array.push acc, p + 4 * vs.length) := by
  intro vs
  induction vs with
  | nil => intro acc p _; rfl
  | cons v vs ih =>
    intro acc p h
    have h0 : Jvm.ClassFile.Reader.runAt (Jvm.ClassFile.Reader.s4 (ε := Jvm.ClassFile.DecodeError)) b p = .ok (v, p + 4) := h 0 v rfl
    show Except.bind (Jvm.ClassFile.Reader.runAt (Jvm.ClassFile.Reader.s4 (ε := Jvm.ClassFile.DecodeError)) b p) _ = _
    rw [h0]
    have := ih (acc.push v) (p + 4) (fun i w hi => by
      have := h (i + 1) w hi
      rw [show p + 4 * (i + 1) = p + 4 + 4 * i by omega] at this
      exact this)
    show Jvm.ClassFile.Reader.runAt (Jvm.ClassFile.Reader.times.go (Jvm.ClassFile.Reader.s4 (ε := Jvm.ClassFile.DecodeError)) vs.length (acc.push v)) b (p + 4) = _
    rw [this]
    show _ = Except.ok (_, p + 4 * (vs.length + 1))
    rw [show p + 4 + 4 * vs.length = p + 4 * (vs.length + 1) by omega]
    rfl
def offL : List Int := [160, 183, 196, 229, 262, 295, 328, 351, 374, 417, 440, 473, 506, 529, 542, 575, 598, 621, 644, 667, 690, 703, 746, 789, 832, 855, 898, 952, 976, 1009, 1032, 1045, 1058, 1101, 1114, 1127]
theorem offL_at : ∀ i v, offL[i]? = some v → Jvm.ClassFile.Reader.runAt (Jvm.ClassFile.Reader.s4 (ε := Jvm.ClassFile.DecodeError)) cL_law (48 + 4 * i) = .ok (v, 48 + 4 * i + 4) := by
  intro i v h
  have hi : i < 36 := (List.getElem?_eq_some_iff.mp h).1
  rcases (show i = 0 ∨ i = 1 ∨ i = 2 ∨ i = 3 ∨ i = 4 ∨ i = 5 ∨ i = 6 ∨ i = 7 ∨ i = 8 ∨ i = 9 ∨ i = 10 ∨ i = 11 ∨ i = 12 ∨ i = 13 ∨ i = 14 ∨ i = 15 ∨ i = 16 ∨ i = 17 ∨ i = 18 ∨ i = 19 ∨ i = 20 ∨ i = 21 ∨ i = 22 ∨ i = 23 ∨ i = 24 ∨ i = 25 ∨ i = 26 ∨ i = 27 ∨ i = 28 ∨ i = 29 ∨ i = 30 ∨ i = 31 ∨ i = 32 ∨ i = 33 ∨ i = 34 ∨ i = 35 by omega) with rfl | rfl | rfl | rfl | rfl | rfl | rfl | rfl | rfl | rfl | rfl | rfl | rfl | rfl | rfl | rfl | rfl | rfl | rfl | rfl | rfl | rfl | rfl | rfl | rfl | rfl | rfl | rfl | rfl | rfl | rfl | rfl | rfl | rfl | rfl | rfl
  all_goals (cases h)
  · exact s4L_48
  · exact s4L_52
  · exact s4L_56
  · exact s4L_60
  · exact s4L_64
  · exact s4L_68
  · exact s4L_72
  · exact s4L_76
  · exact s4L_80
  · exact s4L_84
  · exact s4L_88
  · exact s4L_92
  · exact s4L_96
  · exact s4L_100
  · exact s4L_104
  · exact s4L_108
  · exact s4L_112
  · exact s4L_116
  · exact s4L_120
  · exact s4L_124
  · exact s4L_128
  · exact s4L_132
  · exact s4L_136
  · exact s4L_140
  · exact s4L_144
  · exact s4L_148
  · exact s4L_152
  · exact s4L_156
  · exact s4L_160
  · exact s4L_164
  · exact s4L_168
  · exact s4L_172
  · exact s4L_176
  · exact s4L_180
  · exact s4L_184
  · exact s4L_188
theorem ts_of (b : ByteArray) {pc : Nat} {d : Int} (h0 : Jvm.ClassFile.Reader.runAt Jvm.ClassFile.Decoder.padding b 33 = .ok ((), 36)) (h1 : Jvm.ClassFile.Reader.runAt (Jvm.ClassFile.Reader.s4 (ε := Jvm.ClassFile.DecodeError)) b 36 = .ok (d, 40)) (h2 : Jvm.ClassFile.Reader.runAt (Jvm.ClassFile.Reader.s4 (ε := Jvm.ClassFile.DecodeError)) b 40 = .ok (0, 44)) (h3 : Jvm.ClassFile.Reader.runAt (Jvm.ClassFile.Reader.s4 (ε := Jvm.ClassFile.DecodeError)) b 44 = .ok (35, 48)) (vs : List Int) (hl : vs.length = 36) (hv : ∀ i v, vs[i]? = some v → Jvm.ClassFile.Reader.runAt (Jvm.ClassFile.Reader.s4 (ε := Jvm.ClassFile.DecodeError)) b (48 + 4 * i) = .ok (v, 48 + 4 * i + 4)) : Jvm.ClassFile.Reader.runAt (Jvm.ClassFile.Decoder.tableswitch pc) b 33 = .ok (.tableswitch d 0 35 (vs.foldl Array.push #[]), 192) := by
  have h4 : Jvm.ClassFile.Reader.runAt (Jvm.ClassFile.Reader.times.go (Jvm.ClassFile.Reader.s4 (ε := Jvm.ClassFile.DecodeError)) 36 #[]) b 48 = .ok (vs.foldl Array.push #[], 48 + 4 * 36) := by
    have := go_of b vs #[] 48 hv
    rw [hl] at this
    exact this
  show Except.bind (Jvm.ClassFile.Reader.runAt Jvm.ClassFile.Decoder.padding b 33) _ = _
  rw [h0]
  show Except.bind (Jvm.ClassFile.Reader.runAt (Jvm.ClassFile.Reader.s4 (ε := Jvm.ClassFile.DecodeError)) b 36) _ = _
  rw [h1]
  show Except.bind (Jvm.ClassFile.Reader.runAt (Jvm.ClassFile.Reader.s4 (ε := Jvm.ClassFile.DecodeError)) b 40) _ = _
  rw [h2]
  show Except.bind (Jvm.ClassFile.Reader.runAt (Jvm.ClassFile.Reader.s4 (ε := Jvm.ClassFile.DecodeError)) b 44) _ = _
  rw [h3]
  show Except.bind (Jvm.ClassFile.Reader.runAt (Jvm.ClassFile.Reader.times.go (Jvm.ClassFile.Reader.s4 (ε := Jvm.ClassFile.DecodeError)) 36 #[]) b 48) _ = _
  rw [h4]
  rfl
theorem dec_of (b : ByteArray) {d : Int} {arr : Array Int} (h0 : Jvm.ClassFile.Reader.runAt (Jvm.ClassFile.Reader.u1 (ε := Jvm.ClassFile.DecodeError)) b 32 = .ok (170, 33)) (h1 : Jvm.ClassFile.Reader.runAt (Jvm.ClassFile.Decoder.tableswitch 32) b 33 = .ok (.tableswitch d 0 35 arr, 192)) : decode b 32 = .ok (.tableswitch d 0 35 arr, 160) := by
  have h2 : Jvm.ClassFile.Reader.runAt (Jvm.ClassFile.Decoder.instr 32) b 32 = .ok (.tableswitch d 0 35 arr, 192) := by
    show Except.bind (Jvm.ClassFile.Reader.runAt (Jvm.ClassFile.Reader.u1 (ε := Jvm.ClassFile.DecodeError)) b 32) _ = _
    rw [h0]
    exact h1
  show Except.bind (Jvm.ClassFile.Reader.runAt (Jvm.ClassFile.Decoder.instr 32) b 32) _ = _
  rw [h2]
  rfl
theorem dL_law_32 : decode cL_law 32 = .ok (.tableswitch 1150 0 35 #[160, 183, 196, 229, 262, 295, 328, 351, 374, 417, 440, 473, 506, 529, 542, 575, 598, 621, 644, 667, 690, 703, 746, 789, 832, 855, 898, 952, 976, 1009, 1032, 1045, 1058, 1101, 1114, 1127], 160) := dec_of cL_law u1L_32 (ts_of cL_law padL_33 s4L_36 s4L_40 s4L_44 offL rfl offL_at)
