theorem mul3 {a b c : Int64} (ha : -60 ≤ a.toInt ∧ a.toInt ≤ 60) (hb : -60 ≤ b.toInt ∧ b.toInt ≤ 60) (hc : -60 ≤ c.toInt ∧ c.toInt ≤ 60) : (a * b * c).toInt = a.toInt * b.toInt * c.toInt ∧ -216000 ≤ (a * b * c).toInt ∧ (a * b * c).toInt ≤ 216000 := by
  have h1 := mul_b (A := 60) (B := 60) ha hb
  have e1 : (a * b).toInt = a.toInt * b.toInt := Kit.i64_mul (by omega) (by omega)
  have h2 := mul_b (A := 3600) (B := 60) (show -3600 ≤ a.toInt * b.toInt ∧ a.toInt * b.toInt ≤ 3600 by omega) hc
  have e2 : (a * b * c).toInt = a.toInt * b.toInt * c.toInt := by rw [Kit.i64_mul (by rw [e1]; omega) (by rw [e1]; omega), e1]
  rw [e2]
  exact ⟨rfl, by omega, by omega⟩
theorem inn {a b c i : Int64} (ha : -216000 ≤ a.toInt ∧ a.toInt ≤ 216000) (hb : -216000 ≤ b.toInt ∧ b.toInt ≤ 216000) (hc : -216000 ≤ c.toInt ∧ c.toInt ≤ 216000) (hi : i = b * b - 4 * a * c) : i.toInt = b.toInt * b.toInt - 4 * a.toInt * c.toInt ∧ -233280000000 ≤ i.toInt ∧ i.toInt ≤ 233280000000 := by
  have h1 := mul_b (A := 216000) (B := 216000) hb hb
  have h2 := mul_b (a := 4 * a.toInt) (A := 864000) (B := 216000) (by omega) hc
  have e1 : (b * b).toInt = b.toInt * b.toInt := Kit.i64_mul (by omega) (by omega)
  have e4 : (4 : Int64).toInt = 4 := rfl
  have e2 : (4 * a).toInt = 4 * a.toInt := by rw [Kit.i64_mul (by rw [e4]; omega) (by rw [e4]; omega), e4]
  have e3 : (4 * a * c).toInt = 4 * a.toInt * c.toInt := by rw [Kit.i64_mul (by rw [e2]; omega) (by rw [e2]; omega), e2]
  have e5 : i.toInt = b.toInt * b.toInt - 4 * a.toInt * c.toInt := by rw [hi, Kit.i64_sub (by rw [e1, e3]; omega) (by rw [e1, e3]; omega), e1, e3]
  rw [e5]
  exact ⟨rfl, by omega, by omega⟩
theorem sgZ_3 (z : Int) : sgZ z = 1 ∨ sgZ z = -1 ∨ sgZ z = 0 := by
  unfold sgZ
  split
  · exact Or.inl rfl
  · split
    · exact Or.inr (Or.inl rfl)
    · exact Or.inr (Or.inr rfl)
theorem sgZ_b (z : Int) : -1 ≤ (sgZ z).toInt ∧ (sgZ z).toInt ≤ 1 := by
  rcases sgZ_3 z with h | h | h <;> rw [h] <;> decide
theorem sgZ_mul {z d : Int} (hd : 0 < d) : sgZ (z * d) = sgZ z := by
  unfold sgZ
  rcases Int.lt_trichotomy z 0 with h | h | h
  · have h1 := Int.mul_neg_of_neg_of_pos h hd
    rw [if_neg (by omega), if_pos h1, if_neg (by omega), if_pos h]
  · rw [h, Int.zero_mul]
  · have h1 := Int.mul_pos h hd
    rw [if_pos h1, if_pos h]
theorem sg_az (u : Nat → Rat) : sgZ (Az u) = sgZ (u 2).num := by
  unfold Az
  rw [sgZ_mul (by have := (u 1).den_pos; omega), sgZ_mul (by have := (u 0).den_pos; omega)]
theorem az0 {u : Nat → Rat} (h : u 2 ≠ 0) : Az u ≠ 0 := Int.mul_ne_zero (Int.mul_ne_zero (fun e => h (Rat.num_eq_zero.mp e)) (by have := (u 0).den_pos; omega)) (by have := (u 1).den_pos; omega)
theorem two_a {a : Int64} (ha : -216000 ≤ a.toInt ∧ a.toInt ≤ 216000) : (2 * a).toInt = 2 * a.toInt := by
  have e9 : (2 : Int64).toInt = 2 := rfl
  rw [Kit.i64_mul (by rw [e9]; omega) (by rw [e9]; omega), e9]
theorem sq1 {r sq : Nat} (h : sq < (r + 1) * (r + 1)) : (sq : Int) < ((r : Int) + 1) * ((r : Int) + 1) := by
  have e9 : ((r : Int) + 1) * ((r : Int) + 1) = (((r + 1) * (r + 1) : Nat) : Int) := by rw [Int.natCast_mul]; rfl
  rw [e9]; omega
theorem rho_ne {rho : Rat} {r : Nat} {D : Int} (h0 : (D : Rat) ≠ 0) (h : rho = ((r : Int) : Rat) / (D : Rat)) (hr : r ≠ 0) : rho ≠ 0 := fun q => by
  have h9 := h.symm.trans q
  have h7 : ((r : Int) : Rat) = 0 := by grind
  have := Rat.intCast_eq_zero_iff.mp h7
  omega
theorem sqx {b : Int64} {sg : Int32} {r : Nat} {B : Int} (hb : b.toInt = B) (hB : -216000 ≤ B ∧ B ≤ 216000) (hs : -1 ≤ sg.toInt ∧ sg.toInt ≤ 1) (hr : r < 2 ^ 20) : (-b - sg.toInt64 * lN r).toInt = -B - sg.toInt * (r : Int) ∧ (-b + sg.toInt64 * lN r).toInt = -B + sg.toInt * (r : Int) ∧ -2000000 ≤ -B - sg.toInt * (r : Int) ∧ -2000000 ≤ -B + sg.toInt * (r : Int) := by
  have e1 : sg.toInt64.toInt = sg.toInt := Int32.toInt_toInt64 sg
  have e2 : (lN r).toInt = (r : Int) := pk_lT (by omega)
  have h1 := mul_b (a := sg.toInt) (b := (r : Int)) (A := 1) (B := 2 ^ 20) hs (by omega)
  have e3 : (sg.toInt64 * lN r).toInt = sg.toInt * (r : Int) := by rw [Kit.i64_mul (by rw [e1, e2]; omega) (by rw [e1, e2]; omega), e1, e2]
  have e4 : (-b).toInt = -B := by rw [Kit.i64_neg (by omega), hb]
  refine ⟨?_, ?_, by omega, by omega⟩
  · rw [Kit.i64_sub (by rw [e3, e4]; omega) (by rw [e3, e4]; omega), e3, e4]
  · rw [Kit.i64_add (by rw [e3, e4]; omega) (by rw [e3, e4]; omega), e3, e4]

def po_X3_ofSquare (G : Gm) (A : Nat → Prop) (q : Nat) (u : Nat → Rat) : Option Value → Heap → Prop := fun v H => ∃ q2 n pt sg, v = some (.ref q2) ∧ TellR u n pt sg ∧ Sg G A H q2 n pt sg
def px_X3_ofSquare (q : Nat) (u : Nat → Rat) : String → Prop := fun E => E = eIS ∧ NoTell u
theorem bkX3_ofSquare_0_2 : pb_chk cX3_ofSquare 0 [.aload_n 0, .iconst 0] = some 2 := by decide +kernel
theorem dX3_ofSquare_2 : decode cX3_ofSquare 2 = .ok (.invokevirtual 39, 3) := by decide +kernel
theorem bkX3_ofSquare_5_8 : pb_chk cX3_ofSquare 5 [.astore_n 1, .aload_n 0, .iconst 1] = some 8 := by decide +kernel
theorem dX3_ofSquare_8 : decode cX3_ofSquare 8 = .ok (.invokevirtual 39, 3) := by decide +kernel
theorem bkX3_ofSquare_11_14 : pb_chk cX3_ofSquare 11 [.astore_n 2, .aload_n 0, .iconst 2] = some 14 := by decide +kernel
theorem dX3_ofSquare_14 : decode cX3_ofSquare 14 = .ok (.invokevirtual 39, 3) := by decide +kernel
theorem bkX3_ofSquare_17_19 : pb_chk cX3_ofSquare 17 [.astore_n 3, .aload_n 1] = some 19 := by decide +kernel
theorem dX3_ofSquare_19 : decode cX3_ofSquare 19 = .ok (.getfield 43, 3) := by decide +kernel
theorem bkX3_ofSquare_22_23 : pb_chk cX3_ofSquare 22 [.aload_n 2] = some 23 := by decide +kernel
theorem dX3_ofSquare_23 : decode cX3_ofSquare 23 = .ok (.getfield 62, 3) := by decide +kernel
theorem bkX3_ofSquare_26_28 : pb_chk cX3_ofSquare 26 [.lmul, .aload_n 3] = some 28 := by decide +kernel
theorem dX3_ofSquare_28 : decode cX3_ofSquare 28 = .ok (.getfield 62, 3) := by decide +kernel
theorem bkX3_ofSquare_31_32 : pb_chk cX3_ofSquare 31 [.lmul] = some 32 := by decide +kernel
theorem bkX3_ofSquare_32_35 : pb_chk cX3_ofSquare 32 [.lstore 4, .aload_n 2] = some 35 := by decide +kernel
theorem dX3_ofSquare_35 : decode cX3_ofSquare 35 = .ok (.getfield 43, 3) := by decide +kernel
theorem bkX3_ofSquare_38_39 : pb_chk cX3_ofSquare 38 [.aload_n 1] = some 39 := by decide +kernel
theorem dX3_ofSquare_39 : decode cX3_ofSquare 39 = .ok (.getfield 62, 3) := by decide +kernel
theorem bkX3_ofSquare_42_44 : pb_chk cX3_ofSquare 42 [.lmul, .aload_n 3] = some 44 := by decide +kernel
theorem dX3_ofSquare_44 : decode cX3_ofSquare 44 = .ok (.getfield 62, 3) := by decide +kernel
theorem bkX3_ofSquare_47_48 : pb_chk cX3_ofSquare 47 [.lmul] = some 48 := by decide +kernel
theorem bkX3_ofSquare_48_51 : pb_chk cX3_ofSquare 48 [.lstore 6, .aload_n 3] = some 51 := by decide +kernel
theorem dX3_ofSquare_51 : decode cX3_ofSquare 51 = .ok (.getfield 43, 3) := by decide +kernel
theorem bkX3_ofSquare_54_55 : pb_chk cX3_ofSquare 54 [.aload_n 1] = some 55 := by decide +kernel
theorem dX3_ofSquare_55 : decode cX3_ofSquare 55 = .ok (.getfield 62, 3) := by decide +kernel
theorem bkX3_ofSquare_58_60 : pb_chk cX3_ofSquare 58 [.lmul, .aload_n 2] = some 60 := by decide +kernel
theorem dX3_ofSquare_60 : decode cX3_ofSquare 60 = .ok (.getfield 62, 3) := by decide +kernel
theorem bkX3_ofSquare_63_64 : pb_chk cX3_ofSquare 63 [.lmul] = some 64 := by decide +kernel
theorem bkX3_ofSquare_64_71 : pb_chk cX3_ofSquare 64 [.lstore 8, .lload 6, .lload 6, .lmul] = some 71 := by decide +kernel
theorem dX3_ofSquare_71 : decode cX3_ofSquare 71 = .ok (.ldc2_w 69, 3) := by decide +kernel
theorem bkX3_ofSquare_74_81 : pb_chk cX3_ofSquare 74 [.lload 8, .lmul, .lload 4, .lmul, .lsub] = some 81 := by decide +kernel
theorem bkX3_ofSquare_81_87 : pb_chk cX3_ofSquare 81 [.lstore 10, .lload 10, .lconst 0, .lcmp] = some 87 := by decide +kernel
theorem dX3_ofSquare_87 : decode cX3_ofSquare 87 = .ok (.ifCond .ge 9, 3) := by decide +kernel
theorem bkX3_ofSquare_96_98 : pb_chk cX3_ofSquare 96 [.lload 10] = some 98 := by decide +kernel
theorem dX3_ofSquare_98 : decode cX3_ofSquare 98 = .ok (.invokestatic 71, 3) := by decide +kernel
theorem bkX3_ofSquare_101_111 : pb_chk cX3_ofSquare 101 [.lstore 12, .lload 12, .lload 12, .lmul, .lload 10, .lcmp] = some 111 := by decide +kernel
theorem dX3_ofSquare_111 : decode cX3_ofSquare 111 = .ok (.ifCond .eq 13, 3) := by decide +kernel
theorem bkX3_ofSquare_124_126 : pb_chk cX3_ofSquare 124 [.lload 8] = some 126 := by decide +kernel
theorem dX3_ofSquare_126 : decode cX3_ofSquare 126 = .ok (.invokestatic 53, 3) := by decide +kernel
theorem bkX3_ofSquare_129_141 : pb_chk cX3_ofSquare 129 [.istore 14, .lload 6, .lneg, .iload 14, .i2l, .lload 12, .lmul, .lsub] = some 141 := by decide +kernel
theorem dX3_ofSquare_141 : decode cX3_ofSquare 141 = .ok (.ldc2_w 77, 3) := by decide +kernel
theorem bkX3_ofSquare_144_147 : pb_chk cX3_ofSquare 144 [.lload 8, .lmul] = some 147 := by decide +kernel
theorem dX3_ofSquare_147 : decode cX3_ofSquare 147 = .ok (.invokestatic 65, 3) := by decide +kernel
theorem bkX3_ofSquare_150_156 : pb_chk cX3_ofSquare 150 [.astore 15, .lload 12, .lconst 0, .lcmp] = some 156 := by decide +kernel
theorem dX3_ofSquare_156 : decode cX3_ofSquare 156 = .ok (.ifCond .ne 37, 3) := by decide +kernel
theorem bkX3_ofSquare_193_203 : pb_chk cX3_ofSquare 193 [.lload 6, .lneg, .iload 14, .i2l, .lload 12, .lmul, .ladd] = some 203 := by decide +kernel
theorem dX3_ofSquare_203 : decode cX3_ofSquare 203 = .ok (.ldc2_w 77, 3) := by decide +kernel
theorem bkX3_ofSquare_206_209 : pb_chk cX3_ofSquare 206 [.lload 8, .lmul] = some 209 := by decide +kernel
theorem dX3_ofSquare_209 : decode cX3_ofSquare 209 = .ok (.invokestatic 65, 3) := by decide +kernel
theorem bkX3_ofSquare_212_214 : pb_chk cX3_ofSquare 212 [.astore 16] = some 214 := by decide +kernel
theorem dX3_ofSquare_214 : decode cX3_ofSquare 214 = .ok (.new 10, 3) := by decide +kernel
theorem bkX3_ofSquare_217_219 : pb_chk cX3_ofSquare 217 [.dup, .iconst 2] = some 219 := by decide +kernel
theorem dX3_ofSquare_219 : decode cX3_ofSquare 219 = .ok (.anewarray 44, 3) := by decide +kernel
theorem bkX3_ofSquare_222_226 : pb_chk cX3_ofSquare 222 [.dup, .iconst 0, .aload 15] = some 226 := by decide +kernel
theorem dX3_ofSquare_226 : decode cX3_ofSquare 226 = .ok (.aastore, 1) := by decide +kernel
theorem bkX3_ofSquare_227_231 : pb_chk cX3_ofSquare 227 [.dup, .iconst 1, .aload 16] = some 231 := by decide +kernel
theorem dX3_ofSquare_231 : decode cX3_ofSquare 231 = .ok (.aastore, 1) := by decide +kernel
theorem bkX3_ofSquare_232_233 : pb_chk cX3_ofSquare 232 [.iconst 5] = some 233 := by decide +kernel
theorem dX3_ofSquare_233 : decode cX3_ofSquare 233 = .ok (.newarray .int, 2) := by decide +kernel
theorem bkX3_ofSquare_235_239 : pb_chk cX3_ofSquare 235 [.dup, .iconst 0, .iload 14] = some 239 := by decide +kernel
theorem dX3_ofSquare_239 : decode cX3_ofSquare 239 = .ok (.iastore, 1) := by decide +kernel
theorem bkX3_ofSquare_240_243 : pb_chk cX3_ofSquare 240 [.dup, .iconst 1, .iconst 0] = some 243 := by decide +kernel
theorem dX3_ofSquare_243 : decode cX3_ofSquare 243 = .ok (.iastore, 1) := by decide +kernel
theorem bkX3_ofSquare_244_249 : pb_chk cX3_ofSquare 244 [.dup, .iconst 2, .iload 14, .ineg] = some 249 := by decide +kernel
theorem dX3_ofSquare_249 : decode cX3_ofSquare 249 = .ok (.iastore, 1) := by decide +kernel
theorem bkX3_ofSquare_250_253 : pb_chk cX3_ofSquare 250 [.dup, .iconst 3, .iconst 0] = some 253 := by decide +kernel
theorem dX3_ofSquare_253 : decode cX3_ofSquare 253 = .ok (.iastore, 1) := by decide +kernel
theorem bkX3_ofSquare_254_258 : pb_chk cX3_ofSquare 254 [.dup, .iconst 4, .iload 14] = some 258 := by decide +kernel
theorem dX3_ofSquare_258 : decode cX3_ofSquare 258 = .ok (.iastore, 1) := by decide +kernel
theorem dX3_ofSquare_259 : decode cX3_ofSquare 259 = .ok (.invokespecial 59, 3) := by decide +kernel
theorem dX3_ofSquare_262 : decode cX3_ofSquare 262 = .ok (.areturn, 1) := by decide +kernel
theorem dX3_ofSquare_159 : decode cX3_ofSquare 159 = .ok (.new 10, 3) := by decide +kernel
theorem bkX3_ofSquare_162_164 : pb_chk cX3_ofSquare 162 [.dup, .iconst 1] = some 164 := by decide +kernel
theorem dX3_ofSquare_164 : decode cX3_ofSquare 164 = .ok (.anewarray 44, 3) := by decide +kernel
theorem bkX3_ofSquare_167_171 : pb_chk cX3_ofSquare 167 [.dup, .iconst 0, .aload 15] = some 171 := by decide +kernel
theorem dX3_ofSquare_171 : decode cX3_ofSquare 171 = .ok (.aastore, 1) := by decide +kernel
theorem bkX3_ofSquare_172_173 : pb_chk cX3_ofSquare 172 [.iconst 3] = some 173 := by decide +kernel
theorem dX3_ofSquare_173 : decode cX3_ofSquare 173 = .ok (.newarray .int, 2) := by decide +kernel
theorem bkX3_ofSquare_175_179 : pb_chk cX3_ofSquare 175 [.dup, .iconst 0, .iload 14] = some 179 := by decide +kernel
theorem dX3_ofSquare_179 : decode cX3_ofSquare 179 = .ok (.iastore, 1) := by decide +kernel
theorem bkX3_ofSquare_180_183 : pb_chk cX3_ofSquare 180 [.dup, .iconst 1, .iconst 0] = some 183 := by decide +kernel
theorem dX3_ofSquare_183 : decode cX3_ofSquare 183 = .ok (.iastore, 1) := by decide +kernel
theorem bkX3_ofSquare_184_188 : pb_chk cX3_ofSquare 184 [.dup, .iconst 2, .iload 14] = some 188 := by decide +kernel
theorem dX3_ofSquare_188 : decode cX3_ofSquare 188 = .ok (.iastore, 1) := by decide +kernel
theorem dX3_ofSquare_189 : decode cX3_ofSquare 189 = .ok (.invokespecial 59, 3) := by decide +kernel
theorem dX3_ofSquare_192 : decode cX3_ofSquare 192 = .ok (.areturn, 1) := by decide +kernel
theorem dX3_ofSquare_114 : decode cX3_ofSquare 114 = .ok (.new 25, 3) := by decide +kernel
theorem dX3_ofSquare_117 : decode cX3_ofSquare 117 = .ok (.dup, 1) := by decide +kernel
theorem dX3_ofSquare_118 : decode cX3_ofSquare 118 = .ok (.ldc 75, 2) := by decide +kernel
theorem dX3_ofSquare_120 : decode cX3_ofSquare 120 = .ok (.invokespecial 29, 3) := by decide +kernel
theorem dX3_ofSquare_123 : decode cX3_ofSquare 123 = .ok (.athrow, 1) := by decide +kernel
theorem bkX3_ofSquare_90_92 : pb_chk cX3_ofSquare 90 [.lload 8] = some 92 := by decide +kernel
theorem dX3_ofSquare_92 : decode cX3_ofSquare 92 = .ok (.invokestatic 49, 3) := by decide +kernel
theorem dX3_ofSquare_95 : decode cX3_ofSquare 95 = .ok (.areturn, 1) := by decide +kernel
set_option maxHeartbeats 4000000 in
set_option maxRecDepth 100000 in
theorem c_X3_ofSquare (l : Launch) (hst : l.stackTraces = false) (G : Gm) (A : Nat → Prop) (q : Nat) (u : Nat → Rat) (hs : ∀ k, k < 4 → Sm (u k)) (hd : dgI u = 2) (h2 : u 2 ≠ 0) : Mx l yX3_ofSquare cX3_ofSquare 17 (some (.object "FormulaHouse$Signs")) (⟨6, 5, 13, 82⟩ : Room) G A (fun _ => False) [.ref q] (fun H => Fo G A H q u) (po_X3_ofSquare G A q u) (px_X3_ofSquare q u) := by
  refine of_metX (by decide) (Nat.le_of_ble_eq_true rfl) ?_
  intro p e s m below meth c ls B hT htb hA hf hl
  obtain ⟨fs9, ho⟩ := hf.ob
  refine pb_blk B.hx B.hb (lv' := [(0, .ref q)]) (st' := [.int 0, .ref q]) hl bkX3_ofSquare_0_2 rfl (fun ls hl => ?_)
  refine n_callV B (c_X0_fraction l G A q 0 u s.heap (by decide)) cy_X0_fraction im_X0_fraction se_X0_fraction wd_M_X3_39 rfl ho ⟨rfl, hf⟩ rfl hl.1 rfl (Nat.le_of_ble_eq_true rfl) ⟨by decide, by decide⟩ ⟨Nat.zero_le _, Nat.zero_le _⟩ dX3_ofSquare_2 (fun v hv => ?_)
  obtain ⟨x0, rfl, hx0⟩ := hv
  obtain ⟨nx0, dx0, ox0, fx0⟩ := id hx0
  obtain ⟨fs9, ho⟩ := hf.ob
  refine pb_blk B.hx B.hb (lv' := [(1, .ref x0), (0, .ref q)]) (st' := [.int 1, .ref q]) hl bkX3_ofSquare_5_8 rfl (fun ls hl => ?_)
  rw [show (1 : Int32) = nI 1 from rfl]
  refine n_callV B (c_X0_fraction l G A q 1 u s.heap (by decide)) cy_X0_fraction im_X0_fraction se_X0_fraction wd_M_X3_39 rfl ho ⟨rfl, hf⟩ rfl hl.1 rfl (Nat.le_of_ble_eq_true rfl) ⟨by decide, by decide⟩ ⟨Nat.zero_le _, Nat.zero_le _⟩ dX3_ofSquare_8 (fun v hv => ?_)
  obtain ⟨x1, rfl, hx1⟩ := hv
  obtain ⟨nx1, dx1, ox1, fx1⟩ := id hx1
  obtain ⟨fs9, ho⟩ := hf.ob
  refine pb_blk B.hx B.hb (lv' := [(2, .ref x1), (1, .ref x0), (0, .ref q)]) (st' := [.int 2, .ref q]) hl bkX3_ofSquare_11_14 rfl (fun ls hl => ?_)
  rw [show (2 : Int32) = nI 2 from rfl]
  refine n_callV B (c_X0_fraction l G A q 2 u s.heap (by decide)) cy_X0_fraction im_X0_fraction se_X0_fraction wd_M_X3_39 rfl ho ⟨rfl, hf⟩ rfl hl.1 rfl (Nat.le_of_ble_eq_true rfl) ⟨by decide, by decide⟩ ⟨Nat.zero_le _, Nat.zero_le _⟩ dX3_ofSquare_14 (fun v hv => ?_)
  obtain ⟨x2, rfl, hx2⟩ := hv
  obtain ⟨nx2, dx2, ox2, fx2⟩ := id hx2
  have b0 := sm_nat fx0 (hs 0 (by decide))
  have b1 := sm_nat fx1 (hs 1 (by decide))
  have b2 := sm_nat fx2 (hs 2 (by decide))
  refine pb_blk B.hx B.hb (lv' := [(3, .ref x2), (2, .ref x1), (1, .ref x0), (0, .ref q)]) (st' := [.ref x0]) hl bkX3_ofSquare_17_19 rfl (fun ls hl => ?_)
  refine z_get B ciX1 0 (by decide) ox0 wd_F_X3_43 rfl dX3_ofSquare_19 ?_
  refine pb_blk B.hx B.hb (lv' := [(3, .ref x2), (2, .ref x1), (1, .ref x0), (0, .ref q)]) (st' := [.ref x1, .long nx0]) hl bkX3_ofSquare_22_23 rfl (fun ls hl => ?_)
  refine z_get B ciX1 1 (by decide) ox1 wd_F_X3_62 rfl dX3_ofSquare_23 ?_
  refine pb_blk B.hx B.hb (lv' := [(3, .ref x2), (2, .ref x1), (1, .ref x0), (0, .ref q)]) (st' := [.ref x2, .long (nx0 * dx1)]) hl bkX3_ofSquare_26_28 rfl (fun ls hl => ?_)
  refine z_get B ciX1 1 (by decide) ox2 wd_F_X3_62 rfl dX3_ofSquare_28 ?_
  refine pb_blk B.hx B.hb (lv' := [(3, .ref x2), (2, .ref x1), (1, .ref x0), (0, .ref q)]) (st' := [.long ((nx0 * dx1) * dx2)]) hl bkX3_ofSquare_31_32 rfl (fun ls hl => ?_)
  obtain ⟨cL, hcL⟩ : ∃ z : Int64, z = nx0 * dx1 * dx2 := ⟨_, rfl⟩
  rw [← hcL]
  obtain ⟨ecL, lcL, mcL⟩ := mul3 (a := nx0) (b := dx1) (c := dx2) (by omega) (by omega) (by omega)
  rw [← hcL] at ecL lcL mcL
  rw [fx0.1, fx1.2, fx2.2] at ecL
  have ecL : cL.toInt = Cz u := ecL
  refine pb_blk B.hx B.hb (lv' := [(4, .long cL), (3, .ref x2), (2, .ref x1), (1, .ref x0), (0, .ref q)]) (st' := [.ref x1]) hl bkX3_ofSquare_32_35 rfl (fun ls hl => ?_)
  refine z_get B ciX1 0 (by decide) ox1 wd_F_X3_43 rfl dX3_ofSquare_35 ?_
  refine pb_blk B.hx B.hb (lv' := [(4, .long cL), (3, .ref x2), (2, .ref x1), (1, .ref x0), (0, .ref q)]) (st' := [.ref x0, .long nx1]) hl bkX3_ofSquare_38_39 rfl (fun ls hl => ?_)
  refine z_get B ciX1 1 (by decide) ox0 wd_F_X3_62 rfl dX3_ofSquare_39 ?_
  refine pb_blk B.hx B.hb (lv' := [(4, .long cL), (3, .ref x2), (2, .ref x1), (1, .ref x0), (0, .ref q)]) (st' := [.ref x2, .long (nx1 * dx0)]) hl bkX3_ofSquare_42_44 rfl (fun ls hl => ?_)
  refine z_get B ciX1 1 (by decide) ox2 wd_F_X3_62 rfl dX3_ofSquare_44 ?_
  refine pb_blk B.hx B.hb (lv' := [(4, .long cL), (3, .ref x2), (2, .ref x1), (1, .ref x0), (0, .ref q)]) (st' := [.long ((nx1 * dx0) * dx2)]) hl bkX3_ofSquare_47_48 rfl (fun ls hl => ?_)
  obtain ⟨bL, hbL⟩ : ∃ z : Int64, z = nx1 * dx0 * dx2 := ⟨_, rfl⟩
  rw [← hbL]
  obtain ⟨ebL, lbL, mbL⟩ := mul3 (a := nx1) (b := dx0) (c := dx2) (by omega) (by omega) (by omega)
  rw [← hbL] at ebL lbL mbL
  rw [fx1.1, fx0.2, fx2.2] at ebL
  have ebL : bL.toInt = Bz u := ebL
  refine pb_blk B.hx B.hb (lv' := [(6, .long bL), (4, .long cL), (3, .ref x2), (2, .ref x1), (1, .ref x0), (0, .ref q)]) (st' := [.ref x2]) hl bkX3_ofSquare_48_51 rfl (fun ls hl => ?_)
  refine z_get B ciX1 0 (by decide) ox2 wd_F_X3_43 rfl dX3_ofSquare_51 ?_
  refine pb_blk B.hx B.hb (lv' := [(6, .long bL), (4, .long cL), (3, .ref x2), (2, .ref x1), (1, .ref x0), (0, .ref q)]) (st' := [.ref x0, .long nx2]) hl bkX3_ofSquare_54_55 rfl (fun ls hl => ?_)
  refine z_get B ciX1 1 (by decide) ox0 wd_F_X3_62 rfl dX3_ofSquare_55 ?_
  refine pb_blk B.hx B.hb (lv' := [(6, .long bL), (4, .long cL), (3, .ref x2), (2, .ref x1), (1, .ref x0), (0, .ref q)]) (st' := [.ref x1, .long (nx2 * dx0)]) hl bkX3_ofSquare_58_60 rfl (fun ls hl => ?_)
  refine z_get B ciX1 1 (by decide) ox1 wd_F_X3_62 rfl dX3_ofSquare_60 ?_
  refine pb_blk B.hx B.hb (lv' := [(6, .long bL), (4, .long cL), (3, .ref x2), (2, .ref x1), (1, .ref x0), (0, .ref q)]) (st' := [.long ((nx2 * dx0) * dx1)]) hl bkX3_ofSquare_63_64 rfl (fun ls hl => ?_)
  obtain ⟨aL, haL⟩ : ∃ z : Int64, z = nx2 * dx0 * dx1 := ⟨_, rfl⟩
  rw [← haL]
  obtain ⟨eaL, laL, maL⟩ := mul3 (a := nx2) (b := dx0) (c := dx1) (by omega) (by omega) (by omega)
  rw [← haL] at eaL laL maL
  rw [fx2.1, fx0.2, fx1.2] at eaL
  have eaL : aL.toInt = Az u := eaL
  refine pb_blk B.hx B.hb (lv' := [(8, .long aL), (6, .long bL), (4, .long cL), (3, .ref x2), (2, .ref x1), (1, .ref x0), (0, .ref q)]) (st' := [.long (bL * bL)]) hl bkX3_ofSquare_64_71 rfl (fun ls hl => ?_)
  refine z_ldc2 B wd_L_X3_69 dX3_ofSquare_71 ?_
  refine pb_blk B.hx B.hb (lv' := [(8, .long aL), (6, .long bL), (4, .long cL), (3, .ref x2), (2, .ref x1), (1, .ref x0), (0, .ref q)]) (st' := [.long ((bL * bL) - ((4 * aL) * cL))]) hl bkX3_ofSquare_74_81 rfl (fun ls hl => ?_)
  obtain ⟨iL, hiL⟩ : ∃ z : Int64, z = bL * bL - 4 * aL * cL := ⟨_, rfl⟩
  rw [← hiL]
  obtain ⟨eiL, liL, miL⟩ := inn (by omega) (by omega) (by omega) hiL
  have eiL : iL.toInt = Iz u := by rw [eiL, eaL, ebL, ecL]; rfl
  have hA0 := az0 h2
  refine pb_blk B.hx B.hb (lv' := [(10, .long iL), (8, .long aL), (6, .long bL), (4, .long cL), (3, .ref x2), (2, .ref x1), (1, .ref x0), (0, .ref q)]) (st' := [.int (lg_cmp iL 0)]) hl bkX3_ofSquare_81_87 rfl (fun ls hl => ?_)
  refine lv_if_ge (tgt := 96) B.hx B.hb dX3_ofSquare_87 (by decide) (fun h1 => ?_) (fun h1 => ?_)
  · have hn : 0 ≤ iL.toInt := by have h9 := (lg_cmp_ge _ _).mp h1; rw [Int64.le_iff_toInt_le, Int64.toInt_zero] at h9; omega
    obtain ⟨sq, hsq, hsi⟩ : ∃ sq : Nat, iL = lN sq ∧ (sq : Int) = Iz u := ⟨(Iz u).toNat, i64_eq (by rw [pk_lT (by omega), eiL]; omega), by omega⟩
    have hsb : sq < 2 ^ 38 := by omega
    clear hiL eiL liL miL
    subst hsq
    refine pb_blk B.hx B.hb (lv' := [(10, .long (lN sq)), (8, .long aL), (6, .long bL), (4, .long cL), (3, .ref x2), (2, .ref x1), (1, .ref x0), (0, .ref q)]) (st' := [.long (lN sq)]) hl bkX3_ofSquare_96_98 rfl (fun ls hl => ?_)
    refine n_callS B (c_X3_wholeRoot l G A sq (by omega)) cy_X3_wholeRoot st_X3_wholeRoot wd_M_X3_71 trivial rfl hl.1 rfl (Nat.le_of_ble_eq_true rfl) ⟨by decide, by decide⟩ ⟨Nat.zero_le _, Nat.zero_le _⟩ dX3_ofSquare_98 (fun v hv => ?_)
    obtain ⟨r, rfl, hr1, hr2⟩ := hv
    have hrb : r < 2 ^ 20 := by rcases Nat.lt_or_ge r (2 ^ 20) with g | g; exact g; have := Nat.mul_le_mul g g; omega
    have hrr : r * r < 2 ^ 40 := by omega
    refine pb_blk B.hx B.hb (lv' := [(12, .long (lN r)), (10, .long (lN sq)), (8, .long aL), (6, .long bL), (4, .long cL), (3, .ref x2), (2, .ref x1), (1, .ref x0), (0, .ref q)]) (st' := [.int (lg_cmp ((lN r) * (lN r)) (lN sq))]) hl bkX3_ofSquare_101_111 rfl (fun ls hl => ?_)
    rw [lN_mul]
    refine lv_if_eq (tgt := 124) B.hx B.hb dX3_ofSquare_111 (by decide) (fun h3 => ?_) (fun h3 => ?_)
    · have hre : r * r = sq := (pk_lEQ (by omega) (by omega)).mp ((lg_cmp_eq _ _).mp h3)
      have hri : (r : Int) * r = Iz u := by rw [← hsi, ← hre, Int.natCast_mul]
      have hrho := yes_root (dz0 u) (iz_r u) hri
      obtain ⟨rho, hrd⟩ : ∃ z : Rat, z = ((r : Int) : Rat) / (Dz u : Rat) := ⟨_, rfl⟩
      rw [← hrd] at hrho
      have hr0 : 0 ≤ rho := by rw [hrd, Rat.div_def]; exact Rat.mul_nonneg (Rat.intCast_nonneg.mpr (by omega)) (Rat.le_of_lt (Rat.inv_pos.mpr (dz_pos u)))
      refine pb_blk B.hx B.hb (lv' := [(12, .long (lN r)), (10, .long (lN sq)), (8, .long aL), (6, .long bL), (4, .long cL), (3, .ref x2), (2, .ref x1), (1, .ref x0), (0, .ref q)]) (st' := [.long aL]) hl bkX3_ofSquare_124_126 rfl (fun ls hl => ?_)
      refine n_callS B (c_J13_signum_95d88 l G A aL (by omega)) cy_J13_signum_95d88 st_J13_signum_95d88 wd_M_X3_53 trivial rfl hl.1 rfl (Nat.le_of_ble_eq_true rfl) ⟨by decide, by decide⟩ ⟨Nat.zero_le _, Nat.zero_le _⟩ dX3_ofSquare_126 (fun v hv => ?_)
      rw [po_J13_signum_95d88, eaL, sg_az] at hv
      subst hv
      obtain ⟨x1e, x2e, x1b, x2b⟩ := sqx ebL (by omega) (sgZ_b (u 2).num) hrb
      have e2a : (2 * aL).toInt = 2 * Az u := by rw [two_a (by omega), eaL]
      refine pb_blk B.hx B.hb (lv' := [(14, .int (sgZ (u 2).num)), (12, .long (lN r)), (10, .long (lN sq)), (8, .long aL), (6, .long bL), (4, .long cL), (3, .ref x2), (2, .ref x1), (1, .ref x0), (0, .ref q)]) (st' := [.long ((-bL) - (((sgZ (u 2).num)).toInt64 * (lN r)))]) hl bkX3_ofSquare_129_141 rfl (fun ls hl => ?_)
      refine z_ldc2 B wd_L_X3_77 dX3_ofSquare_141 ?_
      refine pb_blk B.hx B.hb (lv' := [(14, .int (sgZ (u 2).num)), (12, .long (lN r)), (10, .long (lN sq)), (8, .long aL), (6, .long bL), (4, .long cL), (3, .ref x2), (2, .ref x1), (1, .ref x0), (0, .ref q)]) (st' := [.long (2 * aL), .long ((-bL) - (((sgZ (u 2).num)).toInt64 * (lN r)))]) hl bkX3_ofSquare_144_147 rfl (fun ls hl => ?_)
      refine z_callS B (c_X1_of l G A (-bL - (sgZ (u 2).num).toInt64 * lN r) (2 * aL) (by rw [x1e]; omega) (by rw [e2a]; omega) (by rw [e2a]; omega)) cy_X1_of st_X1_of wd_M_X3_65 hA trivial rfl hl.1 rfl (Nat.le_of_ble_eq_true rfl) ⟨by decide, by decide⟩ ⟨by decide, by decide⟩ dX3_ofSquare_147 (fun v H1 hE hv => ?_)
      obtain ⟨y1, rfl, hy1⟩ := hv
      have hp1 : Rat.divInt (-bL - (sgZ (u 2).num).toInt64 * lN r).toInt (2 * aL).toInt = pl1 u rho := by rw [x1e, e2a, hrd]; exact sq_place (dz0 u) h2 (az_r u) (bz_r u)
      rw [hp1] at hy1
      have hE1 := hE
      refine pb_blk B.hx B.hb (lv' := [(15, .ref y1), (14, .int (sgZ (u 2).num)), (12, .long (lN r)), (10, .long (lN sq)), (8, .long aL), (6, .long bL), (4, .long cL), (3, .ref x2), (2, .ref x1), (1, .ref x0), (0, .ref q)]) (st' := [.int (lg_cmp (lN r) 0)]) hl bkX3_ofSquare_150_156 rfl (fun ls hl => ?_)
      refine lv_if_ne (tgt := 193) B.hx B.hb dX3_ofSquare_156 (by decide) (fun h4 => ?_) (fun h4 => ?_)
      · have r0 : r ≠ 0 := fun q => h4 ((lg_cmp_eq _ _).mpr (by rw [q]; rfl))
        have rh0 : rho ≠ 0 := rho_ne (dz0 u) hrd r0
        refine pb_blk B.hx B.hb (lv' := [(15, .ref y1), (14, .int (sgZ (u 2).num)), (12, .long (lN r)), (10, .long (lN sq)), (8, .long aL), (6, .long bL), (4, .long cL), (3, .ref x2), (2, .ref x1), (1, .ref x0), (0, .ref q)]) (st' := [.long ((-bL) + (((sgZ (u 2).num)).toInt64 * (lN r)))]) hl bkX3_ofSquare_193_203 rfl (fun ls hl => ?_)
        refine z_ldc2 B wd_L_X3_77 dX3_ofSquare_203 ?_
        refine pb_blk B.hx B.hb (lv' := [(15, .ref y1), (14, .int (sgZ (u 2).num)), (12, .long (lN r)), (10, .long (lN sq)), (8, .long aL), (6, .long bL), (4, .long cL), (3, .ref x2), (2, .ref x1), (1, .ref x0), (0, .ref q)]) (st' := [.long (2 * aL), .long ((-bL) + (((sgZ (u 2).num)).toInt64 * (lN r)))]) hl bkX3_ofSquare_206_209 rfl (fun ls hl => ?_)
        refine z_callS B (c_X1_of l G A (-bL + (sgZ (u 2).num).toInt64 * lN r) (2 * aL) (by rw [x2e]; omega) (by rw [e2a]; omega) (by rw [e2a]; omega)) cy_X1_of st_X1_of wd_M_X3_65 (hA_up hA hE1.1) trivial rfl hl.1 rfl (Nat.le_of_ble_eq_true rfl) ⟨by decide, by decide⟩ ⟨by decide, by decide⟩ dX3_ofSquare_209 (fun v H2 hE hv => ?_)
        obtain ⟨y2, rfl, hy2⟩ := hv
        have hp2 : Rat.divInt (-bL + (sgZ (u 2).num).toInt64 * lN r).toInt (2 * aL).toInt = pl2 u rho := by rw [x2e, e2a, hrd]; exact sq_placeP (dz0 u) h2 (az_r u) (bz_r u)
        rw [hp2] at hy2
        have hE2 := hE1.trans hE
        have hy1 := hy1.mv (hE.mv A)
        refine pb_blk B.hx B.hb (lv' := [(16, .ref y2), (15, .ref y1), (14, .int (sgZ (u 2).num)), (12, .long (lN r)), (10, .long (lN sq)), (8, .long aL), (6, .long bL), (4, .long cL), (3, .ref x2), (2, .ref x1), (1, .ref x0), (0, .ref q)]) (st' := []) hl bkX3_ofSquare_212_214 rfl (fun ls hl => ?_)
        refine z_new B ciX3 wd_C_X3_10 hfs_X3 (by (try dsimp only); omega) (by (try dsimp only); omega) dX3_ofSquare_214 (fun K1 obK kz1 ko1 => ?_)
        refine pb_blk B.hx B.hb (lv' := [(16, .ref y2), (15, .ref y1), (14, .int (sgZ (u 2).num)), (12, .long (lN r)), (10, .long (lN sq)), (8, .long aL), (6, .long bL), (4, .long cL), (3, .ref x2), (2, .ref x1), (1, .ref x0), (0, .ref q)]) (st' := [.int 2, .ref H2.size, .ref H2.size]) hl bkX3_ofSquare_217_219 rfl (fun ls hl => ?_)
        refine z_newq B 3 rfl wd_C_X3_44 B.hK.2.ao1 (by decide) (N := 2) (by decide) (by decide) (by (try dsimp only); omega) (by (try dsimp only); omega) dX3_ofSquare_219 (fun K2 kw2 kz2 ko2 => ?_)
        refine pb_blk B.hx B.hb (lv' := [(16, .ref y2), (15, .ref y1), (14, .int (sgZ (u 2).num)), (12, .long (lN r)), (10, .long (lN sq)), (8, .long aL), (6, .long bL), (4, .long cL), (3, .ref x2), (2, .ref x1), (1, .ref x0), (0, .ref q)]) (st' := [.ref y1, .int 0, .ref K1.size, .ref K1.size, .ref H2.size, .ref H2.size]) hl bkX3_ofSquare_222_226 rfl (fun ls hl => ?_)
        have hxk0 : Fr G A K2 y1 _ := (hy1).mv (Ex.mv (⟨by omega, fun q hq => (ko2 q (by omega)).trans (ko1 q (by omega))⟩ : Ex H2 K2) A)
        obtain ⟨nu0, de0, obx0, -⟩ := id hxk0
        refine z_aastF B kw2 obx0 (vp_in_nI (show 0 < 2 by decide) (by decide)) dX3_ofSquare_226 (fun K3 kw3 kz3 ko3 => ?_)
        refine z_forget (by (try dsimp only); have := (hE2).1; omega) ?_
        refine pb_blk B.hx B.hb (lv' := [(16, .ref y2), (15, .ref y1), (14, .int (sgZ (u 2).num)), (12, .long (lN r)), (10, .long (lN sq)), (8, .long aL), (6, .long bL), (4, .long cL), (3, .ref x2), (2, .ref x1), (1, .ref x0), (0, .ref q)]) (st' := [.ref y2, .int 1, .ref K1.size, .ref K1.size, .ref H2.size, .ref H2.size]) hl bkX3_ofSquare_227_231 rfl (fun ls hl => ?_)
        have hxk1 : Fr G A K3 y2 _ := (hy2).mv (Ex.mv (⟨by omega, fun q hq => (ko3 q (by omega)).trans ((ko2 q (by omega)).trans (ko1 q (by omega)))⟩ : Ex H2 K3) A)
        obtain ⟨nu1, de1, obx1, -⟩ := id hxk1
        refine z_aastF B kw3 obx1 (vp_in_nI (show 1 < 2 by decide) (by decide)) dX3_ofSquare_231 (fun K4 kw4 kz4 ko4 => ?_)
        refine z_forget (by (try dsimp only); have := (hE2).1; omega) ?_
        refine pb_blk B.hx B.hb (lv' := [(16, .ref y2), (15, .ref y1), (14, .int (sgZ (u 2).num)), (12, .long (lN r)), (10, .long (lN sq)), (8, .long aL), (6, .long bL), (4, .long cL), (3, .ref x2), (2, .ref x1), (1, .ref x0), (0, .ref q)]) (st' := [.int 5, .ref K1.size, .ref H2.size, .ref H2.size]) hl bkX3_ofSquare_232_233 rfl (fun ls hl => ?_)
        refine z_newa (atype := .int) (ty := .int) B 0 rfl rfl id wa_I (by decide) (N := 5) (by decide) (by decide) (by (try dsimp only); omega) (by (try dsimp only); omega) dX3_ofSquare_233 (fun K5 kw5 kz5 ko5 => ?_)
        refine pb_blk B.hx B.hb (lv' := [(16, .ref y2), (15, .ref y1), (14, .int (sgZ (u 2).num)), (12, .long (lN r)), (10, .long (lN sq)), (8, .long aL), (6, .long bL), (4, .long cL), (3, .ref x2), (2, .ref x1), (1, .ref x0), (0, .ref q)]) (st' := [.int (sgZ (u 2).num), .int 0, .ref K4.size, .ref K4.size, .ref K1.size, .ref H2.size, .ref H2.size]) hl bkX3_ofSquare_235_239 rfl (fun ls hl => ?_)
        refine z_iast B kw5 (vp_in_nI (show 0 < 5 by decide) (by decide)) dX3_ofSquare_239 (fun K6 kw6 kz6 ko6 => ?_)
        refine z_forget (by (try dsimp only); have := (hE2).1; omega) ?_
        refine pb_blk B.hx B.hb (lv' := [(16, .ref y2), (15, .ref y1), (14, .int (sgZ (u 2).num)), (12, .long (lN r)), (10, .long (lN sq)), (8, .long aL), (6, .long bL), (4, .long cL), (3, .ref x2), (2, .ref x1), (1, .ref x0), (0, .ref q)]) (st' := [.int 0, .int 1, .ref K4.size, .ref K4.size, .ref K1.size, .ref H2.size, .ref H2.size]) hl bkX3_ofSquare_240_243 rfl (fun ls hl => ?_)
        refine z_iast B kw6 (vp_in_nI (show 1 < 5 by decide) (by decide)) dX3_ofSquare_243 (fun K7 kw7 kz7 ko7 => ?_)
        refine z_forget (by (try dsimp only); have := (hE2).1; omega) ?_
        refine pb_blk B.hx B.hb (lv' := [(16, .ref y2), (15, .ref y1), (14, .int (sgZ (u 2).num)), (12, .long (lN r)), (10, .long (lN sq)), (8, .long aL), (6, .long bL), (4, .long cL), (3, .ref x2), (2, .ref x1), (1, .ref x0), (0, .ref q)]) (st' := [.int (-(sgZ (u 2).num)), .int 2, .ref K4.size, .ref K4.size, .ref K1.size, .ref H2.size, .ref H2.size]) hl bkX3_ofSquare_244_249 rfl (fun ls hl => ?_)
        refine z_iast B kw7 (vp_in_nI (show 2 < 5 by decide) (by decide)) dX3_ofSquare_249 (fun K8 kw8 kz8 ko8 => ?_)
        refine z_forget (by (try dsimp only); have := (hE2).1; omega) ?_
        refine pb_blk B.hx B.hb (lv' := [(16, .ref y2), (15, .ref y1), (14, .int (sgZ (u 2).num)), (12, .long (lN r)), (10, .long (lN sq)), (8, .long aL), (6, .long bL), (4, .long cL), (3, .ref x2), (2, .ref x1), (1, .ref x0), (0, .ref q)]) (st' := [.int 0, .int 3, .ref K4.size, .ref K4.size, .ref K1.size, .ref H2.size, .ref H2.size]) hl bkX3_ofSquare_250_253 rfl (fun ls hl => ?_)
        refine z_iast B kw8 (vp_in_nI (show 3 < 5 by decide) (by decide)) dX3_ofSquare_253 (fun K9 kw9 kz9 ko9 => ?_)
        refine z_forget (by (try dsimp only); have := (hE2).1; omega) ?_
        refine pb_blk B.hx B.hb (lv' := [(16, .ref y2), (15, .ref y1), (14, .int (sgZ (u 2).num)), (12, .long (lN r)), (10, .long (lN sq)), (8, .long aL), (6, .long bL), (4, .long cL), (3, .ref x2), (2, .ref x1), (1, .ref x0), (0, .ref q)]) (st' := [.int (sgZ (u 2).num), .int 4, .ref K4.size, .ref K4.size, .ref K1.size, .ref H2.size, .ref H2.size]) hl bkX3_ofSquare_254_258 rfl (fun ls hl => ?_)
        refine z_iast B kw9 (vp_in_nI (show 4 < 5 by decide) (by decide)) dX3_ofSquare_258 (fun K10 kw10 kz10 ko10 => ?_)
        refine z_forget (by (try dsimp only); have := (hE2).1; omega) ?_
        have obc := (((((((((obK).kept (q := (H2.size, _)) (ko2 H2.size (by omega))).kept (q := (H2.size, _)) (ko3 H2.size (by omega))).kept (q := (H2.size, _)) (ko4 H2.size (by omega))).kept (q := (H2.size, _)) (ko5 H2.size (by omega))).kept (q := (H2.size, _)) (ko6 H2.size (by omega))).kept (q := (H2.size, _)) (ko7 H2.size (by omega))).kept (q := (H2.size, _)) (ko8 H2.size (by omega))).kept (q := (H2.size, _)) (ko9 H2.size (by omega))).kept (q := (H2.size, _)) (ko10 H2.size (by omega))
        have hla := fun (j : Nat) (h : j < H2.size) => h
        have hEc : Ex H2 K10 := ⟨by omega, fun q hq => (ko10 q (by omega)).trans ((ko9 q (by omega)).trans ((ko8 q (by omega)).trans ((ko7 q (by omega)).trans ((ko6 q (by omega)).trans ((ko5 q (by omega)).trans ((ko4 q (by omega)).trans ((ko3 q (by omega)).trans ((ko2 q (by omega)).trans (ko1 q (by omega))))))))))⟩
        have hxe0 := ((hy1).mv Mv.grow).mv (hEc.mv (Aq A H2.size))
        have hxe1 := ((hy2).mv Mv.grow).mv (hEc.mv (Aq A H2.size))
        have hrw : RowF G (Aq A H2.size) K10 K1.size 2 (fun k => if k = 0 then pl1 u rho else pl2 u rho) := ⟨_, ⟨aq_no hA (by have := (hE2).1; omega) (by omega), (ko10 K1.size (by omega)).trans ((ko9 K1.size (by omega)).trans ((ko8 K1.size (by omega)).trans ((ko7 K1.size (by omega)).trans ((ko6 K1.size (by omega)).trans ((ko5 K1.size (by omega)).trans (kw4))))))⟩, fun k hk => by
          rcases (show k = 0 ∨ k = 1 by omega) with rfl | rfl
          · exact ⟨_, rfl, hxe0⟩
          · exact ⟨_, rfl, hxe1⟩⟩
        have hsi2 : IrP G (Aq A H2.size) K10 K4.size (2 * 2 + 1) (sq5 (sgZ (u 2).num)) := ⟨_, ⟨aq_no hA (by have := (hE2).1; omega) (by omega), kw10⟩, fun j hj => by
          rcases (show j = 0 ∨ j = 1 ∨ j = 2 ∨ j = 3 ∨ j = 4 by omega) with rfl | rfl | rfl | rfl | rfl <;> rfl⟩
        refine z_ctor B (c_X3_init l G (fun _ => False) H2.size K1.size K4.size) cy_X3_init im_X3_init rfl wd_M_X3_59 (hE2).1 (fun _ h => h.elim) obc rfl hl.1 rfl (Nat.le_of_ble_eq_true rfl) ⟨by decide, by decide⟩ ⟨(by (try dsimp only); omega), (by (try dsimp only); omega)⟩ dX3_ofSquare_259 (fun Kz zz oz obz => ?_)
        have hEz : Ex s.heap Kz := (hE2).trans ⟨by omega, fun q hq => (oz q (by omega)).trans ((ko10 q (by omega)).trans ((ko9 q (by omega)).trans ((ko8 q (by omega)).trans ((ko7 q (by omega)).trans ((ko6 q (by omega)).trans ((ko5 q (by omega)).trans ((ko4 q (by omega)).trans ((ko3 q (by omega)).trans ((ko2 q (by omega)).trans (ko1 q (by omega)))))))))))⟩
        exact x_aret B (Or.inl ⟨_, rfl⟩) dX3_ofSquare_262 (hEz.mv _) ⟨_, 2, _, _, rfl, Or.inr (Or.inr (Or.inr ⟨hd, rho, hr0, hrho, Or.inr ⟨rh0, rfl, rfl, rfl⟩⟩)), sg_post hrw hsi2 zz oz (hA_no hA hE2.1) obz⟩ (fun _ h => nomatch h) (by (try dsimp only); omega) (by (try dsimp only); omega)
      · have r0 : r = 0 := (pk_lEQ (by omega) (by decide)).mp ((lg_cmp_eq _ _).mp h4)
        have rh0 : rho = 0 := by rw [hrd, r0]; exact Rat.zero_mul _
        refine z_new B ciX3 wd_C_X3_10 hfs_X3 (by (try dsimp only); omega) (by (try dsimp only); omega) dX3_ofSquare_159 (fun K1 obK kz1 ko1 => ?_)
        refine pb_blk B.hx B.hb (lv' := [(15, .ref y1), (14, .int (sgZ (u 2).num)), (12, .long (lN r)), (10, .long (lN sq)), (8, .long aL), (6, .long bL), (4, .long cL), (3, .ref x2), (2, .ref x1), (1, .ref x0), (0, .ref q)]) (st' := [.int 1, .ref H1.size, .ref H1.size]) hl bkX3_ofSquare_162_164 rfl (fun ls hl => ?_)
        refine z_newq B 3 rfl wd_C_X3_44 B.hK.2.ao1 (by decide) (N := 1) (by decide) (by decide) (by (try dsimp only); omega) (by (try dsimp only); omega) dX3_ofSquare_164 (fun K2 kw2 kz2 ko2 => ?_)
        refine pb_blk B.hx B.hb (lv' := [(15, .ref y1), (14, .int (sgZ (u 2).num)), (12, .long (lN r)), (10, .long (lN sq)), (8, .long aL), (6, .long bL), (4, .long cL), (3, .ref x2), (2, .ref x1), (1, .ref x0), (0, .ref q)]) (st' := [.ref y1, .int 0, .ref K1.size, .ref K1.size, .ref H1.size, .ref H1.size]) hl bkX3_ofSquare_167_171 rfl (fun ls hl => ?_)
        have hxk0 : Fr G A K2 y1 _ := (hy1).mv (Ex.mv (⟨by omega, fun q hq => (ko2 q (by omega)).trans (ko1 q (by omega))⟩ : Ex H1 K2) A)
        obtain ⟨nu0, de0, obx0, -⟩ := id hxk0
        refine z_aastF B kw2 obx0 (vp_in_nI (show 0 < 1 by decide) (by decide)) dX3_ofSquare_171 (fun K3 kw3 kz3 ko3 => ?_)
        refine z_forget (by (try dsimp only); have := (hE1).1; omega) ?_
        refine pb_blk B.hx B.hb (lv' := [(15, .ref y1), (14, .int (sgZ (u 2).num)), (12, .long (lN r)), (10, .long (lN sq)), (8, .long aL), (6, .long bL), (4, .long cL), (3, .ref x2), (2, .ref x1), (1, .ref x0), (0, .ref q)]) (st' := [.int 3, .ref K1.size, .ref H1.size, .ref H1.size]) hl bkX3_ofSquare_172_173 rfl (fun ls hl => ?_)
        refine z_newa (atype := .int) (ty := .int) B 0 rfl rfl id wa_I (by decide) (N := 3) (by decide) (by decide) (by (try dsimp only); omega) (by (try dsimp only); omega) dX3_ofSquare_173 (fun K4 kw4 kz4 ko4 => ?_)
        refine pb_blk B.hx B.hb (lv' := [(15, .ref y1), (14, .int (sgZ (u 2).num)), (12, .long (lN r)), (10, .long (lN sq)), (8, .long aL), (6, .long bL), (4, .long cL), (3, .ref x2), (2, .ref x1), (1, .ref x0), (0, .ref q)]) (st' := [.int (sgZ (u 2).num), .int 0, .ref K3.size, .ref K3.size, .ref K1.size, .ref H1.size, .ref H1.size]) hl bkX3_ofSquare_175_179 rfl (fun ls hl => ?_)
        refine z_iast B kw4 (vp_in_nI (show 0 < 3 by decide) (by decide)) dX3_ofSquare_179 (fun K5 kw5 kz5 ko5 => ?_)
        refine z_forget (by (try dsimp only); have := (hE1).1; omega) ?_
        refine pb_blk B.hx B.hb (lv' := [(15, .ref y1), (14, .int (sgZ (u 2).num)), (12, .long (lN r)), (10, .long (lN sq)), (8, .long aL), (6, .long bL), (4, .long cL), (3, .ref x2), (2, .ref x1), (1, .ref x0), (0, .ref q)]) (st' := [.int 0, .int 1, .ref K3.size, .ref K3.size, .ref K1.size, .ref H1.size, .ref H1.size]) hl bkX3_ofSquare_180_183 rfl (fun ls hl => ?_)
        refine z_iast B kw5 (vp_in_nI (show 1 < 3 by decide) (by decide)) dX3_ofSquare_183 (fun K6 kw6 kz6 ko6 => ?_)
        refine z_forget (by (try dsimp only); have := (hE1).1; omega) ?_
        refine pb_blk B.hx B.hb (lv' := [(15, .ref y1), (14, .int (sgZ (u 2).num)), (12, .long (lN r)), (10, .long (lN sq)), (8, .long aL), (6, .long bL), (4, .long cL), (3, .ref x2), (2, .ref x1), (1, .ref x0), (0, .ref q)]) (st' := [.int (sgZ (u 2).num), .int 2, .ref K3.size, .ref K3.size, .ref K1.size, .ref H1.size, .ref H1.size]) hl bkX3_ofSquare_184_188 rfl (fun ls hl => ?_)
        refine z_iast B kw6 (vp_in_nI (show 2 < 3 by decide) (by decide)) dX3_ofSquare_188 (fun K7 kw7 kz7 ko7 => ?_)
        refine z_forget (by (try dsimp only); have := (hE1).1; omega) ?_
        have obc := ((((((obK).kept (q := (H1.size, _)) (ko2 H1.size (by omega))).kept (q := (H1.size, _)) (ko3 H1.size (by omega))).kept (q := (H1.size, _)) (ko4 H1.size (by omega))).kept (q := (H1.size, _)) (ko5 H1.size (by omega))).kept (q := (H1.size, _)) (ko6 H1.size (by omega))).kept (q := (H1.size, _)) (ko7 H1.size (by omega))
        have hla := fun (j : Nat) (h : j < H1.size) => h
        have hEc : Ex H1 K7 := ⟨by omega, fun q hq => (ko7 q (by omega)).trans ((ko6 q (by omega)).trans ((ko5 q (by omega)).trans ((ko4 q (by omega)).trans ((ko3 q (by omega)).trans ((ko2 q (by omega)).trans (ko1 q (by omega)))))))⟩
        have hxe0 := ((hy1).mv Mv.grow).mv (hEc.mv (Aq A H1.size))
        have hrw : RowF G (Aq A H1.size) K7 K1.size 1 (fun _ => pl1 u rho) := ⟨_, ⟨aq_no hA (by have := (hE1).1; omega) (by omega), (ko7 K1.size (by omega)).trans ((ko6 K1.size (by omega)).trans ((ko5 K1.size (by omega)).trans ((ko4 K1.size (by omega)).trans (kw3))))⟩, fun k hk => by
          rw [show k = 0 by omega]; exact ⟨_, rfl, hxe0⟩⟩
        have hsi2 : IrP G (Aq A H1.size) K7 K3.size (2 * 1 + 1) (sq3 (sgZ (u 2).num)) := ⟨_, ⟨aq_no hA (by have := (hE1).1; omega) (by omega), kw7⟩, fun j hj => by
          rcases (show j = 0 ∨ j = 1 ∨ j = 2 by omega) with rfl | rfl | rfl <;> rfl⟩
        refine z_ctor B (c_X3_init l G (fun _ => False) H1.size K1.size K3.size) cy_X3_init im_X3_init rfl wd_M_X3_59 (hE1).1 (fun _ h => h.elim) obc rfl hl.1 rfl (Nat.le_of_ble_eq_true rfl) ⟨by decide, by decide⟩ ⟨(by (try dsimp only); omega), (by (try dsimp only); omega)⟩ dX3_ofSquare_189 (fun Kz zz oz obz => ?_)
        have hEz : Ex s.heap Kz := (hE1).trans ⟨by omega, fun q hq => (oz q (by omega)).trans ((ko7 q (by omega)).trans ((ko6 q (by omega)).trans ((ko5 q (by omega)).trans ((ko4 q (by omega)).trans ((ko3 q (by omega)).trans ((ko2 q (by omega)).trans (ko1 q (by omega))))))))⟩
        exact x_aret B (Or.inl ⟨_, rfl⟩) dX3_ofSquare_192 (hEz.mv _) ⟨_, 1, _, _, rfl, Or.inr (Or.inr (Or.inr ⟨hd, rho, hr0, hrho, Or.inl ⟨rh0, rfl, rfl, rfl⟩⟩)), sg_post hrw hsi2 zz oz (hA_no hA hE1.1) obz⟩ (fun _ h => nomatch h) (by (try dsimp only); omega) (by (try dsimp only); omega)
    · have hne : r * r ≠ sq := fun q => h3 ((lg_cmp_eq _ _).mpr (by rw [q]))
      exact x_throw B hst hT htb ts_X3_75 Ex.rf hl.1 dX3_ofSquare_114 dX3_ofSquare_117 dX3_ofSquare_118 dX3_ofSquare_120 dX3_ofSquare_123 ⟨by decide, by decide⟩ ⟨by decide, by decide⟩ (⟨rfl, Or.inr ⟨hd, Rat.not_lt.mp (fun q => absurd ((iz_neg u).mpr q) (by omega)), no_root (r := r) (iz_r u) (by rw [← Int.natCast_mul]; omega) (by rw [← hsi]; exact sq1 hr2) (by rw [← Int.natCast_mul]; omega)⟩⟩) ⟨by decide, by decide⟩
  · have hn : iL.toInt < 0 := by have h9 : ¬ (0 : Int64) ≤ iL := fun q => h1 ((lg_cmp_ge _ _).mpr q); rw [Int64.le_iff_toInt_le, Int64.toInt_zero] at h9; omega
    refine pb_blk B.hx B.hb (lv' := [(10, .long iL), (8, .long aL), (6, .long bL), (4, .long cL), (3, .ref x2), (2, .ref x1), (1, .ref x0), (0, .ref q)]) (st' := [.long aL]) hl bkX3_ofSquare_90_92 rfl (fun ls hl => ?_)
    refine z_callS B (c_X3_ofFlat l G A aL (by omega)) cy_X3_ofFlat st_X3_ofFlat wd_M_X3_49 hA trivial rfl hl.1 rfl (Nat.le_of_ble_eq_true rfl) ⟨by decide, by decide⟩ ⟨by decide, by decide⟩ dX3_ofSquare_92 (fun v H1 hE hv => ?_)
    obtain ⟨q2, rfl, hq2⟩ := hv; rw [eaL, sg_az] at hq2
    exact x_aret B (Or.inl ⟨_, rfl⟩) dX3_ofSquare_95 (hE.mv _) ⟨q2, 0, _, _, rfl, Or.inr (Or.inr (Or.inl ⟨hd, (iz_neg u).mp (by rw [← eiL]; exact hn), rfl, rfl, rfl⟩)), hq2⟩ (fun _ h => nomatch h) (by (try dsimp only); omega) (by (try dsimp only); omega)

theorem dgI_5 (u : Nat → Rat) : dgI u = 3 ∨ dgI u = 2 ∨ dgI u = 1 ∨ dgI u = 0 ∨ dgI u = -1 := by
  unfold dgI
  split
  · exact Or.inl rfl
  · split
    · exact Or.inr (Or.inl rfl)
    · split
      · exact Or.inr (Or.inr (Or.inl rfl))
      · split
        · exact Or.inr (Or.inr (Or.inr (Or.inl rfl)))
        · exact Or.inr (Or.inr (Or.inr (Or.inr rfl)))
theorem dgI_2 {u : Nat → Rat} (h : dgI u = 2) : u 2 ≠ 0 := fun e => by
  unfold dgI at h
  by_cases h3 : u 3 ≠ 0
  · rw [if_pos h3] at h; exact absurd h (by decide)
  · rw [if_neg h3, if_neg (by simp [e])] at h
    by_cases h1 : u 1 ≠ 0
    · rw [if_pos h1] at h; exact absurd h (by decide)
    · rw [if_neg h1] at h
      by_cases h0 : u 0 ≠ 0
      · rw [if_pos h0] at h; exact absurd h (by decide)
      · rw [if_neg h0] at h; exact absurd h (by decide)
theorem dgI_1 {u : Nat → Rat} (h : dgI u = 1) : u 1 ≠ 0 := fun e => by
  unfold dgI at h
  by_cases h3 : u 3 ≠ 0
  · rw [if_pos h3] at h; exact absurd h (by decide)
  · rw [if_neg h3] at h
    by_cases h2 : u 2 ≠ 0
    · rw [if_pos h2] at h; exact absurd h (by decide)
    · rw [if_neg h2, if_neg (by simp [e])] at h
      by_cases h0 : u 0 ≠ 0
      · rw [if_pos h0] at h; exact absurd h (by decide)
      · rw [if_neg h0] at h; exact absurd h (by decide)

def po_X3_told (G : Gm) (A : Nat → Prop) (q : Nat) (u : Nat → Rat) : Option Value → Heap → Prop := fun v H => ∃ q2 n pt sg, v = some (.ref q2) ∧ TellR u n pt sg ∧ Sg G A H q2 n pt sg
def px_X3_told (q : Nat) (u : Nat → Rat) : String → Prop := fun E => E = eIS ∧ NoTell u
theorem bkX3_told_0_1 : pb_chk cX3_told 0 [.aload_n 0] = some 1 := by decide +kernel
theorem dX3_told_1 : decode cX3_told 1 = .ok (.getfield 19, 3) := by decide +kernel
theorem bkX3_told_4_5 : pb_chk cX3_told 4 [.iconst 2] = some 5 := by decide +kernel
theorem dX3_told_5 : decode cX3_told 5 = .ok (.if_icmp .le 13, 3) := by decide +kernel
theorem bkX3_told_18_19 : pb_chk cX3_told 18 [.aload_n 0] = some 19 := by decide +kernel
theorem dX3_told_19 : decode cX3_told 19 = .ok (.getfield 19, 3) := by decide +kernel
theorem bkX3_told_22_23 : pb_chk cX3_told 22 [.iconst 2] = some 23 := by decide +kernel
theorem dX3_told_23 : decode cX3_told 23 = .ok (.if_icmp .ne 8, 3) := by decide +kernel
theorem bkX3_told_31_32 : pb_chk cX3_told 31 [.aload_n 0] = some 32 := by decide +kernel
theorem dX3_told_32 : decode cX3_told 32 = .ok (.getfield 19, 3) := by decide +kernel
theorem bkX3_told_35_36 : pb_chk cX3_told 35 [.iconst 1] = some 36 := by decide +kernel
theorem dX3_told_36 : decode cX3_told 36 = .ok (.if_icmp .ne 10, 3) := by decide +kernel
theorem bkX3_told_46_48 : pb_chk cX3_told 46 [.aload_n 0, .iconst 0] = some 48 := by decide +kernel
theorem dX3_told_48 : decode cX3_told 48 = .ok (.invokevirtual 39, 3) := by decide +kernel
theorem dX3_told_51 : decode cX3_told 51 = .ok (.getfield 43, 3) := by decide +kernel
theorem dX3_told_54 : decode cX3_told 54 = .ok (.invokestatic 49, 3) := by decide +kernel
theorem dX3_told_57 : decode cX3_told 57 = .ok (.areturn, 1) := by decide +kernel
theorem bkX3_told_39_40 : pb_chk cX3_told 39 [.aload_n 0] = some 40 := by decide +kernel
theorem dX3_told_40 : decode cX3_told 40 = .ok (.invokestatic 36, 3) := by decide +kernel
theorem bkX3_told_43_57 : pb_chk cX3_told 43 [.goto 14] = some 57 := by decide +kernel
theorem bkX3_told_26_27 : pb_chk cX3_told 26 [.aload_n 0] = some 27 := by decide +kernel
theorem dX3_told_27 : decode cX3_told 27 = .ok (.invokestatic 32, 3) := by decide +kernel
theorem dX3_told_30 : decode cX3_told 30 = .ok (.areturn, 1) := by decide +kernel
theorem dX3_told_8 : decode cX3_told 8 = .ok (.new 25, 3) := by decide +kernel
theorem dX3_told_11 : decode cX3_told 11 = .ok (.dup, 1) := by decide +kernel
theorem dX3_told_12 : decode cX3_told 12 = .ok (.ldc 27, 2) := by decide +kernel
theorem dX3_told_14 : decode cX3_told 14 = .ok (.invokespecial 29, 3) := by decide +kernel
theorem dX3_told_17 : decode cX3_told 17 = .ok (.athrow, 1) := by decide +kernel
set_option maxHeartbeats 4000000 in
set_option maxRecDepth 100000 in
theorem c_X3_told (l : Launch) (hst : l.stackTraces = false) (G : Gm) (A : Nat → Prop) (q : Nat) (u : Nat → Rat) (hs : ∀ k, k < 4 → Sm (u k)) : Mx l yX3_told cX3_told 1 (some (.object "FormulaHouse$Signs")) (⟨7, 5, 13, 118⟩ : Room) G A (fun _ => False) [.ref q] (fun H => Fo G A H q u) (po_X3_told G A q u) (px_X3_told q u) := by
  refine of_metX (by decide) (Nat.le_of_ble_eq_true rfl) ?_
  intro p e s m below meth c ls B hT htb hA hf hl
  obtain ⟨ra, ob, -⟩ := id hf
  refine pb_blk B.hx B.hb (lv' := [(0, .ref q)]) (st' := [.ref q]) hl bkX3_told_0_1 rfl (fun ls hl => ?_)
  refine z_get B ciX0 1 (by decide) ob wd_F_X3_19 rfl dX3_told_1 ?_
  refine pb_blk B.hx B.hb (lv' := [(0, .ref q)]) (st' := [.int 2, .int (dgI u)]) hl bkX3_told_4_5 rfl (fun ls hl => ?_)
  refine lv_icmp_le (tgt := 18) B.hx B.hb dX3_told_5 (by decide) (fun h1 => ?_) (fun h1 => ?_)
  · refine pb_blk B.hx B.hb (lv' := [(0, .ref q)]) (st' := [.ref q]) hl bkX3_told_18_19 rfl (fun ls hl => ?_)
    refine z_get B ciX0 1 (by decide) ob wd_F_X3_19 rfl dX3_told_19 ?_
    refine pb_blk B.hx B.hb (lv' := [(0, .ref q)]) (st' := [.int 2, .int (dgI u)]) hl bkX3_told_22_23 rfl (fun ls hl => ?_)
    refine lv_icmp_ne (tgt := 31) B.hx B.hb dX3_told_23 (by decide) (fun h2 => ?_) (fun h2 => ?_)
    · refine pb_blk B.hx B.hb (lv' := [(0, .ref q)]) (st' := [.ref q]) hl bkX3_told_31_32 rfl (fun ls hl => ?_)
      refine z_get B ciX0 1 (by decide) ob wd_F_X3_19 rfl dX3_told_32 ?_
      refine pb_blk B.hx B.hb (lv' := [(0, .ref q)]) (st' := [.int 1, .int (dgI u)]) hl bkX3_told_35_36 rfl (fun ls hl => ?_)
      refine lv_icmp_ne (tgt := 46) B.hx B.hb dX3_told_36 (by decide) (fun h3 => ?_) (fun h3 => ?_)
      · obtain ⟨fs9, ho⟩ := hf.ob
        refine pb_blk B.hx B.hb (lv' := [(0, .ref q)]) (st' := [.int 0, .ref q]) hl bkX3_told_46_48 rfl (fun ls hl => ?_)
        refine n_callV B (c_X0_fraction l G A q 0 u s.heap (by decide)) cy_X0_fraction im_X0_fraction se_X0_fraction wd_M_X3_39 rfl ho ⟨rfl, hf⟩ rfl hl.1 rfl (Nat.le_of_ble_eq_true rfl) ⟨by decide, by decide⟩ ⟨Nat.zero_le _, Nat.zero_le _⟩ dX3_told_48 (fun v hv => ?_)
        obtain ⟨x0, rfl, hx0⟩ := hv
        obtain ⟨nx0, dx0, ox0, fx0⟩ := id hx0
        have b0 := sm_nat fx0 (hs 0 (by decide))
        refine z_get B ciX1 0 (by decide) ox0 wd_F_X3_43 rfl dX3_told_51 ?_
        have hle : dgI u ≤ 0 := by rcases dgI_5 u with h9 | h9 | h9 | h9 | h9; rw [h9] at h1; exact absurd h1 (by decide); exact absurd h9 h2; exact absurd h9 h3; rw [h9]; decide; rw [h9]; decide
        refine z_callS B (c_X3_ofFlat l G A nx0 (by omega)) cy_X3_ofFlat st_X3_ofFlat wd_M_X3_49 hA trivial rfl hl.1 rfl (Nat.le_of_ble_eq_true rfl) ⟨by decide, by decide⟩ ⟨by decide, by decide⟩ dX3_told_54 (fun v H1 hE hv => ?_)
        obtain ⟨q2, rfl, hq2⟩ := hv; rw [fx0.1] at hq2
        exact x_aret B (Or.inl ⟨_, rfl⟩) dX3_told_57 (hE.mv _) ⟨q2, 0, _, _, rfl, Or.inl ⟨hle, rfl, rfl, rfl⟩, hq2⟩ (fun _ h => nomatch h) (by (try dsimp only); omega) (by (try dsimp only); omega)
      · refine pb_blk B.hx B.hb (lv' := [(0, .ref q)]) (st' := [.ref q]) hl bkX3_told_39_40 rfl (fun ls hl => ?_)
        refine z_callS B (c_X3_ofSlant l G A q u hs (dgI_1 h3)) cy_X3_ofSlant st_X3_ofSlant wd_M_X3_36 hA hf rfl hl.1 rfl (Nat.le_of_ble_eq_true rfl) ⟨by decide, by decide⟩ ⟨by decide, by decide⟩ dX3_told_40 (fun v H1 hE hv => ?_)
        obtain ⟨q2, rfl, hq2⟩ := hv
        refine pb_blk B.hx B.hb (lv' := [(0, .ref q)]) (st' := [.ref q2]) hl bkX3_told_43_57 rfl (fun ls hl => ?_)
        exact x_aret B (Or.inl ⟨_, rfl⟩) dX3_told_57 (hE.mv _) ⟨q2, 1, _, _, rfl, Or.inr (Or.inl ⟨h3, rfl, rfl, rfl⟩), hq2⟩ (fun _ h => nomatch h) (by (try dsimp only); omega) (by (try dsimp only); omega)
    · refine pb_blk B.hx B.hb (lv' := [(0, .ref q)]) (st' := [.ref q]) hl bkX3_told_26_27 rfl (fun ls hl => ?_)
      refine x_callS B hT htb (c_X3_ofSquare l hst G A q u hs h2 (dgI_2 h2)) cy_X3_ofSquare st_X3_ofSquare wd_M_X3_32 hA hf Ex.rf rfl hl.1 rfl (Nat.le_of_ble_eq_true rfl) ⟨by decide, by decide⟩ ⟨by decide, by decide⟩ dX3_told_27 (fun _ h => nomatch h) (fun _ h => h) ⟨by decide, by decide⟩ (fun E h => h) (fun v H1 LH1 hLH1 hMH1 hv => ?_)
      obtain ⟨q2, n, pt, sg, rfl, ht, hsg⟩ := hv
      exact x_aret B (Or.inl ⟨_, rfl⟩) dX3_told_30 hMH1 ⟨q2, n, pt, sg, rfl, ht, hsg⟩ (fun z h => hLH1 z h) (by (try dsimp only); omega) (by (try dsimp only); omega)
  · have h3 : dgI u = 3 := by rcases dgI_5 u with h9 | h9 | h9 | h9 | h9; exact h9; rw [h9] at h1; exact absurd (by decide) h1; rw [h9] at h1; exact absurd (by decide) h1; rw [h9] at h1; exact absurd (by decide) h1; rw [h9] at h1; exact absurd (by decide) h1
    exact x_throw B hst hT htb ts_X3_27 Ex.rf hl.1 dX3_told_8 dX3_told_11 dX3_told_12 dX3_told_14 dX3_told_17 ⟨by decide, by decide⟩ ⟨by decide, by decide⟩ (⟨rfl, Or.inl h3⟩) ⟨by decide, by decide⟩

