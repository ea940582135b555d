def sgZ (z : Int) : Int32 := if 0 < z then 1 else if z < 0 then -1 else 0
theorem sg_hi {v : Int64} (h : v.toInt < 0) : (v.toUInt64 >>> ((63 : Int32).toInt64.toUInt64 &&& Int64.toUInt64 63)).toInt64 = 1 := by
  have hn : ((63 : Int32).toInt64.toUInt64 &&& Int64.toUInt64 63) = 63 := by decide
  rw [hn]
  have e0 : v.toInt = v.toBitVec.toInt := rfl
  have hb := v.toBitVec.isLt
  rw [e0, BitVec.toInt_eq_toNat_cond] at h
  have h1 : 2 ^ 63 ≤ v.toBitVec.toNat := by
    by_cases hc : 2 * v.toBitVec.toNat < 2 ^ 64
    · rw [if_pos hc] at h; omega
    · omega
  have e1 : (v.toUInt64 >>> 63).toNat = 1 := by
    rw [UInt64.toNat_shiftRight]
    have e2 : v.toUInt64.toNat = v.toBitVec.toNat := rfl
    rw [e2, show (63 : UInt64).toNat % 64 = 63 from rfl, Nat.shiftRight_eq_div_pow]
    omega
  have e3 : v.toUInt64 >>> 63 = 1 := UInt64.toNat_inj.mp e1
  rw [e3]; rfl
theorem sg_lo {v : Int64} (h : 0 ≤ v.toInt) : (v.toUInt64 >>> ((63 : Int32).toInt64.toUInt64 &&& Int64.toUInt64 63)).toInt64 = 0 := by
  have hb := v.toInt_lt
  apply Int64.toInt_inj.mp
  rw [Kit.i64_lushr (k := 63) (Kit.i64_nonneg.mpr h) (by decide) (by decide), Int64.toInt_zero]
  omega
theorem sg_sh {v : Int64} : (v >>> ((63 : Int32).toInt64 &&& 63)) = if v.toInt < 0 then -1 else 0 := by
  have hb := v.toInt_lt
  have hb2 := v.le_toInt
  apply Int64.toInt_inj.mp
  rw [Kit.i64_shr _ _ (k := 63) (by decide)]
  split
  · rw [show (-1 : Int64).toInt = -1 from rfl]; omega
  · rw [Int64.toInt_zero]; omega
theorem sg_all {v : Int64} (hm : v.toInt ≠ -2 ^ 63) : ((v >>> ((63 : Int32).toInt64 &&& 63)) ||| ((-v).toUInt64 >>> ((63 : Int32).toInt64.toUInt64 &&& Int64.toUInt64 63)).toInt64).toInt32 = sgZ v.toInt := by
  have hn : (-v).toInt = -v.toInt := Kit.i64_neg hm
  rw [sg_sh]
  unfold sgZ
  by_cases h1 : 0 < v.toInt
  · rw [if_neg (by omega), if_pos h1, sg_hi (by omega)]; rfl
  · rw [if_neg h1]
    by_cases h2 : v.toInt < 0
    · rw [if_pos h2, if_pos h2, sg_lo (by omega)]; rfl
    · rw [if_neg h2, if_neg h2, sg_lo (by omega)]; rfl

def po_J13_signum_95d88 (G : Gm) (A : Nat → Prop) (v0 : Int64) : Option Value → Prop := fun v => v = some (.int (sgZ v0.toInt))
theorem bkJ13_signum_95d88_0_8 : pb_chk cJ13_signum_95d88 0 [.lload_n 0, .bipush 63, .lshr, .lload_n 0, .lneg, .bipush 63] = some 8 := by decide +kernel
theorem dJ13_signum_95d88_8 : decode cJ13_signum_95d88 8 = .ok (.lushr, 1) := by decide +kernel
theorem bkJ13_signum_95d88_9_11 : pb_chk cJ13_signum_95d88 9 [.lor, .l2i] = some 11 := by decide +kernel
theorem dJ13_signum_95d88_11 : decode cJ13_signum_95d88 11 = .ok (.ireturn, 1) := by decide +kernel
set_option maxHeartbeats 4000000 in
set_option maxRecDepth 100000 in
theorem c_J13_signum_95d88 (l : Launch) (G : Gm) (A : Nat → Prop) (v0 : Int64) (hm : v0.toInt ≠ -2 ^ 63) : Mn l yJ13_signum_95d88 cJ13_signum_95d88 2 (some .int) (⟨0, 0, 0, 0⟩ : Room) G [.long v0] (fun _ => True) (po_J13_signum_95d88 G A v0) := by
  refine of_met (by decide) (Nat.le_of_ble_eq_true rfl) ?_
  intro p e s m below meth c ls B hA _ hl
  refine pb_blk B.hx B.hb (lv' := [(0, .long v0)]) (st' := [.int 63, .long (-v0), .long (v0 >>> ((63 : Int32).toInt64 &&& 63))]) hl bkJ13_signum_95d88_0_8 rfl (fun ls hl => ?_)
  refine lv_lushr B.hx B.hb dJ13_signum_95d88_8 rfl ?_
  refine pb_blk B.hx B.hb (lv' := [(0, .long v0)]) (st' := [.int (((v0 >>> ((63 : Int32).toInt64 &&& 63)) ||| ((-v0).toUInt64 >>> ((63 : Int32).toInt64.toUInt64 &&& Int64.toUInt64 63)).toInt64)).toInt32]) hl bkJ13_signum_95d88_9_11 rfl (fun ls hl => ?_)
  exact n_iret B dJ13_signum_95d88_11 (by rw [po_J13_signum_95d88]; exact congrArg (fun z => some (Value.int z)) (sg_all hm)) (Nat.le_refl _) (Nat.le_refl _)

def po_X3_init (G : Gm) (A : Nat → Prop) (q pa ca : Nat) : Heap → Prop := fun H => va_at G.1 vwCl (q, .inr (3, [.ref pa, .ref ca])) H
theorem bkX3_init_0_1 : pb_chk cX3_init 0 [.aload_n 0] = some 1 := by decide +kernel
theorem dX3_init_1 : decode cX3_init 1 = .ok (.invokespecial 3, 3) := by decide +kernel
theorem bkX3_init_4_6 : pb_chk cX3_init 4 [.aload_n 0, .aload_n 1] = some 6 := by decide +kernel
theorem dX3_init_6 : decode cX3_init 6 = .ok (.putfield 9, 3) := by decide +kernel
theorem bkX3_init_9_11 : pb_chk cX3_init 9 [.aload_n 0, .aload_n 2] = some 11 := by decide +kernel
theorem dX3_init_11 : decode cX3_init 11 = .ok (.putfield 15, 3) := by decide +kernel
theorem dX3_init_14 : decode cX3_init 14 = .ok (.return_, 1) := by decide +kernel
set_option maxHeartbeats 4000000 in
set_option maxRecDepth 100000 in
theorem c_X3_init (l : Launch) (G : Gm) (A : Nat → Prop) (q pa ca : Nat) : Mk l yX3_init cX3_init 3 (⟨1, 0, 0, 12⟩ : Room) G A q [.ref q, .ref pa, .ref ca] (fun H => va_at G.1 vwCl (q, .inr (3, [.null, .null])) H) (po_X3_init G A q pa ca) := by
  refine of_met (by decide) (Nat.le_of_ble_eq_true rfl) ?_
  intro p e s m below meth c ls B hA ob hl
  refine pb_blk B.hx B.hb (lv' := [(0, .ref q), (1, .ref pa), (2, .ref ca)]) (st' := [.ref q]) hl bkX3_init_0_1 rfl (fun ls hl => ?_)
  refine z_objInit B wd_M_X3_3 hl.1 ⟨by decide, by decide⟩ dX3_init_1 ?_
  refine pb_blk B.hx B.hb (lv' := [(0, .ref q), (1, .ref pa), (2, .ref ca)]) (st' := [.ref pa, .ref q]) hl bkX3_init_4_6 rfl (fun ls hl => ?_)
  refine z_put0 B ciX3 0 (by decide) ob wd_F_X3_9 (Or.inr ⟨rfl, rfl, rfl⟩) rfl rfl (Nat.le_of_ble_eq_true rfl) dX3_init_6 (fun H1 i1 ob hz1 hq1 => ?_)
  refine pb_blk B.hx B.hb (lv' := [(0, .ref q), (1, .ref pa), (2, .ref ca)]) (st' := [.ref ca, .ref q]) hl bkX3_init_9_11 rfl (fun ls hl => ?_)
  refine z_put0 B ciX3 1 (by decide) ob wd_F_X3_15 (Or.inr ⟨rfl, rfl, rfl⟩) rfl rfl (Nat.le_of_ble_eq_true rfl) dX3_init_11 (fun H2 i2 ob hz2 hq2 => ?_)
  exact z_kret B dX3_init_14 (by rw [hz2, hz1]) (fun x hx => (hq2 x hx).trans (hq1 x hx)) ob (fun z hz => by simp at hz; rcases hz with rfl | rfl <;> rfl) (Nat.le_refl _) (Nat.le_refl _)

def IrP (G : Gm) (A : Nat → Prop) (H : Heap) (a n : Nat) (b : Nat → Int32) : Prop := ∃ f : Nat → Value, Ar A H a (G.2 0) n f ∧ ∀ j, j < n → f j = .int (b j)
/-- a formula's signs: its zeros, and the sign in each cell -/
def Sg (G : Gm) (A : Nat → Prop) (H : Heap) (q n : Nat) (pt : Nat → Rat) (sg : Nat → Int32) : Prop := ∃ pa ca : Nat, Ob G A H q 3 [.ref pa, .ref ca] ∧ RowF G A H pa n pt ∧ IrP G A H ca (2 * n + 1) sg
section SG
variable {G : Gm} {A A' : Nat → Prop} {H H' H1 H2 : Heap} {a n k q pa ca : Nat} {pt : Nat → Rat} {sg : Nat → Int32}
theorem IrP.mv (h : IrP G A H a n sg) (m : Mv A H A' H') : IrP G A' H' a n sg := by
  obtain ⟨f, h1, h2⟩ := h
  exact ⟨f, h1.mv m, h2⟩
theorem Sg.mv (h : Sg G A H q n pt sg) (m : Mv A H A' H') : Sg G A' H' q n pt sg := by
  obtain ⟨pa, ca, h1, h2, h3⟩ := h
  exact ⟨pa, ca, h1.mv m, h2.mv m, h3.mv m⟩
theorem Sg.ob (h : Sg G A H q n pt sg) : ∃ fs, va_at G.1 vwCl (q, .inr (3, fs)) H := by
  obtain ⟨pa, ca, h1, -⟩ := h
  exact ⟨_, h1.2⟩
theorem sg_post (hr : RowF G (Aq A q) H1 pa n pt) (hz : IrP G (Aq A q) H1 ca (2 * n + 1) sg) (z : H2.size = H1.size) (o : ∀ x, x ≠ q → H2[x]? = H1[x]?) (hq : ¬ A q) (ob : va_at G.1 vwCl (q, .inr (3, [.ref pa, .ref ca])) H2) : Sg G A H2 q n pt sg := ⟨pa, ca, ⟨hq, ob⟩, hr.mv (Mv.fin z o), hz.mv (Mv.fin z o)⟩
theorem RowF.toP (h : RowF G A H a n pt) : RowP G A H a n n pt := h
end SG

def po_X3_ofFlat (G : Gm) (A : Nat → Prop) (v0 : Int64) : Option Value → Heap → Prop := fun v H => ∃ q, v = some (.ref q) ∧ Sg G A H q 0 (fun _ => 0) (fun _ => sgZ v0.toInt)
theorem dX3_ofFlat_0 : decode cX3_ofFlat 0 = .ok (.new 10, 3) := by decide +kernel
theorem bkX3_ofFlat_3_5 : pb_chk cX3_ofFlat 3 [.dup, .iconst 0] = some 5 := by decide +kernel
theorem dX3_ofFlat_5 : decode cX3_ofFlat 5 = .ok (.anewarray 44, 3) := by decide +kernel
theorem bkX3_ofFlat_8_9 : pb_chk cX3_ofFlat 8 [.iconst 1] = some 9 := by decide +kernel
theorem dX3_ofFlat_9 : decode cX3_ofFlat 9 = .ok (.newarray .int, 2) := by decide +kernel
theorem bkX3_ofFlat_11_14 : pb_chk cX3_ofFlat 11 [.dup, .iconst 0, .lload_n 0] = some 14 := by decide +kernel
theorem dX3_ofFlat_14 : decode cX3_ofFlat 14 = .ok (.invokestatic 53, 3) := by decide +kernel
theorem dX3_ofFlat_17 : decode cX3_ofFlat 17 = .ok (.iastore, 1) := by decide +kernel
theorem dX3_ofFlat_18 : decode cX3_ofFlat 18 = .ok (.invokespecial 59, 3) := by decide +kernel
theorem dX3_ofFlat_21 : decode cX3_ofFlat 21 = .ok (.areturn, 1) := by decide +kernel
set_option maxHeartbeats 4000000 in
set_option maxRecDepth 100000 in
theorem c_X3_ofFlat (l : Launch) (G : Gm) (A : Nat → Prop) (v0 : Int64) (hm : v0.toInt ≠ -2 ^ 63) : Mz l yX3_ofFlat cX3_ofFlat 2 (some (.object "FormulaHouse$Signs")) (⟨2, 3, 3, 34⟩ : Room) G A [.long v0] (fun _ => True) (po_X3_ofFlat G A v0) := by
  refine of_met (by decide) (Nat.le_of_ble_eq_true rfl) ?_
  intro p e s m below meth c ls B hA _ hl
  have e0 : Ex s.heap s.heap := Ex.rf
  refine z_new B ciX3 wd_C_X3_10 hfs_X3 (by (try dsimp only); omega) (by (try dsimp only); omega) dX3_ofFlat_0 (fun K1 obK kz1 ko1 => ?_)
  refine pb_blk B.hx B.hb (lv' := [(0, .long v0)]) (st' := [.int 0, .ref s.heap.size, .ref s.heap.size]) hl bkX3_ofFlat_3_5 rfl (fun ls hl => ?_)
  refine z_newq B 3 rfl wd_C_X3_44 B.hK.2.ao1 (by decide) (N := 0) (by decide) (by decide) (by (try dsimp only); omega) (by (try dsimp only); omega) dX3_ofFlat_5 (fun K2 kw2 kz2 ko2 => ?_)
  refine pb_blk B.hx B.hb (lv' := [(0, .long v0)]) (st' := [.int 1, .ref K1.size, .ref s.heap.size, .ref s.heap.size]) hl bkX3_ofFlat_8_9 rfl (fun ls hl => ?_)
  refine z_newa (atype := .int) (ty := .int) B 0 rfl rfl id wa_I (by decide) (N := 1) (by decide) (by decide) (by (try dsimp only); omega) (by (try dsimp only); omega) dX3_ofFlat_9 (fun K3 kw3 kz3 ko3 => ?_)
  refine pb_blk B.hx B.hb (lv' := [(0, .long v0)]) (st' := [.long v0, .int 0, .ref K2.size, .ref K2.size, .ref K1.size, .ref s.heap.size, .ref s.heap.size]) hl bkX3_ofFlat_11_14 rfl (fun ls hl => ?_)
  refine n_callS B (c_J13_signum_95d88 l G A v0 hm) cy_J13_signum_95d88 st_J13_signum_95d88 wd_M_X3_53 trivial rfl hl.1 rfl (Nat.le_of_ble_eq_true rfl) ⟨by decide, by decide⟩ ⟨(by (try dsimp only); omega), (by (try dsimp only); omega)⟩ dX3_ofFlat_14 (fun v hv => ?_)
  rw [po_J13_signum_95d88] at hv
  subst hv
  refine z_iast B kw3 (vp_in_nI (show 0 < 1 by decide) (by decide)) dX3_ofFlat_17 (fun K4 kw4 kz4 ko4 => ?_)
  refine z_forget (by (try dsimp only); have := (e0).1; omega) ?_
  have obc := (((obK).kept (q := (s.heap.size, _)) (ko2 s.heap.size (by omega))).kept (q := (s.heap.size, _)) (ko3 s.heap.size (by omega))).kept (q := (s.heap.size, _)) (ko4 s.heap.size (by omega))
  have hla := fun (j : Nat) (h : j < s.heap.size) => h
  have hrw : RowF G (Aq A s.heap.size) K4 K1.size 0 (fun _ => 0) := ⟨_, ⟨aq_no hA (by have := (e0).1; omega) (by omega), (ko4 K1.size (by omega)).trans ((ko3 K1.size (by omega)).trans (kw2))⟩, fun k hk => absurd hk (Nat.not_lt_zero _)⟩
  have hsi : IrP G (Aq A s.heap.size) K4 K2.size (2 * 0 + 1) (fun _ => sgZ v0.toInt) := ⟨_, ⟨aq_no hA (by have := (e0).1; omega) (by omega), kw4⟩, fun j hj => by
    rw [show j = 0 by omega]; rfl⟩
  refine z_ctor B (c_X3_init l G (fun _ => False) s.heap.size K1.size K2.size) cy_X3_init im_X3_init rfl wd_M_X3_59 (e0).1 (fun _ h => h.elim) obc rfl hl.1 rfl (Nat.le_of_ble_eq_true rfl) ⟨by decide, by decide⟩ ⟨(by (try dsimp only); omega), (by (try dsimp only); omega)⟩ dX3_ofFlat_18 (fun Kz zz oz obz => ?_)
  have hEz : Ex s.heap Kz := (e0).trans ⟨by omega, fun q hq => (oz q (by omega)).trans ((ko4 q (by omega)).trans ((ko3 q (by omega)).trans ((ko2 q (by omega)).trans (ko1 q (by omega)))))⟩
  exact z_aret B (Or.inl ⟨_, rfl⟩) dX3_ofFlat_21 hEz ⟨_, rfl, sg_post hrw hsi zz oz (hA_no hA (Nat.le_refl _)) obz⟩ (by (try dsimp only); omega) (by (try dsimp only); omega)

theorem divInt_neg' (a b c d : Int) (hb : 0 < b) (hd : 0 < d) (hc : c ≠ 0) {u v : Rat} (hu : u = Rat.divInt a b) (hv : v = Rat.divInt c d) : Rat.divInt (-a * d) (b * c) = -u / v := by
  rw [hu, hv, Rat.neg_divInt, Rat.div_def, Rat.inv_divInt, Rat.divInt_mul_divInt]
theorem rat_dv (u : Rat) : u = Rat.divInt u.num u.den := (Rat.num_divInt_den u).symm
def sl3 (r : Int32) : Nat → Int32 := fun j => if j = 0 then -r else if j = 1 then 0 else r
theorem sm_nat {n d : Int64} {r : Rat} (h : Frx n d r) (hs : Sm r) : -60 ≤ n.toInt ∧ n.toInt ≤ 60 ∧ 1 ≤ d.toInt ∧ d.toInt ≤ 60 := by
  obtain ⟨h1, h2⟩ := h
  have := r.den_pos
  obtain ⟨h3, h4⟩ := hs
  omega
theorem mul_b {a b A B : Int} (ha : -A ≤ a ∧ a ≤ A) (hb : -B ≤ b ∧ b ≤ B) : -(A * B) ≤ a * b ∧ a * b ≤ A * B := by
  have h1 : a.natAbs ≤ A.natAbs := by omega
  have h2 : b.natAbs ≤ B.natAbs := by omega
  have h3 := Nat.mul_le_mul h1 h2
  rw [← Int.natAbs_mul, ← Int.natAbs_mul] at h3
  have h4 : 0 ≤ A * B := Int.mul_nonneg (by omega) (by omega)
  omega

def po_X3_ofSlant (G : Gm) (A : Nat → Prop) (q : Nat) (u : Nat → Rat) : Option Value → Heap → Prop := fun v H => ∃ q2, v = some (.ref q2) ∧ Sg G A H q2 1 (fun _ => -u 0 / u 1) (sl3 (sgZ (u 1).num))
theorem bkX3_ofSlant_0_2 : pb_chk cX3_ofSlant 0 [.aload_n 0, .iconst 0] = some 2 := by decide +kernel
theorem dX3_ofSlant_2 : decode cX3_ofSlant 2 = .ok (.invokevirtual 39, 3) := by decide +kernel
theorem bkX3_ofSlant_5_8 : pb_chk cX3_ofSlant 5 [.astore_n 1, .aload_n 0, .iconst 1] = some 8 := by decide +kernel
theorem dX3_ofSlant_8 : decode cX3_ofSlant 8 = .ok (.invokevirtual 39, 3) := by decide +kernel
theorem bkX3_ofSlant_11_13 : pb_chk cX3_ofSlant 11 [.astore_n 2, .aload_n 2] = some 13 := by decide +kernel
theorem dX3_ofSlant_13 : decode cX3_ofSlant 13 = .ok (.getfield 43, 3) := by decide +kernel
theorem dX3_ofSlant_16 : decode cX3_ofSlant 16 = .ok (.invokestatic 53, 3) := by decide +kernel
theorem bkX3_ofSlant_19_21 : pb_chk cX3_ofSlant 19 [.istore_n 3, .aload_n 1] = some 21 := by decide +kernel
theorem dX3_ofSlant_21 : decode cX3_ofSlant 21 = .ok (.getfield 43, 3) := by decide +kernel
theorem bkX3_ofSlant_24_26 : pb_chk cX3_ofSlant 24 [.lneg, .aload_n 2] = some 26 := by decide +kernel
theorem dX3_ofSlant_26 : decode cX3_ofSlant 26 = .ok (.getfield 62, 3) := by decide +kernel
theorem bkX3_ofSlant_29_31 : pb_chk cX3_ofSlant 29 [.lmul, .aload_n 1] = some 31 := by decide +kernel
theorem dX3_ofSlant_31 : decode cX3_ofSlant 31 = .ok (.getfield 62, 3) := by decide +kernel
theorem bkX3_ofSlant_34_35 : pb_chk cX3_ofSlant 34 [.aload_n 2] = some 35 := by decide +kernel
theorem dX3_ofSlant_35 : decode cX3_ofSlant 35 = .ok (.getfield 43, 3) := by decide +kernel
theorem bkX3_ofSlant_38_39 : pb_chk cX3_ofSlant 38 [.lmul] = some 39 := by decide +kernel
theorem dX3_ofSlant_39 : decode cX3_ofSlant 39 = .ok (.invokestatic 65, 3) := by decide +kernel
theorem bkX3_ofSlant_42_44 : pb_chk cX3_ofSlant 42 [.astore 4] = some 44 := by decide +kernel
theorem dX3_ofSlant_44 : decode cX3_ofSlant 44 = .ok (.new 10, 3) := by decide +kernel
theorem bkX3_ofSlant_47_49 : pb_chk cX3_ofSlant 47 [.dup, .iconst 1] = some 49 := by decide +kernel
theorem dX3_ofSlant_49 : decode cX3_ofSlant 49 = .ok (.anewarray 44, 3) := by decide +kernel
theorem bkX3_ofSlant_52_56 : pb_chk cX3_ofSlant 52 [.dup, .iconst 0, .aload 4] = some 56 := by decide +kernel
theorem dX3_ofSlant_56 : decode cX3_ofSlant 56 = .ok (.aastore, 1) := by decide +kernel
theorem bkX3_ofSlant_57_58 : pb_chk cX3_ofSlant 57 [.iconst 3] = some 58 := by decide +kernel
theorem dX3_ofSlant_58 : decode cX3_ofSlant 58 = .ok (.newarray .int, 2) := by decide +kernel
theorem bkX3_ofSlant_60_64 : pb_chk cX3_ofSlant 60 [.dup, .iconst 0, .iload_n 3, .ineg] = some 64 := by decide +kernel
theorem dX3_ofSlant_64 : decode cX3_ofSlant 64 = .ok (.iastore, 1) := by decide +kernel
theorem bkX3_ofSlant_65_68 : pb_chk cX3_ofSlant 65 [.dup, .iconst 1, .iconst 0] = some 68 := by decide +kernel
theorem dX3_ofSlant_68 : decode cX3_ofSlant 68 = .ok (.iastore, 1) := by decide +kernel
theorem bkX3_ofSlant_69_72 : pb_chk cX3_ofSlant 69 [.dup, .iconst 2, .iload_n 3] = some 72 := by decide +kernel
theorem dX3_ofSlant_72 : decode cX3_ofSlant 72 = .ok (.iastore, 1) := by decide +kernel
theorem dX3_ofSlant_73 : decode cX3_ofSlant 73 = .ok (.invokespecial 59, 3) := by decide +kernel
theorem dX3_ofSlant_76 : decode cX3_ofSlant 76 = .ok (.areturn, 1) := by decide +kernel
set_option maxHeartbeats 4000000 in
set_option maxRecDepth 100000 in
theorem c_X3_ofSlant (l : Launch) (G : Gm) (A : Nat → Prop) (q : Nat) (u : Nat → Rat) (hs : ∀ k, k < 4 → Sm (u k)) (h1 : u 1 ≠ 0) : Mz l yX3_ofSlant cX3_ofSlant 5 (some (.object "FormulaHouse$Signs")) (⟨3, 4, 8, 74⟩ : Room) G A [.ref q] (fun H => Fo G A H q u) (po_X3_ofSlant G A q u) := by
  refine of_met (by decide) (Nat.le_of_ble_eq_true rfl) ?_
  intro p e s m below meth c ls B hA hf hl
  obtain ⟨fs9, ho⟩ := hf.ob
  refine pb_blk B.hx B.hb (lv' := [(0, .ref q)]) (st' := [.int 0, .ref q]) hl bkX3_ofSlant_0_2 rfl (fun ls hl => ?_)
  refine n_callV B (c_X0_fraction l G A q 0 u s.heap (by decide)) cy_X0_fraction im_X0_fraction se_X0_fraction wd_M_X3_39 rfl ho ⟨rfl, hf⟩ rfl hl.1 rfl (Nat.le_of_ble_eq_true rfl) ⟨by decide, by decide⟩ ⟨Nat.zero_le _, Nat.zero_le _⟩ dX3_ofSlant_2 (fun v hv => ?_)
  obtain ⟨x0, rfl, hx0⟩ := hv
  obtain ⟨nx0, dx0, ox0, fx0⟩ := id hx0
  obtain ⟨fs9, ho⟩ := hf.ob
  refine pb_blk B.hx B.hb (lv' := [(1, .ref x0), (0, .ref q)]) (st' := [.int 1, .ref q]) hl bkX3_ofSlant_5_8 rfl (fun ls hl => ?_)
  rw [show (1 : Int32) = nI 1 from rfl]
  refine n_callV B (c_X0_fraction l G A q 1 u s.heap (by decide)) cy_X0_fraction im_X0_fraction se_X0_fraction wd_M_X3_39 rfl ho ⟨rfl, hf⟩ rfl hl.1 rfl (Nat.le_of_ble_eq_true rfl) ⟨by decide, by decide⟩ ⟨Nat.zero_le _, Nat.zero_le _⟩ dX3_ofSlant_8 (fun v hv => ?_)
  obtain ⟨x1, rfl, hx1⟩ := hv
  obtain ⟨nx1, dx1, ox1, fx1⟩ := id hx1
  have b0 := sm_nat fx0 (hs 0 (by decide))
  have b1 := sm_nat fx1 (hs 1 (by decide))
  have hn1 : nx1.toInt ≠ 0 := fun e => h1 (Rat.num_eq_zero.mp (fx1.1.symm.trans e))
  refine pb_blk B.hx B.hb (lv' := [(2, .ref x1), (1, .ref x0), (0, .ref q)]) (st' := [.ref x1]) hl bkX3_ofSlant_11_13 rfl (fun ls hl => ?_)
  refine z_get B ciX1 0 (by decide) ox1 wd_F_X3_43 rfl dX3_ofSlant_13 ?_
  refine n_callS B (c_J13_signum_95d88 l G A nx1 (by omega)) cy_J13_signum_95d88 st_J13_signum_95d88 wd_M_X3_53 trivial rfl hl.1 rfl (Nat.le_of_ble_eq_true rfl) ⟨by decide, by decide⟩ ⟨Nat.zero_le _, Nat.zero_le _⟩ dX3_ofSlant_16 (fun v hv => ?_)
  rw [po_J13_signum_95d88, fx1.1] at hv
  subst hv
  refine pb_blk B.hx B.hb (lv' := [(3, .int (sgZ (u 1).num)), (2, .ref x1), (1, .ref x0), (0, .ref q)]) (st' := [.ref x0]) hl bkX3_ofSlant_19_21 rfl (fun ls hl => ?_)
  refine z_get B ciX1 0 (by decide) ox0 wd_F_X3_43 rfl dX3_ofSlant_21 ?_
  refine pb_blk B.hx B.hb (lv' := [(3, .int (sgZ (u 1).num)), (2, .ref x1), (1, .ref x0), (0, .ref q)]) (st' := [.ref x1, .long (-nx0)]) hl bkX3_ofSlant_24_26 rfl (fun ls hl => ?_)
  refine z_get B ciX1 1 (by decide) ox1 wd_F_X3_62 rfl dX3_ofSlant_26 ?_
  refine pb_blk B.hx B.hb (lv' := [(3, .int (sgZ (u 1).num)), (2, .ref x1), (1, .ref x0), (0, .ref q)]) (st' := [.ref x0, .long ((-nx0) * dx1)]) hl bkX3_ofSlant_29_31 rfl (fun ls hl => ?_)
  refine z_get B ciX1 1 (by decide) ox0 wd_F_X3_62 rfl dX3_ofSlant_31 ?_
  refine pb_blk B.hx B.hb (lv' := [(3, .int (sgZ (u 1).num)), (2, .ref x1), (1, .ref x0), (0, .ref q)]) (st' := [.ref x1, .long dx0, .long ((-nx0) * dx1)]) hl bkX3_ofSlant_34_35 rfl (fun ls hl => ?_)
  refine z_get B ciX1 0 (by decide) ox1 wd_F_X3_43 rfl dX3_ofSlant_35 ?_
  refine pb_blk B.hx B.hb (lv' := [(3, .int (sgZ (u 1).num)), (2, .ref x1), (1, .ref x0), (0, .ref q)]) (st' := [.long (dx0 * nx1), .long ((-nx0) * dx1)]) hl bkX3_ofSlant_38_39 rfl (fun ls hl => ?_)
  have p1 : (-nx0 * dx1).toInt = -(u 0).num * (u 1).den := by have hm := mul_b (a := -nx0.toInt) (b := dx1.toInt) (A := 60) (B := 60) (by omega) (by omega); rw [Kit.i64_mul (by rw [Kit.i64_neg (by omega)]; omega) (by rw [Kit.i64_neg (by omega)]; omega), Kit.i64_neg (by omega), fx0.1, fx1.2]
  have p2 : (dx0 * nx1).toInt = (u 0).den * (u 1).num := by have hm := mul_b (a := dx0.toInt) (b := nx1.toInt) (A := 60) (B := 60) (by omega) (by omega); rw [Kit.i64_mul (by omega) (by omega), fx0.2, fx1.1]
  have hm1 := mul_b (a := -(u 0).num) (b := ((u 1).den : Int)) (A := 60) (B := 60) (by have := fx0.1; omega) (by have := fx1.2; omega)
  have hm2 := mul_b (a := ((u 0).den : Int)) (b := (u 1).num) (A := 60) (B := 60) (by have := fx0.2; omega) (by have := fx1.1; omega)
  have hz2 : ((u 0).den : Int) * (u 1).num ≠ 0 := Int.mul_ne_zero (by have := (u 0).den_pos; omega) (by rw [← fx1.1]; exact hn1)
  have hq : Rat.divInt (-nx0 * dx1).toInt (dx0 * nx1).toInt = -u 0 / u 1 := by rw [p1, p2]; exact divInt_neg' _ _ _ _ (by have := (u 0).den_pos; omega) (by have := (u 1).den_pos; omega) (by rw [← fx1.1]; exact hn1) (rat_dv _) (rat_dv _)
  refine z_callS B (c_X1_of l G A (-nx0 * dx1) (dx0 * nx1) (by rw [p1]; omega) (by rw [p2]; exact hz2) (by rw [p2]; omega)) cy_X1_of st_X1_of wd_M_X3_65 hA trivial rfl hl.1 rfl (Nat.le_of_ble_eq_true rfl) ⟨by decide, by decide⟩ ⟨by decide, by decide⟩ dX3_ofSlant_39 (fun v H1 hE hv => ?_)
  obtain ⟨x2, rfl, hx2⟩ := hv; rw [hq] at hx2
  refine pb_blk B.hx B.hb (lv' := [(4, .ref x2), (3, .int (sgZ (u 1).num)), (2, .ref x1), (1, .ref x0), (0, .ref q)]) (st' := []) hl bkX3_ofSlant_42_44 rfl (fun ls hl => ?_)
  refine z_new B ciX3 wd_C_X3_10 hfs_X3 (by (try dsimp only); omega) (by (try dsimp only); omega) dX3_ofSlant_44 (fun K1 obK kz1 ko1 => ?_)
  refine pb_blk B.hx B.hb (lv' := [(4, .ref x2), (3, .int (sgZ (u 1).num)), (2, .ref x1), (1, .ref x0), (0, .ref q)]) (st' := [.int 1, .ref H1.size, .ref H1.size]) hl bkX3_ofSlant_47_49 rfl (fun ls hl => ?_)
  refine z_newq B 3 rfl wd_C_X3_44 B.hK.2.ao1 (by decide) (N := 1) (by decide) (by decide) (by (try dsimp only); omega) (by (try dsimp only); omega) dX3_ofSlant_49 (fun K2 kw2 kz2 ko2 => ?_)
  refine pb_blk B.hx B.hb (lv' := [(4, .ref x2), (3, .int (sgZ (u 1).num)), (2, .ref x1), (1, .ref x0), (0, .ref q)]) (st' := [.ref x2, .int 0, .ref K1.size, .ref K1.size, .ref H1.size, .ref H1.size]) hl bkX3_ofSlant_52_56 rfl (fun ls hl => ?_)
  have hxk0 : Fr G A K2 x2 _ := (hx2).mv (Ex.mv (⟨by omega, fun q hq => (ko2 q (by omega)).trans (ko1 q (by omega))⟩ : Ex H1 K2) A)
  obtain ⟨nu0, de0, obx0, -⟩ := id hxk0
  refine z_aastF B kw2 obx0 (vp_in_nI (show 0 < 1 by decide) (by decide)) dX3_ofSlant_56 (fun K3 kw3 kz3 ko3 => ?_)
  refine z_forget (by (try dsimp only); have := (hE).1; omega) ?_
  refine pb_blk B.hx B.hb (lv' := [(4, .ref x2), (3, .int (sgZ (u 1).num)), (2, .ref x1), (1, .ref x0), (0, .ref q)]) (st' := [.int 3, .ref K1.size, .ref H1.size, .ref H1.size]) hl bkX3_ofSlant_57_58 rfl (fun ls hl => ?_)
  refine z_newa (atype := .int) (ty := .int) B 0 rfl rfl id wa_I (by decide) (N := 3) (by decide) (by decide) (by (try dsimp only); omega) (by (try dsimp only); omega) dX3_ofSlant_58 (fun K4 kw4 kz4 ko4 => ?_)
  refine pb_blk B.hx B.hb (lv' := [(4, .ref x2), (3, .int (sgZ (u 1).num)), (2, .ref x1), (1, .ref x0), (0, .ref q)]) (st' := [.int (-(sgZ (u 1).num)), .int 0, .ref K3.size, .ref K3.size, .ref K1.size, .ref H1.size, .ref H1.size]) hl bkX3_ofSlant_60_64 rfl (fun ls hl => ?_)
  refine z_iast B kw4 (vp_in_nI (show 0 < 3 by decide) (by decide)) dX3_ofSlant_64 (fun K5 kw5 kz5 ko5 => ?_)
  refine z_forget (by (try dsimp only); have := (hE).1; omega) ?_
  refine pb_blk B.hx B.hb (lv' := [(4, .ref x2), (3, .int (sgZ (u 1).num)), (2, .ref x1), (1, .ref x0), (0, .ref q)]) (st' := [.int 0, .int 1, .ref K3.size, .ref K3.size, .ref K1.size, .ref H1.size, .ref H1.size]) hl bkX3_ofSlant_65_68 rfl (fun ls hl => ?_)
  refine z_iast B kw5 (vp_in_nI (show 1 < 3 by decide) (by decide)) dX3_ofSlant_68 (fun K6 kw6 kz6 ko6 => ?_)
  refine z_forget (by (try dsimp only); have := (hE).1; omega) ?_
  refine pb_blk B.hx B.hb (lv' := [(4, .ref x2), (3, .int (sgZ (u 1).num)), (2, .ref x1), (1, .ref x0), (0, .ref q)]) (st' := [.int (sgZ (u 1).num), .int 2, .ref K3.size, .ref K3.size, .ref K1.size, .ref H1.size, .ref H1.size]) hl bkX3_ofSlant_69_72 rfl (fun ls hl => ?_)
  refine z_iast B kw6 (vp_in_nI (show 2 < 3 by decide) (by decide)) dX3_ofSlant_72 (fun K7 kw7 kz7 ko7 => ?_)
  refine z_forget (by (try dsimp only); have := (hE).1; omega) ?_
  have obc := ((((((obK).kept (q := (H1.size, _)) (ko2 H1.size (by omega))).kept (q := (H1.size, _)) (ko3 H1.size (by omega))).kept (q := (H1.size, _)) (ko4 H1.size (by omega))).kept (q := (H1.size, _)) (ko5 H1.size (by omega))).kept (q := (H1.size, _)) (ko6 H1.size (by omega))).kept (q := (H1.size, _)) (ko7 H1.size (by omega))
  have hla := fun (j : Nat) (h : j < H1.size) => h
  have hEc : Ex H1 K7 := ⟨by omega, fun q hq => (ko7 q (by omega)).trans ((ko6 q (by omega)).trans ((ko5 q (by omega)).trans ((ko4 q (by omega)).trans ((ko3 q (by omega)).trans ((ko2 q (by omega)).trans (ko1 q (by omega)))))))⟩
  have hxe0 := ((hx2).mv Mv.grow).mv (hEc.mv (Aq A H1.size))
  have hrw : RowF G (Aq A H1.size) K7 K1.size 1 (fun _ => -u 0 / u 1) := ⟨_, ⟨aq_no hA (by have := (hE).1; omega) (by omega), (ko7 K1.size (by omega)).trans ((ko6 K1.size (by omega)).trans ((ko5 K1.size (by omega)).trans ((ko4 K1.size (by omega)).trans (kw3))))⟩, fun k hk => by
    rw [show k = 0 by omega]; exact ⟨_, rfl, hxe0⟩⟩
  have hsi : IrP G (Aq A H1.size) K7 K3.size (2 * 1 + 1) (sl3 (sgZ (u 1).num)) := ⟨_, ⟨aq_no hA (by have := (hE).1; omega) (by omega), kw7⟩, fun j hj => by
    rcases (show j = 0 ∨ j = 1 ∨ j = 2 by omega) with rfl | rfl | rfl <;> rfl⟩
  refine z_ctor B (c_X3_init l G (fun _ => False) H1.size K1.size K3.size) cy_X3_init im_X3_init rfl wd_M_X3_59 (hE).1 (fun _ h => h.elim) obc rfl hl.1 rfl (Nat.le_of_ble_eq_true rfl) ⟨by decide, by decide⟩ ⟨(by (try dsimp only); omega), (by (try dsimp only); omega)⟩ dX3_ofSlant_73 (fun Kz zz oz obz => ?_)
  have hEz : Ex s.heap Kz := (hE).trans ⟨by omega, fun q hq => (oz q (by omega)).trans ((ko7 q (by omega)).trans ((ko6 q (by omega)).trans ((ko5 q (by omega)).trans ((ko4 q (by omega)).trans ((ko3 q (by omega)).trans ((ko2 q (by omega)).trans (ko1 q (by omega))))))))⟩
  exact z_aret B (Or.inl ⟨_, rfl⟩) dX3_ofSlant_76 hEz ⟨_, rfl, sg_post hrw hsi zz oz (hA_no hA hE.1) obz⟩ (by (try dsimp only); omega) (by (try dsimp only); omega)

def Bt : Nat → Nat
  | 0 => 0
  | j + 1 => 2 ^ j
theorem bt_shr {j : Nat} (h : j ≤ 31) : lN (2 ^ j) >>> ((1 : Int32).toInt64 &&& 63) = lN (Bt j) := by
  have h1 : 2 ^ j ≤ 2 ^ 31 := Nat.pow_le_pow_right (by decide) h
  apply Int64.toInt_inj.mp
  rw [Kit.i64_shr _ _ (k := 1) (by decide), pk_lT (by omega)]
  cases j with
  | zero => rfl
  | succ i =>
    have h2 : 2 ^ (i + 1) = 2 * 2 ^ i := by rw [Nat.pow_succ, Nat.mul_comm]
    show _ = (lN (2 ^ i)).toInt
    rw [pk_lT (by omega), h2]
    omega

def po_X3_wholeRoot (G : Gm) (A : Nat → Prop) (sq : Nat) : Option Value → Prop := fun v => ∃ r : Nat, v = some (.long (lN r)) ∧ r * r ≤ sq ∧ sq < (r + 1) * (r + 1)
theorem bkX3_wholeRoot_0_2 : pb_chk cX3_wholeRoot 0 [.lconst 0, .lstore_n 2] = some 2 := by decide +kernel
theorem dX3_wholeRoot_2 : decode cX3_wholeRoot 2 = .ok (.ldc2_w 79, 3) := by decide +kernel
theorem bkX3_wholeRoot_5_7 : pb_chk cX3_wholeRoot 5 [.lstore 4] = some 7 := by decide +kernel
theorem bkX3_wholeRoot_7_11 : pb_chk cX3_wholeRoot 7 [.lload 4, .lconst 0, .lcmp] = some 11 := by decide +kernel
theorem dX3_wholeRoot_11 : decode cX3_wholeRoot 11 = .ok (.ifCond .le 31, 3) := by decide +kernel
theorem bkX3_wholeRoot_42_43 : pb_chk cX3_wholeRoot 42 [.lload_n 2] = some 43 := by decide +kernel
theorem dX3_wholeRoot_43 : decode cX3_wholeRoot 43 = .ok (.lreturn, 1) := by decide +kernel
theorem bkX3_wholeRoot_14_27 : pb_chk cX3_wholeRoot 14 [.lload_n 2, .lload 4, .ladd, .lstore 6, .lload 6, .lload 6, .lmul, .lload_n 0, .lcmp] = some 27 := by decide +kernel
theorem dX3_wholeRoot_27 : decode cX3_wholeRoot 27 = .ok (.ifCond .gt 6, 3) := by decide +kernel
theorem bkX3_wholeRoot_33_7 : pb_chk cX3_wholeRoot 33 [.lload 4, .iconst 1, .lshr, .lstore 4, .goto (-32)] = some 7 := by decide +kernel
theorem bkX3_wholeRoot_30_7 : pb_chk cX3_wholeRoot 30 [.lload 6, .lstore_n 2, .lload 4, .iconst 1, .lshr, .lstore 4, .goto (-32)] = some 7 := by decide +kernel
set_option maxHeartbeats 4000000 in
set_option maxRecDepth 100000 in
theorem c_X3_wholeRoot (l : Launch) (G : Gm) (A : Nat → Prop) (sq : Nat) (hq : sq < 2 ^ 62) : Mn l yX3_wholeRoot cX3_wholeRoot 8 (some .long) (⟨0, 0, 0, 0⟩ : Room) G [.long (lN sq)] (fun _ => True) (po_X3_wholeRoot G A sq) := by
  refine of_met (by decide) (Nat.le_of_ble_eq_true rfl) ?_
  intro p e s m below meth c ls B hA _ hl
  have loop : ∀ (j r : Nat) (ls : Array Slot), j ≤ 31 → r * r ≤ sq → sq < (r + 2 ^ j) * (r + 2 ^ j) → r + 2 ^ j ≤ 2 ^ 31 → lv_has ls 8 [(4, .long (lN (Bt j))), (2, .long (lN r)), (0, .long (lN sq))] → W p l e (⟨0, 0, 0, 0⟩ : Room) s m ([.long (lN sq)] : List Value).toArray below meth c s.heap [] 0 0 (MQ below (Qn (po_X3_wholeRoot G A sq)) ([.long (lN sq)] : List Value).toArray s (⟨0, 0, 0, 0⟩ : Room).cells (⟨0, 0, 0, 0⟩ : Room).slots (fun _ => False)) (F0 m 7 ls []) := by
    intro j
    induction j with
    | zero =>
      intro r ls hj h1 h2 h3 hl
      refine pb_blk B.hx B.hb (lv' := [(4, .long (lN 0)), (2, .long (lN r)), (0, .long (lN sq))]) (st' := [.int (lg_cmp (lN 0) 0)]) hl bkX3_wholeRoot_7_11 rfl (fun ls hl => ?_)
      refine lv_if_le (tgt := 42) B.hx B.hb dX3_wholeRoot_11 (by decide) (fun h => ?_) (fun h => ?_)
      · refine pb_blk B.hx B.hb (lv' := [(4, .long (lN 0)), (2, .long (lN r)), (0, .long (lN sq))]) (st' := [.long (lN r)]) hl bkX3_wholeRoot_42_43 rfl (fun ls hl => ?_)
        exact n_lret B dX3_wholeRoot_43 ⟨r, rfl, h1, h2⟩ (Nat.le_refl _) (Nat.le_refl _)
      · exact absurd ((lg_cmp_le _ _).mpr (show lN 0 ≤ lN 0 from (pk_lLE (by decide) (by decide)).mpr (Nat.le_refl _))) h
    | succ j ih =>
      intro r ls hj h1 h2 h3 hl
      have hp : 0 < 2 ^ j := Nat.pow_pos (by decide)
      have e2 : 2 ^ (j + 1) = 2 ^ j + 2 ^ j := by rw [Nat.pow_succ]; omega
      rw [e2] at h2 h3
      refine pb_blk B.hx B.hb (lv' := [(4, .long (lN (2 ^ j))), (2, .long (lN r)), (0, .long (lN sq))]) (st' := [.int (lg_cmp (lN (2 ^ j)) 0)]) hl bkX3_wholeRoot_7_11 rfl (fun ls hl => ?_)
      refine lv_if_le (tgt := 42) B.hx B.hb dX3_wholeRoot_11 (by decide) (fun h => ?_) (fun h => ?_)
      · exact absurd ((lg_cmp_le _ _).mp h) (fun q => absurd ((pk_lLE (by omega) (by decide)).mp (show lN (2 ^ j) ≤ lN 0 from q)) (by omega))
      · have hm : (r + 2 ^ j) * (r + 2 ^ j) ≤ 2 ^ 31 * 2 ^ 31 := Nat.mul_le_mul (by omega) (by omega)
        refine pb_blk B.hx B.hb (lv' := [(6, .long ((lN r) + (lN (2 ^ j)))), (4, .long (lN (2 ^ j))), (2, .long (lN r)), (0, .long (lN sq))]) (st' := [.int (lg_cmp (((lN r) + (lN (2 ^ j))) * ((lN r) + (lN (2 ^ j)))) (lN sq))]) hl bkX3_wholeRoot_14_27 rfl (fun ls hl => ?_)
        rw [lN_add, lN_mul]
        refine lv_if_gt (tgt := 33) B.hx B.hb dX3_wholeRoot_27 (by decide) (fun h4 => ?_) (fun h4 => ?_)
        · have g := (pk_lLT (by omega) (by omega)).mp ((lg_cmp_gt _ _).mp h4)
          refine pb_blk B.hx B.hb (lv' := [(4, .long ((lN (2 ^ j)) >>> ((1 : Int32).toInt64 &&& 63))), (6, .long ((lN r) + (lN (2 ^ j)))), (2, .long (lN r)), (0, .long (lN sq))]) (st' := []) hl bkX3_wholeRoot_33_7 rfl (fun ls hl => ?_)
          exact ih r ls (by omega) h1 g (by omega) (by have h9 := lv_sub hl [0, 2, 3] rfl; rw [bt_shr (by omega)] at h9; exact h9)
        · have g : (r + 2 ^ j) * (r + 2 ^ j) ≤ sq := Nat.not_lt.mp (fun q => h4 ((lg_cmp_gt _ _).mpr ((pk_lLT (by omega) (by omega)).mpr q)))
          refine pb_blk B.hx B.hb (lv' := [(4, .long ((lN (2 ^ j)) >>> ((1 : Int32).toInt64 &&& 63))), (2, .long ((lN r) + (lN (2 ^ j)))), (6, .long ((lN r) + (lN (2 ^ j)))), (0, .long (lN sq))]) (st' := []) hl bkX3_wholeRoot_30_7 rfl (fun ls hl => ?_)
          exact ih (r + 2 ^ j) ls (by omega) g (by rw [Nat.add_assoc]; exact h2) (by omega) (by have h9 := lv_sub hl [0, 1, 3] rfl; rw [bt_shr (by omega), lN_add] at h9; exact h9)
  refine pb_blk B.hx B.hb (lv' := [(2, .long 0), (0, .long (lN sq))]) (st' := []) hl bkX3_wholeRoot_0_2 rfl (fun ls hl => ?_)
  refine z_ldc2 B wd_L_X3_79 dX3_wholeRoot_2 ?_
  refine pb_blk B.hx B.hb (lv' := [(4, .long 1073741824), (2, .long 0), (0, .long (lN sq))]) (st' := []) hl bkX3_wholeRoot_5_7 rfl (fun ls hl => ?_)
  exact loop 31 0 ls (by omega) (by omega) (by omega) (by omega) (lv_sub hl [0, 1, 2] rfl)

def chB (op v : Int32) : Bool := if op = 0 then decide (v = 0) else if op = 1 then decide (v < 0) else decide (v ≤ 0)

theorem k4_nle {x y : Int32} (h : y < x) : ¬ x ≤ y := fun q => by rw [Int32.lt_iff_toInt_lt] at h; rw [Int32.le_iff_toInt_le] at q; omega
theorem k4_le {x y : Int32} (h : ¬ y < x) : x ≤ y := by rw [Int32.lt_iff_toInt_lt] at h; rw [Int32.le_iff_toInt_le]; omega

def po_X3_chosen (G : Gm) (A : Nat → Prop) (q n : Nat) (op : Int32) (pt : Nat → Rat) (sg : Nat → Int32) : Option Value → Heap → Prop := fun v H => ∃ q2, v = some (.ref q2) ∧ Ls G A H q2 (czn (fun j => chB op (sg j)) n) (czp pt (fun j => chB op (sg j)) n) (czm (fun j => chB op (sg j)) n)
theorem bkX3_chosen_0_1 : pb_chk cX3_chosen 0 [.aload_n 0] = some 1 := by decide +kernel
theorem dX3_chosen_1 : decode cX3_chosen 1 = .ok (.getfield 15, 3) := by decide +kernel
theorem dX3_chosen_4 : decode cX3_chosen 4 = .ok (.arraylength, 1) := by decide +kernel
theorem dX3_chosen_5 : decode cX3_chosen 5 = .ok (.newarray .boolean, 2) := by decide +kernel
theorem bkX3_chosen_7_10 : pb_chk cX3_chosen 7 [.astore_n 2, .iconst 0, .istore_n 3] = some 10 := by decide +kernel
theorem bkX3_chosen_10_12 : pb_chk cX3_chosen 10 [.iload_n 3, .aload_n 0] = some 12 := by decide +kernel
theorem dX3_chosen_12 : decode cX3_chosen 12 = .ok (.getfield 15, 3) := by decide +kernel
theorem dX3_chosen_15 : decode cX3_chosen 15 = .ok (.arraylength, 1) := by decide +kernel
theorem dX3_chosen_16 : decode cX3_chosen 16 = .ok (.if_icmp .ge 69, 3) := by decide +kernel
theorem bkX3_chosen_85_86 : pb_chk cX3_chosen 85 [.aload_n 0] = some 86 := by decide +kernel
theorem dX3_chosen_86 : decode cX3_chosen 86 = .ok (.getfield 9, 3) := by decide +kernel
theorem bkX3_chosen_89_91 : pb_chk cX3_chosen 89 [.aload_n 2, .aload_n 0] = some 91 := by decide +kernel
theorem dX3_chosen_91 : decode cX3_chosen 91 = .ok (.getfield 9, 3) := by decide +kernel
theorem dX3_chosen_94 : decode cX3_chosen 94 = .ok (.arraylength, 1) := by decide +kernel
theorem dX3_chosen_95 : decode cX3_chosen 95 = .ok (.invokestatic 81, 3) := by decide +kernel
theorem dX3_chosen_98 : decode cX3_chosen 98 = .ok (.areturn, 1) := by decide +kernel
theorem bkX3_chosen_19_22 : pb_chk cX3_chosen 19 [.aload_n 2, .iload_n 3, .iload_n 1] = some 22 := by decide +kernel
theorem dX3_chosen_22 : decode cX3_chosen 22 = .ok (.ifCond .ne 20, 3) := by decide +kernel
theorem bkX3_chosen_42_44 : pb_chk cX3_chosen 42 [.iload_n 1, .iconst 1] = some 44 := by decide +kernel
theorem dX3_chosen_44 : decode cX3_chosen 44 = .ok (.if_icmp .ne 20, 3) := by decide +kernel
theorem bkX3_chosen_64_65 : pb_chk cX3_chosen 64 [.aload_n 0] = some 65 := by decide +kernel
theorem dX3_chosen_65 : decode cX3_chosen 65 = .ok (.getfield 15, 3) := by decide +kernel
theorem bkX3_chosen_68_69 : pb_chk cX3_chosen 68 [.iload_n 3] = some 69 := by decide +kernel
theorem dX3_chosen_69 : decode cX3_chosen 69 = .ok (.iaload, 1) := by decide +kernel
theorem dX3_chosen_70 : decode cX3_chosen 70 = .ok (.ifCond .gt 7, 3) := by decide +kernel
theorem bkX3_chosen_77_78 : pb_chk cX3_chosen 77 [.iconst 0] = some 78 := by decide +kernel
theorem dX3_chosen_78 : decode cX3_chosen 78 = .ok (.bastore, 1) := by decide +kernel
theorem bkX3_chosen_79_10 : pb_chk cX3_chosen 79 [.iinc 3 1, .goto (-72)] = some 10 := by decide +kernel
theorem bkX3_chosen_73_78 : pb_chk cX3_chosen 73 [.iconst 1, .goto 4] = some 78 := by decide +kernel
theorem bkX3_chosen_47_48 : pb_chk cX3_chosen 47 [.aload_n 0] = some 48 := by decide +kernel
theorem dX3_chosen_48 : decode cX3_chosen 48 = .ok (.getfield 15, 3) := by decide +kernel
theorem bkX3_chosen_51_52 : pb_chk cX3_chosen 51 [.iload_n 3] = some 52 := by decide +kernel
theorem dX3_chosen_52 : decode cX3_chosen 52 = .ok (.iaload, 1) := by decide +kernel
theorem dX3_chosen_53 : decode cX3_chosen 53 = .ok (.ifCond .ge 7, 3) := by decide +kernel
theorem bkX3_chosen_60_78 : pb_chk cX3_chosen 60 [.iconst 0, .goto 17] = some 78 := by decide +kernel
theorem bkX3_chosen_56_78 : pb_chk cX3_chosen 56 [.iconst 1, .goto 21] = some 78 := by decide +kernel
theorem bkX3_chosen_25_26 : pb_chk cX3_chosen 25 [.aload_n 0] = some 26 := by decide +kernel
theorem dX3_chosen_26 : decode cX3_chosen 26 = .ok (.getfield 15, 3) := by decide +kernel
theorem bkX3_chosen_29_30 : pb_chk cX3_chosen 29 [.iload_n 3] = some 30 := by decide +kernel
theorem dX3_chosen_30 : decode cX3_chosen 30 = .ok (.iaload, 1) := by decide +kernel
theorem dX3_chosen_31 : decode cX3_chosen 31 = .ok (.ifCond .ne 7, 3) := by decide +kernel
theorem bkX3_chosen_38_78 : pb_chk cX3_chosen 38 [.iconst 0, .goto 39] = some 78 := by decide +kernel
theorem bkX3_chosen_34_78 : pb_chk cX3_chosen 34 [.iconst 1, .goto 43] = some 78 := by decide +kernel
set_option maxHeartbeats 4000000 in
set_option maxRecDepth 100000 in
theorem c_X3_chosen (l : Launch) (G : Gm) (A : Nat → Prop) (q n : Nat) (op : Int32) (pt : Nat → Rat) (sg : Nat → Int32) (hn : n ≤ 2) : Mz l yX3_chosen cX3_chosen 4 (some (.object "FormulaHouse$LineSet")) (⟨4, 4, 969, 81⟩ : Room) G A [.ref q, .int op] (fun H => Sg G A H q n pt sg) (po_X3_chosen G A q n op pt sg) := by
  refine of_met (by decide) (Nat.le_of_ble_eq_true rfl) ?_
  intro p e s m below meth c ls B hA ⟨pa, ca, ob, hr, ⟨f, ar, hf⟩⟩ hl
  have hcz := czn_le (fun j => chB op (sg j)) n
  have loop : ∀ (n2 k : Nat) (H : Heap) (ls : Array Slot), 2 * n + 2 ≤ k + n2 → k ≤ 2 * n + 1 → Ex s.heap H → ZrM G H s.heap.size (2 * n + 1) k (fun j => chB op (sg j)) → lv_has ls 4 [(3, .int (nI k)), (2, .ref s.heap.size), (0, .ref q), (1, .int op)] → W p l e (⟨4, 4, 969, 81⟩ : Room) s m ([.ref q, .int op] : List Value).toArray below meth c H [] 1 5 (MQ below (Qz (po_X3_chosen G A q n op pt sg)) ([.ref q, .int op] : List Value).toArray s (⟨4, 4, 969, 81⟩ : Room).cells (⟨4, 4, 969, 81⟩ : Room).slots (fun _ => False)) (F0 m 10 ls []) := by
    intro n2
    induction n2 with
    | zero => intro k H ls h1 h2; omega
    | succ n2 ih =>
      intro k H ls hn2 hk hE hm hl
      have ob1 := ob.mv (hE.mv A)
      have ar1 := ar.mv (hE.mv A)
      obtain ⟨fm, hfm, hfms⟩ := id hm
      refine pb_blk B.hx B.hb (lv' := [(3, .int (nI k)), (2, .ref s.heap.size), (0, .ref q), (1, .int op)]) (st' := [.ref q, .int (nI k)]) hl bkX3_chosen_10_12 rfl (fun ls hl => ?_)
      refine z_get B ciX3 1 (by decide) ob1 wd_F_X3_15 rfl dX3_chosen_12 ?_
      refine z_alen B 0 rfl ar1.2 dX3_chosen_15 ?_
      refine lv_icmp_ge (tgt := 85) B.hx B.hb dX3_chosen_16 (by decide) (fun h1 => ?_) (fun h1 => ?_)
      · have e4 : k = 2 * n + 1 := by have := nI_nlt_le (show 2 * n + 1 < 2 ^ 31 by omega) (k2_nlt h1); omega
        rw [e4] at hm
        have hr1 := hr.mv (hE.mv A)
        obtain ⟨fr, arr, hfr⟩ := id hr1
        refine pb_blk B.hx B.hb (lv' := [(3, .int (nI k)), (2, .ref s.heap.size), (0, .ref q), (1, .int op)]) (st' := [.ref q]) hl bkX3_chosen_85_86 rfl (fun ls hl => ?_)
        refine z_get B ciX3 0 (by decide) ob1 wd_F_X3_9 rfl dX3_chosen_86 ?_
        refine pb_blk B.hx B.hb (lv' := [(3, .int (nI k)), (2, .ref s.heap.size), (0, .ref q), (1, .int op)]) (st' := [.ref q, .ref s.heap.size, .ref pa]) hl bkX3_chosen_89_91 rfl (fun ls hl => ?_)
        refine z_get B ciX3 0 (by decide) ob1 wd_F_X3_9 rfl dX3_chosen_91 ?_
        refine z_alen B 3 rfl arr.2 dX3_chosen_94 ?_
        obtain ⟨fz, hfz, hfzs⟩ := hm
        have hzp : ZrP G A H s.heap.size (2 * n + 1) (2 * n + 1) (fun j => chB op (sg j)) := ⟨fz, ⟨hA_no hA (Nat.le_refl _), hfz⟩, hfzs⟩
        have hE0 := hE
        refine z_callS B (c_X2_ofCells l G A pa s.heap.size n (2 * n + 1) n pt (fun j => chB op (sg j)) (Nat.le_refl _) (Nat.le_refl _) (by omega) (by omega) (by omega) (by omega)) cy_X2_ofCells st_X2_ofCells wd_M_X3_81 (hA_up hA hE.1) ⟨hr1, hzp⟩ rfl hl.1 rfl (Nat.le_of_ble_eq_true rfl) ⟨by decide, by decide⟩ ⟨(by (try dsimp only); omega), (by (try dsimp only); omega)⟩ dX3_chosen_95 (fun v H2 hE hv => ?_)
        obtain ⟨q2, rfl, hq2⟩ := hv
        exact z_aret B (Or.inl ⟨_, rfl⟩) dX3_chosen_98 (hE0.trans hE) ⟨_, rfl, hq2⟩ (by (try dsimp only); omega) (by (try dsimp only); omega)
      · have hk4 : k < 2 * n + 1 := (nI_ltI (by omega) (by omega)).mp (k2_lt h1)
        refine pb_blk B.hx B.hb (lv' := [(3, .int (nI k)), (2, .ref s.heap.size), (0, .ref q), (1, .int op)]) (st' := [.int op, .int (nI k), .ref s.heap.size]) hl bkX3_chosen_19_22 rfl (fun ls hl => ?_)
        refine lv_if_ne (tgt := 42) B.hx B.hb dX3_chosen_22 (by decide) (fun h2 => ?_) (fun h2 => ?_)
        · refine pb_blk B.hx B.hb (lv' := [(3, .int (nI k)), (2, .ref s.heap.size), (0, .ref q), (1, .int op)]) (st' := [.int 1, .int op, .int (nI k), .ref s.heap.size]) hl bkX3_chosen_42_44 rfl (fun ls hl => ?_)
          refine lv_icmp_ne (tgt := 64) B.hx B.hb dX3_chosen_44 (by decide) (fun h4 => ?_) (fun h4 => ?_)
          · refine pb_blk B.hx B.hb (lv' := [(3, .int (nI k)), (2, .ref s.heap.size), (0, .ref q), (1, .int op)]) (st' := [.ref q, .int (nI k), .ref s.heap.size]) hl bkX3_chosen_64_65 rfl (fun ls hl => ?_)
            refine z_get B ciX3 1 (by decide) ob1 wd_F_X3_15 rfl dX3_chosen_65 ?_
            refine pb_blk B.hx B.hb (lv' := [(3, .int (nI k)), (2, .ref s.heap.size), (0, .ref q), (1, .int op)]) (st' := [.int (nI k), .ref ca, .int (nI k), .ref s.heap.size]) hl bkX3_chosen_68_69 rfl (fun ls hl => ?_)
            refine z_iald B ar1.2 (vp_in_nI hk4 (by omega)) (v := .int (sg k)) (by rw [nI_clamp (by omega)]; exact hf k hk4) dX3_chosen_69 ?_
            refine lv_if_gt (tgt := 77) B.hx B.hb dX3_chosen_70 (by decide) (fun h3 => ?_) (fun h3 => ?_)
            · have e0 : chB op (sg k) = false := by rw [chB, if_neg h2, if_neg h4, decide_eq_false (k4_nle h3)]
              refine pb_blk B.hx B.hb (lv' := [(3, .int (nI k)), (2, .ref s.heap.size), (0, .ref q), (1, .int op)]) (st' := [.int 0, .int (nI k), .ref s.heap.size]) hl bkX3_chosen_77_78 rfl (fun ls hl => ?_)
              refine z_zast B hfm (vp_in_nI hk4 (by omega)) (x := 0) rfl dX3_chosen_78 (fun J1 v1 y1 p1 => ?_)
              rw [nI_clamp (by omega)] at v1
              refine z_forget (Nat.le_refl _) ?_
              have hm1 : ZrM G J1 s.heap.size (2 * n + 1) (k + 1) (fun j => chB op (sg j)) := ZrM.put (x := chB op (sg k)) hfms (by rw [e0]; exact v1) (fun j g2 g3 => ⟨by omega, rfl⟩) (fun _ => rfl)
              refine pb_blk B.hx B.hb (lv' := [(3, .int ((nI k) + 1)), (2, .ref s.heap.size), (0, .ref q), (1, .int op)]) (st' := []) hl bkX3_chosen_79_10 rfl (fun ls hl => ?_)
              exact ih (k + 1) J1 ls (by omega) hk4 (hE.put y1 p1 (Nat.le_refl _)) hm1 (by rw [← nI_1]; exact lv_sub hl [0, 1, 2, 3] rfl)
            · have e0 : chB op (sg k) = true := by rw [chB, if_neg h2, if_neg h4, decide_eq_true (k4_le h3)]
              refine pb_blk B.hx B.hb (lv' := [(3, .int (nI k)), (2, .ref s.heap.size), (0, .ref q), (1, .int op)]) (st' := [.int 1, .int (nI k), .ref s.heap.size]) hl bkX3_chosen_73_78 rfl (fun ls hl => ?_)
              refine z_zast B hfm (vp_in_nI hk4 (by omega)) (x := 1) rfl dX3_chosen_78 (fun J1 v1 y1 p1 => ?_)
              rw [nI_clamp (by omega)] at v1
              refine z_forget (Nat.le_refl _) ?_
              have hm1 : ZrM G J1 s.heap.size (2 * n + 1) (k + 1) (fun j => chB op (sg j)) := ZrM.put (x := chB op (sg k)) hfms (by rw [e0]; exact v1) (fun j g2 g3 => ⟨by omega, rfl⟩) (fun _ => rfl)
              refine pb_blk B.hx B.hb (lv' := [(3, .int ((nI k) + 1)), (2, .ref s.heap.size), (0, .ref q), (1, .int op)]) (st' := []) hl bkX3_chosen_79_10 rfl (fun ls hl => ?_)
              exact ih (k + 1) J1 ls (by omega) hk4 (hE.put y1 p1 (Nat.le_refl _)) hm1 (by rw [← nI_1]; exact lv_sub hl [0, 1, 2, 3] rfl)
          · refine pb_blk B.hx B.hb (lv' := [(3, .int (nI k)), (2, .ref s.heap.size), (0, .ref q), (1, .int op)]) (st' := [.ref q, .int (nI k), .ref s.heap.size]) hl bkX3_chosen_47_48 rfl (fun ls hl => ?_)
            refine z_get B ciX3 1 (by decide) ob1 wd_F_X3_15 rfl dX3_chosen_48 ?_
            refine pb_blk B.hx B.hb (lv' := [(3, .int (nI k)), (2, .ref s.heap.size), (0, .ref q), (1, .int op)]) (st' := [.int (nI k), .ref ca, .int (nI k), .ref s.heap.size]) hl bkX3_chosen_51_52 rfl (fun ls hl => ?_)
            refine z_iald B ar1.2 (vp_in_nI hk4 (by omega)) (v := .int (sg k)) (by rw [nI_clamp (by omega)]; exact hf k hk4) dX3_chosen_52 ?_
            refine lv_if_ge (tgt := 60) B.hx B.hb dX3_chosen_53 (by decide) (fun h3 => ?_) (fun h3 => ?_)
            · have e0 : chB op (sg k) = false := by rw [chB, if_neg h2, if_pos h4, decide_eq_false (k2_nlt h3)]
              refine pb_blk B.hx B.hb (lv' := [(3, .int (nI k)), (2, .ref s.heap.size), (0, .ref q), (1, .int op)]) (st' := [.int 0, .int (nI k), .ref s.heap.size]) hl bkX3_chosen_60_78 rfl (fun ls hl => ?_)
              refine z_zast B hfm (vp_in_nI hk4 (by omega)) (x := 0) rfl dX3_chosen_78 (fun J1 v1 y1 p1 => ?_)
              rw [nI_clamp (by omega)] at v1
              refine z_forget (Nat.le_refl _) ?_
              have hm1 : ZrM G J1 s.heap.size (2 * n + 1) (k + 1) (fun j => chB op (sg j)) := ZrM.put (x := chB op (sg k)) hfms (by rw [e0]; exact v1) (fun j g2 g3 => ⟨by omega, rfl⟩) (fun _ => rfl)
              refine pb_blk B.hx B.hb (lv' := [(3, .int ((nI k) + 1)), (2, .ref s.heap.size), (0, .ref q), (1, .int op)]) (st' := []) hl bkX3_chosen_79_10 rfl (fun ls hl => ?_)
              exact ih (k + 1) J1 ls (by omega) hk4 (hE.put y1 p1 (Nat.le_refl _)) hm1 (by rw [← nI_1]; exact lv_sub hl [0, 1, 2, 3] rfl)
            · have e0 : chB op (sg k) = true := by rw [chB, if_neg h2, if_pos h4, decide_eq_true (k2_lt h3)]
              refine pb_blk B.hx B.hb (lv' := [(3, .int (nI k)), (2, .ref s.heap.size), (0, .ref q), (1, .int op)]) (st' := [.int 1, .int (nI k), .ref s.heap.size]) hl bkX3_chosen_56_78 rfl (fun ls hl => ?_)
              refine z_zast B hfm (vp_in_nI hk4 (by omega)) (x := 1) rfl dX3_chosen_78 (fun J1 v1 y1 p1 => ?_)
              rw [nI_clamp (by omega)] at v1
              refine z_forget (Nat.le_refl _) ?_
              have hm1 : ZrM G J1 s.heap.size (2 * n + 1) (k + 1) (fun j => chB op (sg j)) := ZrM.put (x := chB op (sg k)) hfms (by rw [e0]; exact v1) (fun j g2 g3 => ⟨by omega, rfl⟩) (fun _ => rfl)
              refine pb_blk B.hx B.hb (lv' := [(3, .int ((nI k) + 1)), (2, .ref s.heap.size), (0, .ref q), (1, .int op)]) (st' := []) hl bkX3_chosen_79_10 rfl (fun ls hl => ?_)
              exact ih (k + 1) J1 ls (by omega) hk4 (hE.put y1 p1 (Nat.le_refl _)) hm1 (by rw [← nI_1]; exact lv_sub hl [0, 1, 2, 3] rfl)
        · refine pb_blk B.hx B.hb (lv' := [(3, .int (nI k)), (2, .ref s.heap.size), (0, .ref q), (1, .int op)]) (st' := [.ref q, .int (nI k), .ref s.heap.size]) hl bkX3_chosen_25_26 rfl (fun ls hl => ?_)
          refine z_get B ciX3 1 (by decide) ob1 wd_F_X3_15 rfl dX3_chosen_26 ?_
          refine pb_blk B.hx B.hb (lv' := [(3, .int (nI k)), (2, .ref s.heap.size), (0, .ref q), (1, .int op)]) (st' := [.int (nI k), .ref ca, .int (nI k), .ref s.heap.size]) hl bkX3_chosen_29_30 rfl (fun ls hl => ?_)
          refine z_iald B ar1.2 (vp_in_nI hk4 (by omega)) (v := .int (sg k)) (by rw [nI_clamp (by omega)]; exact hf k hk4) dX3_chosen_30 ?_
          refine lv_if_ne (tgt := 38) B.hx B.hb dX3_chosen_31 (by decide) (fun h3 => ?_) (fun h3 => ?_)
          · have e0 : chB op (sg k) = false := by rw [chB, if_pos h2, decide_eq_false h3]
            refine pb_blk B.hx B.hb (lv' := [(3, .int (nI k)), (2, .ref s.heap.size), (0, .ref q), (1, .int op)]) (st' := [.int 0, .int (nI k), .ref s.heap.size]) hl bkX3_chosen_38_78 rfl (fun ls hl => ?_)
            refine z_zast B hfm (vp_in_nI hk4 (by omega)) (x := 0) rfl dX3_chosen_78 (fun J1 v1 y1 p1 => ?_)
            rw [nI_clamp (by omega)] at v1
            refine z_forget (Nat.le_refl _) ?_
            have hm1 : ZrM G J1 s.heap.size (2 * n + 1) (k + 1) (fun j => chB op (sg j)) := ZrM.put (x := chB op (sg k)) hfms (by rw [e0]; exact v1) (fun j g2 g3 => ⟨by omega, rfl⟩) (fun _ => rfl)
            refine pb_blk B.hx B.hb (lv' := [(3, .int ((nI k) + 1)), (2, .ref s.heap.size), (0, .ref q), (1, .int op)]) (st' := []) hl bkX3_chosen_79_10 rfl (fun ls hl => ?_)
            exact ih (k + 1) J1 ls (by omega) hk4 (hE.put y1 p1 (Nat.le_refl _)) hm1 (by rw [← nI_1]; exact lv_sub hl [0, 1, 2, 3] rfl)
          · have e0 : chB op (sg k) = true := by rw [chB, if_pos h2, decide_eq_true h3]
            refine pb_blk B.hx B.hb (lv' := [(3, .int (nI k)), (2, .ref s.heap.size), (0, .ref q), (1, .int op)]) (st' := [.int 1, .int (nI k), .ref s.heap.size]) hl bkX3_chosen_34_78 rfl (fun ls hl => ?_)
            refine z_zast B hfm (vp_in_nI hk4 (by omega)) (x := 1) rfl dX3_chosen_78 (fun J1 v1 y1 p1 => ?_)
            rw [nI_clamp (by omega)] at v1
            refine z_forget (Nat.le_refl _) ?_
            have hm1 : ZrM G J1 s.heap.size (2 * n + 1) (k + 1) (fun j => chB op (sg j)) := ZrM.put (x := chB op (sg k)) hfms (by rw [e0]; exact v1) (fun j g2 g3 => ⟨by omega, rfl⟩) (fun _ => rfl)
            refine pb_blk B.hx B.hb (lv' := [(3, .int ((nI k) + 1)), (2, .ref s.heap.size), (0, .ref q), (1, .int op)]) (st' := []) hl bkX3_chosen_79_10 rfl (fun ls hl => ?_)
            exact ih (k + 1) J1 ls (by omega) hk4 (hE.put y1 p1 (Nat.le_refl _)) hm1 (by rw [← nI_1]; exact lv_sub hl [0, 1, 2, 3] rfl)
  refine pb_blk B.hx B.hb (lv' := [(0, .ref q), (1, .int op)]) (st' := [.ref q]) hl bkX3_chosen_0_1 rfl (fun ls hl => ?_)
  refine z_get B ciX3 1 (by decide) ob wd_F_X3_15 rfl dX3_chosen_1 ?_
  refine z_alen B 0 rfl ar.2 dX3_chosen_4 ?_
  refine z_newa (atype := .boolean) (ty := .boolean) B 2 rfl rfl id wa_Z (nI_pos (by omega)) (N := 2 * n + 1) (nI_clamp (by omega)) (by show (2 * n + 1) * 1 ≤ _; omega) (by (try dsimp only); omega) (by (try dsimp only); omega) dX3_chosen_5 (fun H1 w1 z1 o1 => ?_)
  refine pb_blk B.hx B.hb (lv' := [(3, .int 0), (2, .ref s.heap.size), (0, .ref q), (1, .int op)]) (st' := []) hl bkX3_chosen_7_10 rfl (fun ls hl => ?_)
  refine W.widen (k := 1) (n := 5) (by omega) (by omega) ?_
  exact loop (2 * n + 2) 0 H1 ls (by omega) (by omega) (Ex.one z1 o1) ⟨_, w1, fun j hj => absurd hj (Nat.not_lt_zero _)⟩ (lv_sub hl [0, 1, 2, 3] rfl)

