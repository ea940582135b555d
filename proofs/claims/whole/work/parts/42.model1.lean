def po_X6_thrown (G : Gm) (A : Nat → Prop) (mo : Nat) (S : Sc) (ct : Ct) (k : Int32) : Option Value → Prop := fun v => v = some (.int k)
theorem bkX6_thrown_0_1 : pb_chk cX6_thrown 0 [.aload_n 0] = some 1 := by decide +kernel
theorem dX6_thrown_1 : decode cX6_thrown 1 = .ok (.getfield 63, 3) := by decide +kernel
theorem dX6_thrown_4 : decode cX6_thrown 4 = .ok (.ireturn, 1) := by decide +kernel
set_option maxHeartbeats 4000000 in
set_option maxRecDepth 100000 in
theorem c_X6_thrown (l : Launch) (G : Gm) (A : Nat → Prop) (mo : Nat) (S : Sc) (ct : Ct) (k : Int32) (hS0 : S 0 = .int k) : Mn l yX6_thrown cX6_thrown 1 (some .int) (⟨0, 0, 0, 0⟩ : Room) G [.ref mo] (fun H => MS G H mo S ct) (po_X6_thrown G A mo S ct k) := by
  refine of_met (by decide) (Nat.le_of_ble_eq_true rfl) ?_
  intro p e s m below meth c ls B hA hM0 hl
  have hw := Mw.start hM0
  refine pb_blk B.hx B.hb (lv' := [(0, .ref mo)]) (st' := [.ref mo]) hl bkX6_thrown_0_1 rfl (fun ls hl => ?_)
  refine m_get B hw 0 (by decide) wd_F_X6_63 (congrArg some hS0) dX6_thrown_1 ?_
  exact n_iret B dX6_thrown_4 rfl (Nat.le_refl _) (Nat.le_refl _)

def po_X6_raise (mo : Nat) (S : Sc) (ct : Ct) (k : Int32) : Option Value → Sc → Ct → Prop := fun v S2 ct2 => v = some (.int 0) ∧ S2 = va_up S 0 (.int k) ∧ ct2 = ct
theorem bkX6_raise_0_2 : pb_chk cX6_raise 0 [.aload_n 0, .iload_n 1] = some 2 := by decide +kernel
theorem dX6_raise_2 : decode cX6_raise 2 = .ok (.putfield 63, 3) := by decide +kernel
theorem bkX6_raise_5_6 : pb_chk cX6_raise 5 [.iconst 0] = some 6 := by decide +kernel
theorem dX6_raise_6 : decode cX6_raise 6 = .ok (.ireturn, 1) := by decide +kernel
set_option maxHeartbeats 4000000 in
set_option maxRecDepth 100000 in
theorem c_X6_raise (l : Launch) (G : Gm) (mo : Nat) (S : Sc) (ct : Ct) (k : Int32) : Mm l yX6_raise cX6_raise 2 (some .int) (⟨0, 0, 0, 0⟩ : Room) G mo S ct [.ref mo, .int k] (po_X6_raise mo S ct k) := by
  refine of_met (by decide) (Nat.le_of_ble_eq_true rfl) ?_
  intro p e s m below meth c ls B hA hM0 hl
  have hw := Mw.start hM0
  refine pb_blk B.hx B.hb (lv' := [(0, .ref mo), (1, .int k)]) (st' := [.int k, .ref mo]) hl bkX6_raise_0_2 rfl (fun ls hl => ?_)
  refine m_put B hw 0 (by decide) wd_F_X6_63 rfl rfl rfl rfl dX6_raise_2 (fun H locs hw => ?_)
  refine pb_blk B.hx B.hb (lv' := [(0, .ref mo), (1, .int k)]) (st' := [.int 0]) hl bkX6_raise_5_6 rfl (fun ls hl => ?_)
  exact m_iret (v := 0) B hw dX6_raise_6 (by exact ⟨rfl, rfl, rfl⟩) (Nat.le_of_ble_eq_true rfl) (Nat.le_of_ble_eq_true rfl)

def inB (v a b : Int64) : Bool := decide (a.toInt ≤ v.toInt) && decide (v.toInt ≤ b.toInt)
theorem inB_t {v a b : Int64} : inB v a b = true ↔ a.toInt ≤ v.toInt ∧ v.toInt ≤ b.toInt := by simp [inB]

def po_X6_in (G : Gm) (A : Nat → Prop) (v0 a0 b0 : Int64) : Option Value → Prop := fun v => v = some (.int (b2i (inB v0 a0 b0)))
theorem bkX6_in_0_3 : pb_chk cX6_in 0 [.lload_n 0, .lload_n 2, .lcmp] = some 3 := by decide +kernel
theorem dX6_in_3 : decode cX6_in 3 = .ok (.ifCond .lt 14, 3) := by decide +kernel
theorem bkX6_in_17_18 : pb_chk cX6_in 17 [.iconst 0] = some 18 := by decide +kernel
theorem dX6_in_18 : decode cX6_in 18 = .ok (.ireturn, 1) := by decide +kernel
theorem bkX6_in_6_10 : pb_chk cX6_in 6 [.lload_n 0, .lload 4, .lcmp] = some 10 := by decide +kernel
theorem dX6_in_10 : decode cX6_in 10 = .ok (.ifCond .gt 7, 3) := by decide +kernel
theorem bkX6_in_13_18 : pb_chk cX6_in 13 [.iconst 1, .goto 4] = some 18 := by decide +kernel
set_option maxHeartbeats 4000000 in
set_option maxRecDepth 100000 in
theorem c_X6_in (l : Launch) (G : Gm) (A : Nat → Prop) (v0 a0 b0 : Int64) : Mn l yX6_in cX6_in 6 (some .boolean) (⟨0, 0, 0, 0⟩ : Room) G [.long v0, .long a0, .long b0] (fun _ => True) (po_X6_in G A v0 a0 b0) := by
  refine of_met (by decide) (Nat.le_of_ble_eq_true rfl) ?_
  intro p e s m below meth c ls B hA _ hl
  refine pb_blk B.hx B.hb (lv' := [(0, .long v0), (2, .long a0), (4, .long b0)]) (st' := [.int (lg_cmp v0 a0)]) hl bkX6_in_0_3 rfl (fun ls hl => ?_)
  refine lv_if_lt (tgt := 17) B.hx B.hb dX6_in_3 (by decide) (fun h1 => ?_) (fun h1 => ?_)
  · have e1 : inB v0 a0 b0 = false := by have h9 := (lg_cmp_lt _ _).mp h1; rw [Int64.lt_iff_toInt_lt] at h9; simp [inB]; omega
    refine pb_blk B.hx B.hb (lv' := [(0, .long v0), (2, .long a0), (4, .long b0)]) (st' := [.int 0]) hl bkX6_in_17_18 rfl (fun ls hl => ?_)
    exact n_zret B dX6_in_18 rfl (by rw [po_X6_in, e1]; rfl) (Nat.le_refl _) (Nat.le_refl _)
  · have g1 : a0.toInt ≤ v0.toInt := by have h9 : ¬ v0 < a0 := fun q => h1 ((lg_cmp_lt _ _).mpr q); rw [Int64.lt_iff_toInt_lt] at h9; omega
    refine pb_blk B.hx B.hb (lv' := [(0, .long v0), (2, .long a0), (4, .long b0)]) (st' := [.int (lg_cmp v0 b0)]) hl bkX6_in_6_10 rfl (fun ls hl => ?_)
    refine lv_if_gt (tgt := 17) B.hx B.hb dX6_in_10 (by decide) (fun h2 => ?_) (fun h2 => ?_)
    · have e1 : inB v0 a0 b0 = false := by have h9 := (lg_cmp_gt _ _).mp h2; rw [Int64.lt_iff_toInt_lt] at h9; simp [inB]; omega
      refine pb_blk B.hx B.hb (lv' := [(0, .long v0), (2, .long a0), (4, .long b0)]) (st' := [.int 0]) hl bkX6_in_17_18 rfl (fun ls hl => ?_)
      exact n_zret B dX6_in_18 rfl (by rw [po_X6_in, e1]; rfl) (Nat.le_refl _) (Nat.le_refl _)
    · have e1 : inB v0 a0 b0 = true := by have h9 : ¬ b0 < v0 := fun q => h2 ((lg_cmp_gt _ _).mpr q); rw [Int64.lt_iff_toInt_lt] at h9; simp [inB]; omega
      refine pb_blk B.hx B.hb (lv' := [(0, .long v0), (2, .long a0), (4, .long b0)]) (st' := [.int 1]) hl bkX6_in_13_18 rfl (fun ls hl => ?_)
      exact n_zret B dX6_in_18 rfl (by rw [po_X6_in, e1]; rfl) (Nat.le_refl _) (Nat.le_refl _)

theorem ab_p {x : Int64} (h : 0 ≤ x) : x = lN x.toInt.natAbs := by
  have h0 : 0 ≤ x.toInt := Kit.i64_nonneg.mp h
  have := x.toInt_lt
  exact i64_eq (by rw [pk_lT (by omega)]; omega)
theorem ab_n {x : Int64} (h : ¬ 0 ≤ x) (hm : x.toInt ≠ -2 ^ 63) : -x = lN x.toInt.natAbs := by
  have h0 : ¬ 0 ≤ x.toInt := mt Kit.i64_nonneg.mpr h
  have := x.le_toInt
  exact i64_eq (by rw [Kit.i64_neg hm, pk_lT (by omega)]; omega)

def po_X6_divisor (G : Gm) (A : Nat → Prop) (a b : Int64) : Option Value → Prop := fun v => v = some (.long (lN (Nat.gcd a.toInt.natAbs b.toInt.natAbs)))
theorem bkX6_divisor_0_3 : pb_chk cX6_divisor 0 [.lload_n 0, .lconst 0, .lcmp] = some 3 := by decide +kernel
theorem dX6_divisor_3 : decode cX6_divisor 3 = .ok (.ifCond .ge 8, 3) := by decide +kernel
theorem bkX6_divisor_11_17 : pb_chk cX6_divisor 11 [.lload_n 0, .lstore 4, .lload_n 2, .lconst 0, .lcmp] = some 17 := by decide +kernel
theorem dX6_divisor_17 : decode cX6_divisor 17 = .ok (.ifCond .ge 8, 3) := by decide +kernel
theorem bkX6_divisor_25_28 : pb_chk cX6_divisor 25 [.lload_n 2, .lstore 6] = some 28 := by decide +kernel
theorem bkX6_divisor_20_28 : pb_chk cX6_divisor 20 [.lload_n 2, .lneg, .goto 4, .lstore 6] = some 28 := by decide +kernel
theorem bkX6_divisor_6_17 : pb_chk cX6_divisor 6 [.lload_n 0, .lneg, .goto 4, .lstore 4, .lload_n 2, .lconst 0, .lcmp] = some 17 := by decide +kernel
theorem bkX6_divisor_28_32 : pb_chk cX6_divisor 28 [.lload 6, .lconst 0, .lcmp] = some 32 := by decide +kernel
theorem dX6_divisor_32 : decode cX6_divisor 32 = .ok (.ifCond .eq 21, 3) := by decide +kernel
theorem bkX6_divisor_53_55 : pb_chk cX6_divisor 53 [.lload 4] = some 55 := by decide +kernel
theorem dX6_divisor_55 : decode cX6_divisor 55 = .ok (.lreturn, 1) := by decide +kernel
theorem bkX6_divisor_35_39 : pb_chk cX6_divisor 35 [.lload 4, .lload 6] = some 39 := by decide +kernel
theorem dX6_divisor_39 : decode cX6_divisor 39 = .ok (.lrem, 1) := by decide +kernel
theorem bkX6_divisor_40_28 : pb_chk cX6_divisor 40 [.lstore 8, .lload 6, .lstore 4, .lload 8, .lstore 6, .goto (-22)] = some 28 := by decide +kernel
set_option maxHeartbeats 4000000 in
set_option maxRecDepth 100000 in
theorem c_X6_divisor (l : Launch) (G : Gm) (A : Nat → Prop) (a b : Int64) (ha : a.toInt ≠ -2 ^ 63) (hb : b.toInt ≠ -2 ^ 63) : Mn l yX6_divisor cX6_divisor 10 (some .long) (⟨0, 0, 0, 0⟩ : Room) G [.long a, .long b] (fun _ => True) (po_X6_divisor G A a b) := by
  refine of_met (by decide) (Nat.le_of_ble_eq_true rfl) ?_
  intro p e s m below meth c ls B hA _ hl
  have ha3 : a.toInt.natAbs < 2 ^ 63 := by have := a.toInt_lt; have := a.le_toInt; omega
  have hb3 : b.toInt.natAbs < 2 ^ 63 := by have := b.toInt_lt; have := b.le_toInt; omega
  have loop : ∀ (n X Y : Nat) (ls : Array Slot), Y < n → X < 2 ^ 63 → Y < 2 ^ 63 → Nat.gcd X Y = Nat.gcd a.toInt.natAbs b.toInt.natAbs → lv_has ls 10 [(6, .long (lN Y)), (4, .long (lN X))] → W p l e (⟨0, 0, 0, 0⟩ : Room) s m ([.long a, .long b] : List Value).toArray below meth c s.heap [] 0 0 (MQ below (Qn (po_X6_divisor G A a b)) ([.long a, .long b] : List Value).toArray s (⟨0, 0, 0, 0⟩ : Room).cells (⟨0, 0, 0, 0⟩ : Room).slots (fun _ => False)) (F0 m 28 ls []) := by
    intro n
    induction n with
    | zero => intro X Y ls h1; omega
    | succ n ih =>
      intro X Y ls hn hX hY hg hl
      refine pb_blk B.hx B.hb (lv' := [(6, .long (lN Y)), (4, .long (lN X))]) (st' := [.int (lg_cmp (lN Y) 0)]) hl bkX6_divisor_28_32 rfl (fun ls hl => ?_)
      refine lv_if_eq (tgt := 53) B.hx B.hb dX6_divisor_32 (by decide) (fun h1 => ?_) (fun h1 => ?_)
      · have e0 : Y = 0 := (pk_lEQ hY (by decide)).mp (show lN Y = lN 0 from (lg_cmp_eq _ _).mp h1)
        refine pb_blk B.hx B.hb (lv' := [(6, .long (lN Y)), (4, .long (lN X))]) (st' := [.long (lN X)]) hl bkX6_divisor_53_55 rfl (fun ls hl => ?_)
        exact n_lret B dX6_divisor_55 (by rw [po_X6_divisor, ← hg, e0, Nat.gcd_zero_right]) (Nat.le_refl _) (Nat.le_refl _)
      · have h0 : Y ≠ 0 := fun e0 => h1 ((lg_cmp_eq _ _).mpr (by rw [e0]; rfl))
        have hm := Nat.mod_lt X (Nat.pos_of_ne_zero h0)
        refine pb_blk B.hx B.hb (lv' := [(6, .long (lN Y)), (4, .long (lN X))]) (st' := [.long (lN Y), .long (lN X)]) hl bkX6_divisor_35_39 rfl (fun ls hl => ?_)
        refine lv_lrem B.hx B.hb dX6_divisor_39 (lN_ne0 hY h0) ?_
        rw [pk_lRem hX (Nat.pos_of_ne_zero h0) hY]
        refine pb_blk B.hx B.hb (lv' := [(6, .long (lN (X % Y))), (4, .long (lN Y)), (8, .long (lN (X % Y)))]) (st' := []) hl bkX6_divisor_40_28 rfl (fun ls hl => ?_)
        exact ih Y (X % Y) ls (by omega) hY (by omega) (by rw [← hg, Nat.gcd_comm Y, ← Nat.gcd_rec, Nat.gcd_comm]) (lv_sub hl [0, 1] rfl)
  refine pb_blk B.hx B.hb (lv' := [(0, .long a), (2, .long b)]) (st' := [.int (lg_cmp a 0)]) hl bkX6_divisor_0_3 rfl (fun ls hl => ?_)
  refine lv_if_ge (tgt := 11) B.hx B.hb dX6_divisor_3 (by decide) (fun h1 => ?_) (fun h1 => ?_)
  · have ea := ab_p ((lg_cmp_ge _ _).mp h1)
    refine pb_blk B.hx B.hb (lv' := [(4, .long a), (0, .long a), (2, .long b)]) (st' := [.int (lg_cmp b 0)]) hl bkX6_divisor_11_17 rfl (fun ls hl => ?_)
    refine lv_if_ge (tgt := 25) B.hx B.hb dX6_divisor_17 (by decide) (fun h2 => ?_) (fun h2 => ?_)
    · have eb := ab_p ((lg_cmp_ge _ _).mp h2)
      refine pb_blk B.hx B.hb (lv' := [(6, .long b), (4, .long a), (0, .long a), (2, .long b)]) (st' := []) hl bkX6_divisor_25_28 rfl (fun ls hl => ?_)
      exact loop (b.toInt.natAbs + 1) a.toInt.natAbs b.toInt.natAbs ls (Nat.lt_succ_self _) ha3 hb3 rfl (by have h9 := lv_sub hl [0, 1] rfl; rw [ea, eb] at h9; exact h9)
    · have eb := ab_n (fun q => h2 ((lg_cmp_ge _ _).mpr q)) hb
      refine pb_blk B.hx B.hb (lv' := [(6, .long (-b)), (4, .long a), (0, .long a), (2, .long b)]) (st' := []) hl bkX6_divisor_20_28 rfl (fun ls hl => ?_)
      exact loop (b.toInt.natAbs + 1) a.toInt.natAbs b.toInt.natAbs ls (Nat.lt_succ_self _) ha3 hb3 rfl (by have h9 := lv_sub hl [0, 1] rfl; rw [ea, eb] at h9; exact h9)
  · have ea := ab_n (fun q => h1 ((lg_cmp_ge _ _).mpr q)) ha
    refine pb_blk B.hx B.hb (lv' := [(4, .long (-a)), (0, .long a), (2, .long b)]) (st' := [.int (lg_cmp b 0)]) hl bkX6_divisor_6_17 rfl (fun ls hl => ?_)
    refine lv_if_ge (tgt := 25) B.hx B.hb dX6_divisor_17 (by decide) (fun h2 => ?_) (fun h2 => ?_)
    · have eb := ab_p ((lg_cmp_ge _ _).mp h2)
      refine pb_blk B.hx B.hb (lv' := [(6, .long b), (4, .long (-a)), (0, .long a), (2, .long b)]) (st' := []) hl bkX6_divisor_25_28 rfl (fun ls hl => ?_)
      exact loop (b.toInt.natAbs + 1) a.toInt.natAbs b.toInt.natAbs ls (Nat.lt_succ_self _) ha3 hb3 rfl (by have h9 := lv_sub hl [0, 1] rfl; rw [ea, eb] at h9; exact h9)
    · have eb := ab_n (fun q => h2 ((lg_cmp_ge _ _).mpr q)) hb
      refine pb_blk B.hx B.hb (lv' := [(6, .long (-b)), (4, .long (-a)), (0, .long a), (2, .long b)]) (st' := []) hl bkX6_divisor_20_28 rfl (fun ls hl => ?_)
      exact loop (b.toInt.natAbs + 1) a.toInt.natAbs b.toInt.natAbs ls (Nat.lt_succ_self _) ha3 hb3 rfl (by have h9 := lv_sub hl [0, 1] rfl; rw [ea, eb] at h9; exact h9)

theorem lw_pos {a b g : Int64} (hb : b.toInt ≠ 0) (hb2 : b.toInt.natAbs < 2 ^ 48) (hg : g = lN (Nat.gcd a.toInt.natAbs b.toInt.natAbs)) (h : ¬ b < 0) : ¬ g = 0 ∧ Frx (a / g) (b / g) (Rat.divInt a.toInt b.toInt) := by
  have h1 : 0 < Nat.gcd a.toInt.natAbs b.toInt.natAbs := Nat.gcd_pos_of_pos_right _ (by omega)
  have hg' : g = lN (max (Nat.gcd a.toInt.natAbs b.toInt.natAbs) 1) := by rw [Nat.max_eq_left h1]; exact hg
  exact ⟨(fx_g hb hb2 hg').2.1, fx_pos hb hb2 hg' h⟩
theorem lw_neg {a b g : Int64} (ha : a.toInt ≠ -2 ^ 63) (hb : b.toInt ≠ 0) (hb2 : b.toInt.natAbs < 2 ^ 48) (hg : g = lN (Nat.gcd a.toInt.natAbs b.toInt.natAbs)) (h : b < 0) : ¬ g = 0 ∧ Frx (-(a / g)) (-(b / g)) (Rat.divInt a.toInt b.toInt) := by
  have h1 : 0 < Nat.gcd a.toInt.natAbs b.toInt.natAbs := Nat.gcd_pos_of_pos_right _ (by omega)
  have hg' : g = lN (max (Nat.gcd a.toInt.natAbs b.toInt.natAbs) 1) := by rw [Nat.max_eq_left h1]; exact hg
  obtain ⟨e1, e2, -⟩ := fx_g hb hb2 hg'
  have hgm : g.toInt ≠ -1 := by omega
  have hf := fx_neg ha hb hb2 hg' h
  have k1 : -(a / g) = -a / g := i64_eq (by
    have hd : (a / g).toInt = a.toInt.tdiv g.toInt := Kit.i64_div (fun q => hgm q.2)
    have hbd : (a.toInt.tdiv g.toInt).natAbs ≤ a.toInt.natAbs := by rw [Int.natAbs_tdiv]; exact Nat.div_le_self _ _
    have r1 := a.toInt_lt
    have r2 := a.le_toInt
    rw [Kit.i64_neg (by rw [hd]; omega), hd, Kit.i64_div (fun q => hgm q.2), Kit.i64_neg ha, Int.neg_tdiv])
  have k2 : -(b / g) = -b / g := i64_eq (by
    have hd : (b / g).toInt = b.toInt.tdiv g.toInt := Kit.i64_div (fun q => hgm q.2)
    have hbd : (b.toInt.tdiv g.toInt).natAbs ≤ b.toInt.natAbs := by rw [Int.natAbs_tdiv]; exact Nat.div_le_self _ _
    rw [Kit.i64_neg (by rw [hd]; omega), hd, Kit.i64_div (fun q => hgm q.2), Kit.i64_neg (by omega), Int.neg_tdiv])
  rw [k1, k2]
  exact ⟨e2, hf⟩

def po_X6_lowest (mo : Nat) (S : Sc) (ct : Ct) (a b : Int64) : Option Value → Sc → Ct → Prop := fun v S2 ct2 => v = none ∧ ct2 = ct ∧ ∃ n d : Int64, S2 = va_up (va_up S 13 (.long n)) 14 (.long d) ∧ Frx n d (Rat.divInt a.toInt b.toInt)
theorem bkX6_lowest_0_2 : pb_chk cX6_lowest 0 [.lload_n 1, .lload_n 3] = some 2 := by decide +kernel
theorem dX6_lowest_2 : decode cX6_lowest 2 = .ok (.invokestatic 67, 3) := by decide +kernel
theorem bkX6_lowest_5_11 : pb_chk cX6_lowest 5 [.lstore 5, .aload_n 0, .lload_n 3, .lconst 0, .lcmp] = some 11 := by decide +kernel
theorem dX6_lowest_11 : decode cX6_lowest 11 = .ok (.ifCond .ge 11, 3) := by decide +kernel
theorem bkX6_lowest_22_25 : pb_chk cX6_lowest 22 [.lload_n 1, .lload 5] = some 25 := by decide +kernel
theorem dX6_lowest_25 : decode cX6_lowest 25 = .ok (.ldiv, 1) := by decide +kernel
theorem dX6_lowest_26 : decode cX6_lowest 26 = .ok (.putfield 71, 3) := by decide +kernel
theorem bkX6_lowest_29_33 : pb_chk cX6_lowest 29 [.aload_n 0, .lload_n 3, .lconst 0, .lcmp] = some 33 := by decide +kernel
theorem dX6_lowest_33 : decode cX6_lowest 33 = .ok (.ifCond .ge 11, 3) := by decide +kernel
theorem bkX6_lowest_44_47 : pb_chk cX6_lowest 44 [.lload_n 3, .lload 5] = some 47 := by decide +kernel
theorem dX6_lowest_47 : decode cX6_lowest 47 = .ok (.ldiv, 1) := by decide +kernel
theorem dX6_lowest_48 : decode cX6_lowest 48 = .ok (.putfield 75, 3) := by decide +kernel
theorem dX6_lowest_51 : decode cX6_lowest 51 = .ok (.return_, 1) := by decide +kernel
theorem bkX6_lowest_14_17 : pb_chk cX6_lowest 14 [.lload_n 1, .lload 5] = some 17 := by decide +kernel
theorem dX6_lowest_17 : decode cX6_lowest 17 = .ok (.ldiv, 1) := by decide +kernel
theorem bkX6_lowest_18_26 : pb_chk cX6_lowest 18 [.lneg, .goto 7] = some 26 := by decide +kernel
theorem bkX6_lowest_36_39 : pb_chk cX6_lowest 36 [.lload_n 3, .lload 5] = some 39 := by decide +kernel
theorem dX6_lowest_39 : decode cX6_lowest 39 = .ok (.ldiv, 1) := by decide +kernel
theorem bkX6_lowest_40_48 : pb_chk cX6_lowest 40 [.lneg, .goto 7] = some 48 := by decide +kernel
set_option maxHeartbeats 4000000 in
set_option maxRecDepth 100000 in
theorem c_X6_lowest (l : Launch) (G : Gm) (mo : Nat) (S : Sc) (ct : Ct) (a b : Int64) (ha : a.toInt ≠ -2 ^ 63) (hb : b.toInt ≠ 0) (hb2 : b.toInt.natAbs < 2 ^ 48) : Mm l yX6_lowest cX6_lowest 7 none (⟨1, 0, 0, 29⟩ : Room) G mo S ct [.ref mo, .long a, .long b] (po_X6_lowest mo S ct a b) := by
  refine of_met (by decide) (Nat.le_of_ble_eq_true rfl) ?_
  intro p e s m below meth c ls B hA hM0 hl
  have hw := Mw.start hM0
  refine pb_blk B.hx B.hb (lv' := [(0, .ref mo), (1, .long a), (3, .long b)]) (st' := [.long b, .long a]) hl bkX6_lowest_0_2 rfl (fun ls hl => ?_)
  refine m_callS B (c_X6_divisor l G (fun _ => False) a b ha (by omega)) cy_X6_divisor st_X6_divisor wd_M_X6_67 trivial rfl hl.1 rfl (Nat.le_of_ble_eq_true rfl) ⟨by decide, by decide⟩ ⟨rfl, rfl⟩ ⟨Nat.le_refl _, Nat.le_refl _⟩ dX6_lowest_2 (fun v hv => ?_)
  obtain ⟨g, hg⟩ : ∃ g : Int64, g = lN (Nat.gcd a.toInt.natAbs b.toInt.natAbs) := ⟨_, rfl⟩
  rw [po_X6_divisor, ← hg] at hv
  subst hv
  refine pb_blk B.hx B.hb (lv' := [(5, .long g), (0, .ref mo), (1, .long a), (3, .long b)]) (st' := [.int (lg_cmp b 0), .ref mo]) hl bkX6_lowest_5_11 rfl (fun ls hl => ?_)
  refine lv_if_ge (tgt := 22) B.hx B.hb dX6_lowest_11 (by decide) (fun h1 => ?_) (fun h1 => ?_)
  · have hn : ¬ b < 0 := fun q => absurd ((lg_cmp_ge _ _).mp h1) (by rw [Int64.lt_iff_toInt_lt] at q; rw [Int64.le_iff_toInt_le]; omega)
    have hf := lw_pos hb hb2 hg hn
    refine pb_blk B.hx B.hb (lv' := [(5, .long g), (0, .ref mo), (1, .long a), (3, .long b)]) (st' := [.long g, .long a, .ref mo]) hl bkX6_lowest_22_25 rfl (fun ls hl => ?_)
    refine lv_ldiv B.hx B.hb dX6_lowest_25 hf.1 ?_
    refine m_put B hw 13 (by decide) wd_F_X6_71 rfl rfl rfl rfl dX6_lowest_26 (fun H locs hw => ?_)
    refine pb_blk B.hx B.hb (lv' := [(5, .long g), (0, .ref mo), (1, .long a), (3, .long b)]) (st' := [.int (lg_cmp b 0), .ref mo]) hl bkX6_lowest_29_33 rfl (fun ls hl => ?_)
    refine lv_if_ge (tgt := 44) B.hx B.hb dX6_lowest_33 (by decide) (fun h2 => ?_) (fun h2 => ?_)
    · refine pb_blk B.hx B.hb (lv' := [(5, .long g), (0, .ref mo), (1, .long a), (3, .long b)]) (st' := [.long g, .long b, .ref mo]) hl bkX6_lowest_44_47 rfl (fun ls hl => ?_)
      refine lv_ldiv B.hx B.hb dX6_lowest_47 hf.1 ?_
      refine m_put B hw 14 (by decide) wd_F_X6_75 rfl rfl rfl rfl dX6_lowest_48 (fun H locs hw => ?_)
      exact m_vret B hw dX6_lowest_51 (by exact ⟨rfl, rfl, _, _, rfl, hf.2⟩) (Nat.le_of_ble_eq_true rfl) (Nat.le_of_ble_eq_true rfl)
    · exact absurd h1 h2
  · have hn : b < 0 := Int64.lt_iff_toInt_lt.mpr (Int.not_le.mp fun q => h1 ((lg_cmp_ge _ _).mpr (Int64.le_iff_toInt_le.mpr q)))
    have hf := lw_neg ha hb hb2 hg hn
    refine pb_blk B.hx B.hb (lv' := [(5, .long g), (0, .ref mo), (1, .long a), (3, .long b)]) (st' := [.long g, .long a, .ref mo]) hl bkX6_lowest_14_17 rfl (fun ls hl => ?_)
    refine lv_ldiv B.hx B.hb dX6_lowest_17 hf.1 ?_
    refine pb_blk B.hx B.hb (lv' := [(5, .long g), (0, .ref mo), (1, .long a), (3, .long b)]) (st' := [.long (-(a / g)), .ref mo]) hl bkX6_lowest_18_26 rfl (fun ls hl => ?_)
    refine m_put B hw 13 (by decide) wd_F_X6_71 rfl rfl rfl rfl dX6_lowest_26 (fun H locs hw => ?_)
    refine pb_blk B.hx B.hb (lv' := [(5, .long g), (0, .ref mo), (1, .long a), (3, .long b)]) (st' := [.int (lg_cmp b 0), .ref mo]) hl bkX6_lowest_29_33 rfl (fun ls hl => ?_)
    refine lv_if_ge (tgt := 44) B.hx B.hb dX6_lowest_33 (by decide) (fun h2 => ?_) (fun h2 => ?_)
    · exact absurd h2 h1
    · refine pb_blk B.hx B.hb (lv' := [(5, .long g), (0, .ref mo), (1, .long a), (3, .long b)]) (st' := [.long g, .long b, .ref mo]) hl bkX6_lowest_36_39 rfl (fun ls hl => ?_)
      refine lv_ldiv B.hx B.hb dX6_lowest_39 hf.1 ?_
      refine pb_blk B.hx B.hb (lv' := [(5, .long g), (0, .ref mo), (1, .long a), (3, .long b)]) (st' := [.long (-(b / g)), .ref mo]) hl bkX6_lowest_40_48 rfl (fun ls hl => ?_)
      refine m_put B hw 14 (by decide) wd_F_X6_75 rfl rfl rfl rfl dX6_lowest_48 (fun H locs hw => ?_)
      exact m_vret B hw dX6_lowest_51 (by exact ⟨rfl, rfl, _, _, rfl, hf.2⟩) (Nat.le_of_ble_eq_true rfl) (Nat.le_of_ble_eq_true rfl)

def po_X6_sum (mo : Nat) (S : Sc) (ct : Ct) (a b c0 d : Int64) (r1 r2 : Rat) : Option Value → Sc → Ct → Prop := fun v S2 ct2 => v = none ∧ ct2 = ct ∧ ∃ n d : Int64, S2 = va_up (va_up S 13 (.long n)) 14 (.long d) ∧ Frx n d (r1 + r2)
theorem bkX6_sum_0_3 : pb_chk cX6_sum 0 [.lload_n 3, .lload 7] = some 3 := by decide +kernel
theorem dX6_sum_3 : decode cX6_sum 3 = .ok (.invokestatic 67, 3) := by decide +kernel
theorem bkX6_sum_6_14 : pb_chk cX6_sum 6 [.lstore 9, .aload_n 0, .lload_n 1, .lload 7, .lload 9] = some 14 := by decide +kernel
theorem dX6_sum_14 : decode cX6_sum 14 = .ok (.ldiv, 1) := by decide +kernel
theorem bkX6_sum_15_21 : pb_chk cX6_sum 15 [.lmul, .lload 5, .lload_n 3, .lload 9] = some 21 := by decide +kernel
theorem dX6_sum_21 : decode cX6_sum 21 = .ok (.ldiv, 1) := by decide +kernel
theorem bkX6_sum_22_29 : pb_chk cX6_sum 22 [.lmul, .ladd, .lload_n 3, .lload 7, .lload 9] = some 29 := by decide +kernel
theorem dX6_sum_29 : decode cX6_sum 29 = .ok (.ldiv, 1) := by decide +kernel
theorem bkX6_sum_30_31 : pb_chk cX6_sum 30 [.lmul] = some 31 := by decide +kernel
theorem dX6_sum_31 : decode cX6_sum 31 = .ok (.invokevirtual 78, 3) := by decide +kernel
theorem dX6_sum_34 : decode cX6_sum 34 = .ok (.return_, 1) := by decide +kernel
set_option maxHeartbeats 4000000 in
set_option maxRecDepth 100000 in
theorem c_X6_sum (l : Launch) (G : Gm) (mo : Nat) (S : Sc) (ct : Ct) (a b c0 d : Int64) (r1 r2 : Rat) (h1 : Frx a b r1) (h2 : Frx c0 d r2) (hp : Pb r1 r2) : Mm l yX6_sum cX6_sum 11 none (⟨2, 0, 0, 56⟩ : Room) G mo S ct [.ref mo, .long a, .long b, .long c0, .long d] (po_X6_sum mo S ct a b c0 d r1 r2) := by
  refine of_met (by decide) (Nat.le_of_ble_eq_true rfl) ?_
  intro p e s m below meth c ls B hA hM0 hl
  have hw := Mw.start hM0
  obtain ⟨pb, qb, -⟩ := fx_den h1
  obtain ⟨pd, qd, -⟩ := fx_den h2
  have hgp : 0 < Nat.gcd b.toInt.natAbs d.toInt.natAbs := Nat.gcd_pos_of_pos_left _ (by omega)
  refine pb_blk B.hx B.hb (lv' := [(0, .ref mo), (1, .long a), (3, .long b), (5, .long c0), (7, .long d)]) (st' := [.long d, .long b]) hl bkX6_sum_0_3 rfl (fun ls hl => ?_)
  refine m_callS B (c_X6_divisor l G (fun _ => False) b d (by omega) (by omega)) cy_X6_divisor st_X6_divisor wd_M_X6_67 trivial rfl hl.1 rfl (Nat.le_of_ble_eq_true rfl) ⟨by decide, by decide⟩ ⟨rfl, rfl⟩ ⟨Nat.le_refl _, Nat.le_refl _⟩ dX6_sum_3 (fun v hv => ?_)
  obtain ⟨g, hg⟩ : ∃ g : Int64, g = lN (Nat.gcd b.toInt.natAbs d.toInt.natAbs) := ⟨_, rfl⟩
  rw [po_X6_divisor, ← hg] at hv
  subst hv
  obtain ⟨k1, k2, k3, k4, k5⟩ := fx_sum (g := g) h1 h2 hp (by rw [Nat.max_eq_left hgp]; exact hg)
  refine pb_blk B.hx B.hb (lv' := [(9, .long g), (0, .ref mo), (1, .long a), (3, .long b), (5, .long c0), (7, .long d)]) (st' := [.long g, .long d, .long a, .ref mo]) hl bkX6_sum_6_14 rfl (fun ls hl => ?_)
  refine lv_ldiv B.hx B.hb dX6_sum_14 k1 ?_
  refine pb_blk B.hx B.hb (lv' := [(9, .long g), (0, .ref mo), (1, .long a), (3, .long b), (5, .long c0), (7, .long d)]) (st' := [.long g, .long b, .long c0, .long (a * (d / g)), .ref mo]) hl bkX6_sum_15_21 rfl (fun ls hl => ?_)
  refine lv_ldiv B.hx B.hb dX6_sum_21 k1 ?_
  refine pb_blk B.hx B.hb (lv' := [(9, .long g), (0, .ref mo), (1, .long a), (3, .long b), (5, .long c0), (7, .long d)]) (st' := [.long g, .long d, .long b, .long ((a * (d / g)) + (c0 * (b / g))), .ref mo]) hl bkX6_sum_22_29 rfl (fun ls hl => ?_)
  refine lv_ldiv B.hx B.hb dX6_sum_29 k1 ?_
  refine pb_blk B.hx B.hb (lv' := [(9, .long g), (0, .ref mo), (1, .long a), (3, .long b), (5, .long c0), (7, .long d)]) (st' := [.long (b * (d / g)), .long ((a * (d / g)) + (c0 * (b / g))), .ref mo]) hl bkX6_sum_30_31 rfl (fun ls hl => ?_)
  refine m_callV B hw (c_X6_lowest l G mo S ct (a * (d / g) + c0 * (b / g)) (b * (d / g)) k2 k3 k4) cy_X6_lowest im_X6_lowest se_X6_lowest wd_M_X6_78 rfl hl.1 rfl (Nat.le_of_ble_eq_true rfl) ⟨by decide, by decide⟩ ⟨rfl, rfl⟩ ⟨Nat.le_refl _, Nat.le_refl _⟩ dX6_sum_31 (fun v H locs S1 ct1 hw_1 hv => ?_)
  obtain ⟨rfl, rfl, n, d9, rfl, hf⟩ := hv
  have hw := hw_1
  rw [k5] at hf
  exact m_vret B hw dX6_sum_34 (by exact ⟨rfl, rfl, _, _, rfl, hf⟩) (Nat.le_of_ble_eq_true rfl) (Nat.le_of_ble_eq_true rfl)

theorem i64_dd {x g : Int64} {k : Nat} (hg : g.toInt = (k : Int)) (hk : 0 < k) (hd : (k : Int) ∣ x.toInt) : ∃ y : Int, x.toInt = k * y ∧ (x / g).toInt = y := by
  obtain ⟨y, hy⟩ := hd
  refine ⟨y, hy, ?_⟩
  rw [Kit.i64_div (fun q => by omega), hg, hy, Int.mul_tdiv_cancel_left _ (by omega)]
theorem fx_prod {a b c d g h : Int64} {r1 r2 : Rat} (h1 : Frx a b r1) (h2 : Frx c d r2) (hn : r1.num.natAbs * r2.num.natAbs < 2 ^ 62) (hd : r1.den * r2.den < 2 ^ 48)
    (hg : g = lN (Nat.gcd a.toInt.natAbs d.toInt.natAbs)) (hh : h = lN (Nat.gcd c.toInt.natAbs b.toInt.natAbs)) :
    ¬ g = 0 ∧ ¬ h = 0 ∧ (a / g * (c / h)).toInt ≠ -2 ^ 63 ∧ (b / h * (d / g)).toInt ≠ 0 ∧ (b / h * (d / g)).toInt.natAbs < 2 ^ 48 ∧ Rat.divInt (a / g * (c / h)).toInt (b / h * (d / g)).toInt = r1 * r2 := by
  obtain ⟨pb, qb, qa⟩ := fx_den h1
  obtain ⟨pd, qd, qc⟩ := fx_den h2
  have z1 := r1.den_pos
  have z2 := r2.den_pos
  have hdd : d.toInt.natAbs < 2 ^ 48 := by rw [qd]; exact Nat.lt_of_le_of_lt (Nat.le_mul_of_pos_left _ z1) hd
  have hbb : b.toInt.natAbs < 2 ^ 48 := by rw [qb]; exact Nat.lt_of_le_of_lt (Nat.le_mul_of_pos_right _ z2) hd
  have g0 : 0 < Nat.gcd a.toInt.natAbs d.toInt.natAbs := Nat.gcd_pos_of_pos_right _ (by omega)
  have h0 : 0 < Nat.gcd c.toInt.natAbs b.toInt.natAbs := Nat.gcd_pos_of_pos_right _ (by omega)
  have gl := Nat.gcd_le_right a.toInt.natAbs (show 0 < d.toInt.natAbs by omega)
  have hl := Nat.gcd_le_right c.toInt.natAbs (show 0 < b.toInt.natAbs by omega)
  have gda := Nat.gcd_dvd_left a.toInt.natAbs d.toInt.natAbs
  have gdd := Nat.gcd_dvd_right a.toInt.natAbs d.toInt.natAbs
  have hdc := Nat.gcd_dvd_left c.toInt.natAbs b.toInt.natAbs
  have hdb := Nat.gcd_dvd_right c.toInt.natAbs b.toInt.natAbs
  generalize Nat.gcd a.toInt.natAbs d.toInt.natAbs = k at *
  generalize Nat.gcd c.toInt.natAbs b.toInt.natAbs = j at *
  have hgi : g.toInt = (k : Int) := by rw [hg]; exact pk_lT (by omega)
  have hhi : h.toInt = (j : Int) := by rw [hh]; exact pk_lT (by omega)
  obtain ⟨a', ea, fa⟩ := i64_dd hgi g0 (Int.ofNat_dvd_left.mpr gda)
  obtain ⟨d', ed, fd⟩ := i64_dd hgi g0 (Int.ofNat_dvd_left.mpr gdd)
  obtain ⟨c', ec, fc⟩ := i64_dd hhi h0 (Int.ofNat_dvd_left.mpr hdc)
  obtain ⟨b', eb, fb⟩ := i64_dd hhi h0 (Int.ofNat_dvd_left.mpr hdb)
  have la : a'.natAbs ≤ a.toInt.natAbs := by rw [ea, Int.natAbs_mul]; exact Nat.le_mul_of_pos_left _ (by omega)
  have lc : c'.natAbs ≤ c.toInt.natAbs := by rw [ec, Int.natAbs_mul]; exact Nat.le_mul_of_pos_left _ (by omega)
  have lb : b'.natAbs ≤ b.toInt.natAbs := by rw [eb, Int.natAbs_mul]; exact Nat.le_mul_of_pos_left _ (by omega)
  have ld : d'.natAbs ≤ d.toInt.natAbs := by rw [ed, Int.natAbs_mul]; exact Nat.le_mul_of_pos_left _ (by omega)
  have m1 : (a' * c').natAbs < 2 ^ 62 := by rw [Int.natAbs_mul]; exact Nat.lt_of_le_of_lt (Nat.mul_le_mul la lc) (by rw [qa, qc]; exact hn)
  have m2 : (b' * d').natAbs < 2 ^ 48 := by rw [Int.natAbs_mul]; exact Nat.lt_of_le_of_lt (Nat.mul_le_mul lb ld) (by rw [qb, qd]; exact hd)
  have b0 : b' ≠ 0 := fun e => by rw [e, Int.mul_zero] at eb; omega
  have d0 : d' ≠ 0 := fun e => by rw [e, Int.mul_zero] at ed; omega
  have bd0 : b' * d' ≠ 0 := Int.mul_ne_zero b0 d0
  have n1 : (a / g * (c / h)).toInt = a' * c' := by rw [Kit.i64_mul (by rw [fa, fc]; omega) (by rw [fa, fc]; omega), fa, fc]
  have n2 : (b / h * (d / g)).toInt = b' * d' := by rw [Kit.i64_mul (by rw [fb, fd]; omega) (by rw [fb, fd]; omega), fb, fd]
  refine ⟨by rw [hg]; exact lN_ne0 (by omega) (by omega), by rw [hh]; exact lN_ne0 (by omega) (by omega), by rw [n1]; omega, by rw [n2]; exact bd0, by rw [n2]; exact m2, ?_⟩
  rw [n1, n2]
  have hkj : (k : Int) * j ≠ 0 := Int.mul_ne_zero (by omega) (by omega)
  rw [← Rat.divInt_mul_left hkj]
  have e1 : (k : Int) * j * (a' * c') = r1.num * r2.num := by
    rw [← h1.1, ← h2.1, ea, ec]
    rw [Int.mul_assoc, Int.mul_assoc, Int.mul_left_comm (j : Int) a']
  have e2 : (k : Int) * j * (b' * d') = r1.den * r2.den := by
    rw [← h1.2, ← h2.2, eb, ed]
    rw [Int.mul_comm (k : Int) j, Int.mul_assoc, Int.mul_assoc, Int.mul_left_comm (k : Int) b']
  rw [e1, e2, Rat.mul_def', ← Rat.divInt_ofNat, Int.natCast_mul]

def po_X6_product (mo : Nat) (S : Sc) (ct : Ct) (a b c0 d : Int64) (r1 r2 : Rat) : Option Value → Sc → Ct → Prop := fun v S2 ct2 => v = none ∧ ct2 = ct ∧ ∃ n d : Int64, S2 = va_up (va_up S 13 (.long n)) 14 (.long d) ∧ Frx n d (r1 * r2)
theorem bkX6_product_0_3 : pb_chk cX6_product 0 [.lload_n 1, .lload 7] = some 3 := by decide +kernel
theorem dX6_product_3 : decode cX6_product 3 = .ok (.invokestatic 67, 3) := by decide +kernel
theorem bkX6_product_6_11 : pb_chk cX6_product 6 [.lstore 9, .lload 5, .lload_n 3] = some 11 := by decide +kernel
theorem dX6_product_11 : decode cX6_product 11 = .ok (.invokestatic 67, 3) := by decide +kernel
theorem bkX6_product_14_20 : pb_chk cX6_product 14 [.lstore 11, .aload_n 0, .lload_n 1, .lload 9] = some 20 := by decide +kernel
theorem dX6_product_20 : decode cX6_product 20 = .ok (.ldiv, 1) := by decide +kernel
theorem bkX6_product_21_25 : pb_chk cX6_product 21 [.lload 5, .lload 11] = some 25 := by decide +kernel
theorem dX6_product_25 : decode cX6_product 25 = .ok (.ldiv, 1) := by decide +kernel
theorem bkX6_product_26_30 : pb_chk cX6_product 26 [.lmul, .lload_n 3, .lload 11] = some 30 := by decide +kernel
theorem dX6_product_30 : decode cX6_product 30 = .ok (.ldiv, 1) := by decide +kernel
theorem bkX6_product_31_35 : pb_chk cX6_product 31 [.lload 7, .lload 9] = some 35 := by decide +kernel
theorem dX6_product_35 : decode cX6_product 35 = .ok (.ldiv, 1) := by decide +kernel
theorem bkX6_product_36_37 : pb_chk cX6_product 36 [.lmul] = some 37 := by decide +kernel
theorem dX6_product_37 : decode cX6_product 37 = .ok (.invokevirtual 78, 3) := by decide +kernel
theorem dX6_product_40 : decode cX6_product 40 = .ok (.return_, 1) := by decide +kernel
set_option maxHeartbeats 4000000 in
set_option maxRecDepth 100000 in
theorem c_X6_product (l : Launch) (G : Gm) (mo : Nat) (S : Sc) (ct : Ct) (a b c0 d : Int64) (r1 r2 : Rat) (h1 : Frx a b r1) (h2 : Frx c0 d r2) (hn : r1.num.natAbs * r2.num.natAbs < 2 ^ 62) (hd : r1.den * r2.den < 2 ^ 48) (hn1 : r1.num.natAbs < 2 ^ 62) (hn2 : r2.num.natAbs < 2 ^ 62) : Mm l yX6_product cX6_product 13 none (⟨2, 0, 0, 56⟩ : Room) G mo S ct [.ref mo, .long a, .long b, .long c0, .long d] (po_X6_product mo S ct a b c0 d r1 r2) := by
  refine of_met (by decide) (Nat.le_of_ble_eq_true rfl) ?_
  intro p e s m below meth c ls B hA hM0 hl
  have hw := Mw.start hM0
  obtain ⟨pb, qb, qa⟩ := fx_den h1
  obtain ⟨pd, qd, qc⟩ := fx_den h2
  refine pb_blk B.hx B.hb (lv' := [(0, .ref mo), (1, .long a), (3, .long b), (5, .long c0), (7, .long d)]) (st' := [.long d, .long a]) hl bkX6_product_0_3 rfl (fun ls hl => ?_)
  refine m_callS B (c_X6_divisor l G (fun _ => False) a d (by omega) (by omega)) cy_X6_divisor st_X6_divisor wd_M_X6_67 trivial rfl hl.1 rfl (Nat.le_of_ble_eq_true rfl) ⟨by decide, by decide⟩ ⟨rfl, rfl⟩ ⟨Nat.le_refl _, Nat.le_refl _⟩ dX6_product_3 (fun v hv => ?_)
  obtain ⟨g, hg⟩ : ∃ g : Int64, g = lN (Nat.gcd a.toInt.natAbs d.toInt.natAbs) := ⟨_, rfl⟩
  rw [po_X6_divisor, ← hg] at hv
  subst hv
  refine pb_blk B.hx B.hb (lv' := [(9, .long g), (0, .ref mo), (1, .long a), (3, .long b), (5, .long c0), (7, .long d)]) (st' := [.long b, .long c0]) hl bkX6_product_6_11 rfl (fun ls hl => ?_)
  refine m_callS B (c_X6_divisor l G (fun _ => False) c0 b (by omega) (by omega)) cy_X6_divisor st_X6_divisor wd_M_X6_67 trivial rfl hl.1 rfl (Nat.le_of_ble_eq_true rfl) ⟨by decide, by decide⟩ ⟨rfl, rfl⟩ ⟨Nat.le_refl _, Nat.le_refl _⟩ dX6_product_11 (fun v hv => ?_)
  obtain ⟨h, hh⟩ : ∃ g : Int64, g = lN (Nat.gcd c0.toInt.natAbs b.toInt.natAbs) := ⟨_, rfl⟩
  rw [po_X6_divisor, ← hh] at hv
  subst hv
  obtain ⟨k1, k2, k3, k4, k5, k6⟩ := fx_prod h1 h2 hn hd hg hh
  refine pb_blk B.hx B.hb (lv' := [(11, .long h), (9, .long g), (0, .ref mo), (1, .long a), (3, .long b), (5, .long c0), (7, .long d)]) (st' := [.long g, .long a, .ref mo]) hl bkX6_product_14_20 rfl (fun ls hl => ?_)
  refine lv_ldiv B.hx B.hb dX6_product_20 k1 ?_
  refine pb_blk B.hx B.hb (lv' := [(11, .long h), (9, .long g), (0, .ref mo), (1, .long a), (3, .long b), (5, .long c0), (7, .long d)]) (st' := [.long h, .long c0, .long (a / g), .ref mo]) hl bkX6_product_21_25 rfl (fun ls hl => ?_)
  refine lv_ldiv B.hx B.hb dX6_product_25 k2 ?_
  refine pb_blk B.hx B.hb (lv' := [(11, .long h), (9, .long g), (0, .ref mo), (1, .long a), (3, .long b), (5, .long c0), (7, .long d)]) (st' := [.long h, .long b, .long ((a / g) * (c0 / h)), .ref mo]) hl bkX6_product_26_30 rfl (fun ls hl => ?_)
  refine lv_ldiv B.hx B.hb dX6_product_30 k2 ?_
  refine pb_blk B.hx B.hb (lv' := [(11, .long h), (9, .long g), (0, .ref mo), (1, .long a), (3, .long b), (5, .long c0), (7, .long d)]) (st' := [.long g, .long d, .long (b / h), .long ((a / g) * (c0 / h)), .ref mo]) hl bkX6_product_31_35 rfl (fun ls hl => ?_)
  refine lv_ldiv B.hx B.hb dX6_product_35 k1 ?_
  refine pb_blk B.hx B.hb (lv' := [(11, .long h), (9, .long g), (0, .ref mo), (1, .long a), (3, .long b), (5, .long c0), (7, .long d)]) (st' := [.long ((b / h) * (d / g)), .long ((a / g) * (c0 / h)), .ref mo]) hl bkX6_product_36_37 rfl (fun ls hl => ?_)
  refine m_callV B hw (c_X6_lowest l G mo S ct (a / g * (c0 / h)) (b / h * (d / g)) k3 k4 k5) cy_X6_lowest im_X6_lowest se_X6_lowest wd_M_X6_78 rfl hl.1 rfl (Nat.le_of_ble_eq_true rfl) ⟨by decide, by decide⟩ ⟨rfl, rfl⟩ ⟨Nat.le_refl _, Nat.le_refl _⟩ dX6_product_37 (fun v H locs S1 ct1 hw_2 hv => ?_)
  obtain ⟨rfl, rfl, n, d9, rfl, hf⟩ := hv
  have hw := hw_2
  rw [k6] at hf
  exact m_vret B hw dX6_product_40 (by exact ⟨rfl, rfl, _, _, rfl, hf⟩) (Nat.le_of_ble_eq_true rfl) (Nat.le_of_ble_eq_true rfl)

def po_X6_signOf (G : Gm) (A : Nat → Prop) (v0 : Int64) : Option Value → Prop := fun v => v = some (.int (sgZ v0.toInt))
theorem bkX6_signOf_0_3 : pb_chk cX6_signOf 0 [.lload_n 0, .lconst 0, .lcmp] = some 3 := by decide +kernel
theorem dX6_signOf_3 : decode cX6_signOf 3 = .ok (.ifCond .le 7, 3) := by decide +kernel
theorem bkX6_signOf_10_13 : pb_chk cX6_signOf 10 [.lload_n 0, .lconst 0, .lcmp] = some 13 := by decide +kernel
theorem dX6_signOf_13 : decode cX6_signOf 13 = .ok (.ifCond .ge 7, 3) := by decide +kernel
theorem bkX6_signOf_20_21 : pb_chk cX6_signOf 20 [.iconst 0] = some 21 := by decide +kernel
theorem dX6_signOf_21 : decode cX6_signOf 21 = .ok (.ireturn, 1) := by decide +kernel
theorem bkX6_signOf_16_21 : pb_chk cX6_signOf 16 [.iconst (-1), .goto 4] = some 21 := by decide +kernel
theorem bkX6_signOf_6_21 : pb_chk cX6_signOf 6 [.iconst 1, .goto 14] = some 21 := by decide +kernel
set_option maxHeartbeats 4000000 in
set_option maxRecDepth 100000 in
theorem c_X6_signOf (l : Launch) (G : Gm) (A : Nat → Prop) (v0 : Int64) : Mn l yX6_signOf cX6_signOf 2 (some .int) (⟨0, 0, 0, 0⟩ : Room) G [.long v0] (fun _ => True) (po_X6_signOf G A v0) := by
  refine of_met (by decide) (Nat.le_of_ble_eq_true rfl) ?_
  intro p e s m below meth c ls B hA _ hl
  refine pb_blk B.hx B.hb (lv' := [(0, .long v0)]) (st' := [.int (lg_cmp v0 0)]) hl bkX6_signOf_0_3 rfl (fun ls hl => ?_)
  refine lv_if_le (tgt := 10) B.hx B.hb dX6_signOf_3 (by decide) (fun h1 => ?_) (fun h1 => ?_)
  · have g1 : ¬ 0 < v0.toInt := by have h9 := (lg_cmp_le _ _).mp h1; rw [Int64.le_iff_toInt_le, Int64.toInt_zero] at h9; omega
    refine pb_blk B.hx B.hb (lv' := [(0, .long v0)]) (st' := [.int (lg_cmp v0 0)]) hl bkX6_signOf_10_13 rfl (fun ls hl => ?_)
    refine lv_if_ge (tgt := 20) B.hx B.hb dX6_signOf_13 (by decide) (fun h2 => ?_) (fun h2 => ?_)
    · have g2 : ¬ v0.toInt < 0 := by have h9 := (lg_cmp_ge _ _).mp h2; rw [Int64.le_iff_toInt_le, Int64.toInt_zero] at h9; omega
      refine pb_blk B.hx B.hb (lv' := [(0, .long v0)]) (st' := [.int 0]) hl bkX6_signOf_20_21 rfl (fun ls hl => ?_)
      exact n_iret B dX6_signOf_21 (by rw [po_X6_signOf, sgZ, if_neg g1, if_neg g2]) (Nat.le_refl _) (Nat.le_refl _)
    · have g2 : v0.toInt < 0 := by have h9 : ¬ (0 : Int64) ≤ v0 := fun q => h2 ((lg_cmp_ge _ _).mpr q); rw [Int64.le_iff_toInt_le, Int64.toInt_zero] at h9; omega
      refine pb_blk B.hx B.hb (lv' := [(0, .long v0)]) (st' := [.int (-1)]) hl bkX6_signOf_16_21 rfl (fun ls hl => ?_)
      exact n_iret B dX6_signOf_21 (by rw [po_X6_signOf, sgZ, if_neg g1, if_pos g2]) (Nat.le_refl _) (Nat.le_refl _)
  · have g1 : 0 < v0.toInt := by have h9 : ¬ v0 ≤ 0 := fun q => h1 ((lg_cmp_le _ _).mpr q); rw [Int64.le_iff_toInt_le, Int64.toInt_zero] at h9; omega
    refine pb_blk B.hx B.hb (lv' := [(0, .long v0)]) (st' := [.int 1]) hl bkX6_signOf_6_21 rfl (fun ls hl => ?_)
    exact n_iret B dX6_signOf_21 (by rw [po_X6_signOf, sgZ, if_pos g1]) (Nat.le_refl _) (Nat.le_refl _)

theorem nI_m1 {N : Nat} (h : N < 2 ^ 20) : (nI N - 1).toInt = (N : Int) - 1 := by
  have e : (nI N).toInt = (N : Int) := by rw [show nI N = Int32.ofNat N from rfl]; exact Int32.toInt_ofNat_of_lt (by omega)
  have e1 : (1 : Int32).toInt = 1 := rfl
  rw [Kit.i32_sub (by rw [e, e1]; omega) (by rw [e, e1]; omega), e, e1]
theorem nI_toI {N : Nat} (h : N < 2 ^ 31) : (nI N).toInt = (N : Int) := by rw [show nI N = Int32.ofNat N from rfl]; exact Int32.toInt_ofNat_of_lt (by omega)
theorem inB_tr {N : Nat} {f : Int32} (h : N ≤ 80) : inB f.toInt64 0 (nI N - 1).toInt64 = true ↔ Tr N f := by
  rw [inB_t, Int32.toInt_toInt64, Int32.toInt_toInt64, nI_m1 (by omega), Int64.toInt_zero]
  constructor
  · rintro ⟨h1, h2⟩
    have hn : ¬ f < 0 := fun q => by rw [Int32.lt_iff_toInt_lt, Int32.toInt_zero] at q; omega
    obtain ⟨k, hk, rfl⟩ := nI_of hn
    rw [nI_toI hk] at h2
    exact ⟨k, by omega, rfl⟩
  · rintro ⟨k, hk, rfl⟩
    rw [nI_toI (by omega)]
    omega
theorem b2i_t {x : Bool} : b2i x ≠ 0 ↔ x = true := by cases x <;> simp [b2i]

def po_X6_isThere (G : Gm) (A : Nat → Prop) (mo : Nat) (S : Sc) (ct : Ct) (N : Nat) (f0 : Int32) : Option Value → Prop := fun v => ∃ b : Bool, v = some (.int (b2i b)) ∧ (b = true ↔ Tr N f0)
theorem bkX6_isThere_0_4 : pb_chk cX6_isThere 0 [.iload_n 1, .i2l, .lconst 0, .aload_n 0] = some 4 := by decide +kernel
theorem dX6_isThere_4 : decode cX6_isThere 4 = .ok (.getfield 82, 3) := by decide +kernel
theorem bkX6_isThere_7_10 : pb_chk cX6_isThere 7 [.iconst 1, .isub, .i2l] = some 10 := by decide +kernel
theorem dX6_isThere_10 : decode cX6_isThere 10 = .ok (.invokestatic 85, 3) := by decide +kernel
theorem dX6_isThere_13 : decode cX6_isThere 13 = .ok (.ireturn, 1) := by decide +kernel
set_option maxHeartbeats 4000000 in
set_option maxRecDepth 100000 in
theorem c_X6_isThere (l : Launch) (G : Gm) (A : Nat → Prop) (mo : Nat) (S : Sc) (ct : Ct) (N : Nat) (f0 : Int32) (hN : N ≤ 80) (hS1 : S 1 = .int (nI N)) : Mn l yX6_isThere cX6_isThere 2 (some .boolean) (⟨1, 0, 0, 25⟩ : Room) G [.ref mo, .int f0] (fun H => MS G H mo S ct) (po_X6_isThere G A mo S ct N f0) := by
  refine of_met (by decide) (Nat.le_of_ble_eq_true rfl) ?_
  intro p e s m below meth c ls B hA hM0 hl
  have hw := Mw.start hM0
  refine pb_blk B.hx B.hb (lv' := [(0, .ref mo), (1, .int f0)]) (st' := [.ref mo, .long 0, .long f0.toInt64]) hl bkX6_isThere_0_4 rfl (fun ls hl => ?_)
  refine m_get B hw 1 (by decide) wd_F_X6_82 (congrArg some hS1) dX6_isThere_4 ?_
  refine pb_blk B.hx B.hb (lv' := [(0, .ref mo), (1, .int f0)]) (st' := [.long (((nI N) - 1)).toInt64, .long 0, .long f0.toInt64]) hl bkX6_isThere_7_10 rfl (fun ls hl => ?_)
  refine m_callS B (c_X6_in l G (fun _ => False) f0.toInt64 0 (nI N - 1).toInt64) cy_X6_in st_X6_in wd_M_X6_85 trivial rfl hl.1 rfl (Nat.le_of_ble_eq_true rfl) ⟨by decide, by decide⟩ ⟨rfl, rfl⟩ ⟨Nat.le_refl _, Nat.le_refl _⟩ dX6_isThere_10 (fun v hv => ?_)
  rw [po_X6_in] at hv
  subst hv
  exact n_zret B dX6_isThere_13 (b2i_n _) ⟨_, rfl, inB_tr hN⟩ (Nat.le_refl _) (Nat.le_refl _)

theorem kdF_01 (u : Nat → Rat) : kdF u = 0 ∨ kdF u = 1 := by
  unfold kdF
  split
  · first | exact Or.inl rfl | exact Or.inr rfl
  · first | exact Or.inl rfl | exact Or.inr rfl
theorem ThA.kd {ct : Ct} {k : Nat} {t : Th} (h : ThA ct k t) : ct 1 k = .int (kdT t) := by
  cases t with
  | inl u => exact h.1
  | inr z => exact h.1
theorem kdT_2 (t : Th) : kdT t = 2 ↔ ∃ z, t = .inr z := by
  cases t with
  | inl u => exact ⟨fun h => by rcases kdF_01 u with e | e <;> (have h9 : kdF u = 2 := h; rw [e] at h9; exact absurd h9 (by decide)), fun ⟨z, e⟩ => nomatch e⟩
  | inr z => exact ⟨fun _ => ⟨z, rfl⟩, fun _ => rfl⟩
theorem not_inr {t : Th} : (¬ ∃ z, t = .inr z) ↔ ∃ u, t = .inl u := by
  cases t with
  | inl u => exact ⟨fun _ => ⟨u, rfl⟩, fun _ ⟨z, e⟩ => nomatch e⟩
  | inr z => exact ⟨fun h => absurd ⟨z, rfl⟩ h, fun ⟨u, e⟩ => nomatch e⟩

def po_X6_isFormula (G : Gm) (A : Nat → Prop) (mo : Nat) (S : Sc) (ct : Ct) (k : Nat) (t : Th) : Option Value → Prop := fun v => ∃ b : Bool, v = some (.int (b2i b)) ∧ (b = true ↔ ∃ u, t = .inl u)
theorem bkX6_isFormula_0_1 : pb_chk cX6_isFormula 0 [.aload_n 0] = some 1 := by decide +kernel
theorem dX6_isFormula_1 : decode cX6_isFormula 1 = .ok (.getfield 7, 3) := by decide +kernel
theorem bkX6_isFormula_4_5 : pb_chk cX6_isFormula 4 [.iload_n 1] = some 5 := by decide +kernel
theorem dX6_isFormula_5 : decode cX6_isFormula 5 = .ok (.iaload, 1) := by decide +kernel
theorem bkX6_isFormula_6_7 : pb_chk cX6_isFormula 6 [.iconst 2] = some 7 := by decide +kernel
theorem dX6_isFormula_7 : decode cX6_isFormula 7 = .ok (.if_icmp .eq 7, 3) := by decide +kernel
theorem bkX6_isFormula_14_15 : pb_chk cX6_isFormula 14 [.iconst 0] = some 15 := by decide +kernel
theorem dX6_isFormula_15 : decode cX6_isFormula 15 = .ok (.ireturn, 1) := by decide +kernel
theorem bkX6_isFormula_10_15 : pb_chk cX6_isFormula 10 [.iconst 1, .goto 4] = some 15 := by decide +kernel
set_option maxHeartbeats 4000000 in
set_option maxRecDepth 100000 in
theorem c_X6_isFormula (l : Launch) (G : Gm) (A : Nat → Prop) (mo : Nat) (S : Sc) (ct : Ct) (k : Nat) (t : Th) (hk : k < 80) (ht : ThA ct k t) : Mn l yX6_isFormula cX6_isFormula 2 (some .boolean) (⟨0, 0, 0, 0⟩ : Room) G [.ref mo, .int (nI k)] (fun H => MS G H mo S ct) (po_X6_isFormula G A mo S ct k t) := by
  refine of_met (by decide) (Nat.le_of_ble_eq_true rfl) ?_
  intro p e s m below meth c ls B hA hM0 hl
  have hw := Mw.start hM0
  refine pb_blk B.hx B.hb (lv' := [(0, .ref mo), (1, .int (nI k))]) (st' := [.ref mo]) hl bkX6_isFormula_0_1 rfl (fun ls hl => ?_)
  refine m_get B hw 2 (by decide) wd_F_X6_7 rfl dX6_isFormula_1 ?_
  refine pb_blk B.hx B.hb (lv' := [(0, .ref mo), (1, .int (nI k))]) (st' := [.int (nI k), .ref (mo + 1)]) hl bkX6_isFormula_4_5 rfl (fun ls hl => ?_)
  refine m_iald B hw 1 (by decide) (by decide) rfl (vp_in_nI (show k < 80 from hk) (by decide)) (v := .int (kdT t)) (by rw [nI_clamp (by omega)]; exact ht.kd) dX6_isFormula_5 ?_
  refine pb_blk B.hx B.hb (lv' := [(0, .ref mo), (1, .int (nI k))]) (st' := [.int 2, .int (kdT t)]) hl bkX6_isFormula_6_7 rfl (fun ls hl => ?_)
  refine lv_icmp_eq (tgt := 14) B.hx B.hb dX6_isFormula_7 (by decide) (fun h1 => ?_) (fun h1 => ?_)
  · have e1 := (kdT_2 t).mp h1
    refine pb_blk B.hx B.hb (lv' := [(0, .ref mo), (1, .int (nI k))]) (st' := [.int 0]) hl bkX6_isFormula_14_15 rfl (fun ls hl => ?_)
    exact n_zret B dX6_isFormula_15 rfl ⟨false, rfl, ⟨fun h => (by cases h), fun h => absurd e1 (not_inr.mpr h)⟩⟩ (Nat.le_refl _) (Nat.le_refl _)
  · have e1 := not_inr.mp (fun h => h1 ((kdT_2 t).mpr h))
    refine pb_blk B.hx B.hb (lv' := [(0, .ref mo), (1, .int (nI k))]) (st' := [.int 1]) hl bkX6_isFormula_10_15 rfl (fun ls hl => ?_)
    exact n_zret B dX6_isFormula_15 rfl ⟨true, rfl, ⟨fun _ => e1, fun _ => rfl⟩⟩ (Nat.le_refl _) (Nat.le_refl _)

