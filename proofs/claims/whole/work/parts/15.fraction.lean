def po_X1_init (G : Gm) (A : Nat → Prop) (q : Nat) (n d : Int64) : Heap → Prop := fun H => va_at G.1 vwCl (q, .inr (1, [.long n, .long d])) H
theorem bkX1_init_0_1 : pb_chk cX1_init 0 [.aload_n 0] = some 1 := by decide +kernel
theorem dX1_init_1 : decode cX1_init 1 = .ok (.invokespecial 3, 3) := by decide +kernel
theorem bkX1_init_4_6 : pb_chk cX1_init 4 [.aload_n 0, .lload_n 1] = some 6 := by decide +kernel
theorem dX1_init_6 : decode cX1_init 6 = .ok (.putfield 9, 3) := by decide +kernel
theorem bkX1_init_9_11 : pb_chk cX1_init 9 [.aload_n 0, .lload_n 3] = some 11 := by decide +kernel
theorem dX1_init_11 : decode cX1_init 11 = .ok (.putfield 15, 3) := by decide +kernel
theorem dX1_init_14 : decode cX1_init 14 = .ok (.return_, 1) := by decide +kernel
set_option maxHeartbeats 4000000 in
set_option maxRecDepth 100000 in
theorem c_X1_init (l : Launch) (G : Gm) (A : Nat → Prop) (q : Nat) (n d : Int64) (n0 d0 : Int64) : Mk l yX1_init cX1_init 5 (⟨1, 0, 0, 12⟩ : Room) G A q [.ref q, .long n, .long d] (fun H => va_at G.1 vwCl (q, .inr (1, [.long n0, .long d0])) H) (po_X1_init G A q n d) := by
  refine of_met (by decide) (Nat.le_of_ble_eq_true rfl) ?_
  intro p e s m below meth c ls B hA ob hl
  refine pb_blk B.hx B.hb (lv' := [(0, .ref q), (1, .long n), (3, .long d)]) (st' := [.ref q]) hl bkX1_init_0_1 rfl (fun ls hl => ?_)
  refine z_objInit B wd_M_X1_3 hl.1 ⟨by decide, by decide⟩ dX1_init_1 ?_
  refine pb_blk B.hx B.hb (lv' := [(0, .ref q), (1, .long n), (3, .long d)]) (st' := [.long n, .ref q]) hl bkX1_init_4_6 rfl (fun ls hl => ?_)
  refine z_put0 B ciX1 0 (by decide) ob wd_F_X1_9 (Or.inr ⟨rfl, rfl, rfl⟩) rfl rfl (Nat.le_of_ble_eq_true rfl) dX1_init_6 (fun H1 i1 ob hz1 hq1 => ?_)
  refine pb_blk B.hx B.hb (lv' := [(0, .ref q), (1, .long n), (3, .long d)]) (st' := [.long d, .ref q]) hl bkX1_init_9_11 rfl (fun ls hl => ?_)
  refine z_put0 B ciX1 1 (by decide) ob wd_F_X1_15 (Or.inr ⟨rfl, rfl, rfl⟩) rfl rfl (Nat.le_of_ble_eq_true rfl) dX1_init_11 (fun H2 i2 ob hz2 hq2 => ?_)
  exact z_kret B dX1_init_14 (by rw [hz2, hz1]) (fun x hx => (hq2 x hx).trans (hq1 x hx)) ob (fun z hz => by simp at hz; rcases hz with rfl | rfl <;> rfl) (Nat.le_refl _) (Nat.le_refl _)

def po_X1_greatestShared (G : Gm) (A : Nat → Prop) (a b : Int64) : Option Value → Prop := fun v => ∃ g : Int64, v = some (.long g) ∧ g = lN (max (Nat.gcd a.toInt.natAbs b.toInt.natAbs) 1)
theorem bkX1_greatestShared_0_1 : pb_chk cX1_greatestShared 0 [.lload_n 0] = some 1 := by decide +kernel
theorem dX1_greatestShared_1 : decode cX1_greatestShared 1 = .ok (.invokestatic 25, 3) := by decide +kernel
theorem bkX1_greatestShared_4_7 : pb_chk cX1_greatestShared 4 [.lstore 4, .lload_n 2] = some 7 := by decide +kernel
theorem dX1_greatestShared_7 : decode cX1_greatestShared 7 = .ok (.invokestatic 25, 3) := by decide +kernel
theorem bkX1_greatestShared_10_15 : pb_chk cX1_greatestShared 10 [.lstore 6, .iconst 0, .istore 8] = some 15 := by decide +kernel
theorem bkX1_greatestShared_50_53 : pb_chk cX1_greatestShared 50 [.lload 4, .lconst 1] = some 53 := by decide +kernel
theorem dX1_greatestShared_53 : decode cX1_greatestShared 53 = .ok (.invokestatic 31, 3) := by decide +kernel
theorem dX1_greatestShared_56 : decode cX1_greatestShared 56 = .ok (.lreturn, 1) := by decide +kernel
theorem bkX1_greatestShared_15_19 : pb_chk cX1_greatestShared 15 [.iload 8, .bipush 100] = some 19 := by decide +kernel
theorem dX1_greatestShared_19 : decode cX1_greatestShared 19 = .ok (.if_icmp .ge 31, 3) := by decide +kernel
theorem bkX1_greatestShared_22_26 : pb_chk cX1_greatestShared 22 [.lload 6, .lconst 0, .lcmp] = some 26 := by decide +kernel
theorem dX1_greatestShared_26 : decode cX1_greatestShared 26 = .ok (.ifCond .eq 24, 3) := by decide +kernel
theorem bkX1_greatestShared_29_33 : pb_chk cX1_greatestShared 29 [.lload 4, .lload 6] = some 33 := by decide +kernel
theorem dX1_greatestShared_33 : decode cX1_greatestShared 33 = .ok (.lrem, 1) := by decide +kernel
theorem bkX1_greatestShared_34_15 : pb_chk cX1_greatestShared 34 [.lstore 9, .lload 6, .lstore 4, .lload 9, .lstore 6, .iinc 8 1, .goto (-32)] = some 15 := by decide +kernel
set_option maxHeartbeats 4000000 in
set_option maxRecDepth 100000 in
theorem c_X1_greatestShared (l : Launch) (G : Gm) (A : Nat → Prop) (a b : Int64) (ha : a.toInt ≠ -2 ^ 63) (hb48 : b.toInt.natAbs < 2 ^ 48) : Mn l yX1_greatestShared cX1_greatestShared 11 (some .long) (⟨1, 0, 0, 19⟩ : Room) G [.long a, .long b] (fun _ => True) (po_X1_greatestShared G A a b) := by
  refine of_met (by decide) (Nat.le_of_ble_eq_true rfl) ?_
  intro p e s m below meth c ls B hA _ hl
  have hb : b.toInt ≠ -2 ^ 63 := by omega
  have ha63 : a.toInt.natAbs < 2 ^ 63 := by have := a.toInt_lt; have := a.le_toInt; omega
  have hg : Nat.gcd a.toInt.natAbs b.toInt.natAbs < 2 ^ 63 := by
    rcases Nat.eq_zero_or_pos b.toInt.natAbs with e0 | e0
    · rw [e0, Nat.gcd_zero_right]; exact ha63
    · have := Nat.gcd_le_right a.toInt.natAbs e0; omega
  have hout : ∀ ls, lv_has ls 11 [(4, .long (lN (Nat.gcd a.toInt.natAbs b.toInt.natAbs)))] → W p l e (⟨1, 0, 0, 19⟩ : Room) s m ([.long a, .long b] : List Value).toArray below meth c s.heap [] 0 0 (MQ below (Qn (po_X1_greatestShared G A a b)) ([.long a, .long b] : List Value).toArray s (⟨1, 0, 0, 19⟩ : Room).cells (⟨1, 0, 0, 19⟩ : Room).slots (fun _ => False)) (F0 m 50 ls []) := by
    intro ls hl
    refine pb_blk B.hx B.hb (lv' := [(4, .long (lN (Nat.gcd a.toInt.natAbs b.toInt.natAbs)))]) (st' := [.long 1, .long (lN (Nat.gcd a.toInt.natAbs b.toInt.natAbs))]) hl bkX1_greatestShared_50_53 rfl (fun ls hl => ?_)
    refine z_max B wd_M_X1_31 hl.1 ⟨by decide, by decide⟩ ⟨Nat.zero_le _, Nat.zero_le _⟩ dX1_greatestShared_53 ?_
    rw [lN_max1 hg]
    exact n_lret B dX1_greatestShared_56 ⟨_, rfl, rfl⟩ (Nat.le_refl _) (Nat.le_refl _)
  have loop : ∀ (n k X Y : Nat) (ls : Array Slot), 101 ≤ k + n → k ≤ 100 → Eu a.toInt.natAbs b.toInt.natAbs k X Y → lv_has ls 11 [(8, .int (nI k)), (6, .long (lN Y)), (4, .long (lN X)), (0, .long a), (2, .long b)] → W p l e (⟨1, 0, 0, 19⟩ : Room) s m ([.long a, .long b] : List Value).toArray below meth c s.heap [] 0 0 (MQ below (Qn (po_X1_greatestShared G A a b)) ([.long a, .long b] : List Value).toArray s (⟨1, 0, 0, 19⟩ : Room).cells (⟨1, 0, 0, 19⟩ : Room).slots (fun _ => False)) (F0 m 15 ls []) := by
    intro n
    induction n with
    | zero => intro k X Y ls h1 h2; omega
    | succ n ih =>
      intro k X Y ls hn hk he hl
      have hle := he.le
      have hX63 : X < 2 ^ 63 := by omega
      have hY63 : Y < 2 ^ 63 := by omega
      refine pb_blk B.hx B.hb (lv' := [(8, .int (nI k)), (6, .long (lN Y)), (4, .long (lN X)), (0, .long a), (2, .long b)]) (st' := [.int 100, .int (nI k)]) hl bkX1_greatestShared_15_19 rfl (fun ls hl => ?_)
      refine lv_icmp_ge (tgt := 50) B.hx B.hb dX1_greatestShared_19 (by decide) (fun h1 => ?_) (fun h1 => ?_)
      · have e9 : 100 ≤ k := (nI_leI (by omega) (by omega)).mp (show nI 100 ≤ nI k from h1)
        have e0 : Y = 0 := he.done (by omega)
        subst e0
        have e1 := he.end
        subst e1
        exact hout _ (lv_sub hl [2] rfl)
      · refine pb_blk B.hx B.hb (lv' := [(8, .int (nI k)), (6, .long (lN Y)), (4, .long (lN X)), (0, .long a), (2, .long b)]) (st' := [.int (lg_cmp (lN Y) 0)]) hl bkX1_greatestShared_22_26 rfl (fun ls hl => ?_)
        refine lv_if_eq (tgt := 50) B.hx B.hb dX1_greatestShared_26 (by decide) (fun h2 => ?_) (fun h2 => ?_)
        · have e0 : Y = 0 := (pk_lEQ hY63 (by decide)).mp (show lN Y = lN 0 from (lg_cmp_eq _ _).mp h2)
          subst e0
          have e1 := he.end
          subst e1
          exact hout _ (lv_sub hl [2] rfl)
        · have hY : Y ≠ 0 := fun e0 => h2 ((lg_cmp_eq _ _).mpr (by rw [e0]; rfl))
          refine pb_blk B.hx B.hb (lv' := [(8, .int (nI k)), (6, .long (lN Y)), (4, .long (lN X)), (0, .long a), (2, .long b)]) (st' := [.long (lN Y), .long (lN X)]) hl bkX1_greatestShared_29_33 rfl (fun ls hl => ?_)
          refine lv_lrem B.hx B.hb dX1_greatestShared_33 (lN_ne0 hY63 hY) ?_
          rw [pk_lRem hX63 (Nat.pos_of_ne_zero hY) hY63]
          refine pb_blk B.hx B.hb (lv' := [(8, .int ((nI k) + 1)), (6, .long (lN (X % Y))), (4, .long (lN Y)), (9, .long (lN (X % Y))), (0, .long a), (2, .long b)]) (st' := []) hl bkX1_greatestShared_34_15 rfl (fun ls hl => ?_)
          have hk1 : k + 1 ≤ 100 := by
            rcases Nat.lt_or_ge k 100 with q | q
            · exact q
            · exact absurd (by rw [show k = 100 by omega]; decide) h1
          exact ih (k + 1) Y (X % Y) ls (by omega) hk1 (he.step hb48 hY) (by rw [← nI_1]; exact lv_sub hl [0, 1, 2, 4, 5] rfl)
  refine pb_blk B.hx B.hb (lv' := [(0, .long a), (2, .long b)]) (st' := [.long a]) hl bkX1_greatestShared_0_1 rfl (fun ls hl => ?_)
  refine z_abs B wd_M_X1_25 hl.1 ⟨by decide, by decide⟩ ⟨Nat.zero_le _, Nat.zero_le _⟩ dX1_greatestShared_1 ?_
  rw [i64_abs ha]
  refine pb_blk B.hx B.hb (lv' := [(4, .long (lN a.toInt.natAbs)), (0, .long a), (2, .long b)]) (st' := [.long b]) hl bkX1_greatestShared_4_7 rfl (fun ls hl => ?_)
  refine z_abs B wd_M_X1_25 hl.1 ⟨by decide, by decide⟩ ⟨Nat.zero_le _, Nat.zero_le _⟩ dX1_greatestShared_7 ?_
  rw [i64_abs hb]
  refine pb_blk B.hx B.hb (lv' := [(8, .int 0), (6, .long (lN b.toInt.natAbs)), (4, .long (lN a.toInt.natAbs)), (0, .long a), (2, .long b)]) (st' := []) hl bkX1_greatestShared_10_15 rfl (fun ls hl => ?_)
  exact loop 101 0 a.toInt.natAbs b.toInt.natAbs ls (by omega) (Nat.zero_le _) (Eu.start _ _) (lv_sub hl [0, 1, 2, 3, 4] rfl)

def po_J13_compare_74951 (G : Gm) (A : Nat → Prop) (a b : Int64) : Option Value → Prop := fun v => v = some (.int (if a < b then -1 else if a = b then 0 else 1))
theorem bkJ13_compare_74951_0_3 : pb_chk cJ13_compare_74951 0 [.lload_n 0, .lload_n 2, .lcmp] = some 3 := by decide +kernel
theorem dJ13_compare_74951_3 : decode cJ13_compare_74951 3 = .ok (.ifCond .ge 7, 3) := by decide +kernel
theorem bkJ13_compare_74951_10_13 : pb_chk cJ13_compare_74951 10 [.lload_n 0, .lload_n 2, .lcmp] = some 13 := by decide +kernel
theorem dJ13_compare_74951_13 : decode cJ13_compare_74951 13 = .ok (.ifCond .ne 7, 3) := by decide +kernel
theorem bkJ13_compare_74951_20_21 : pb_chk cJ13_compare_74951 20 [.iconst 1] = some 21 := by decide +kernel
theorem dJ13_compare_74951_21 : decode cJ13_compare_74951 21 = .ok (.ireturn, 1) := by decide +kernel
theorem bkJ13_compare_74951_16_21 : pb_chk cJ13_compare_74951 16 [.iconst 0, .goto 4] = some 21 := by decide +kernel
theorem bkJ13_compare_74951_6_21 : pb_chk cJ13_compare_74951 6 [.iconst (-1), .goto 14] = some 21 := by decide +kernel
set_option maxHeartbeats 4000000 in
set_option maxRecDepth 100000 in
theorem c_J13_compare_74951 (l : Launch) (G : Gm) (A : Nat → Prop) (a b : Int64) : Mn l yJ13_compare_74951 cJ13_compare_74951 4 (some .int) (⟨0, 0, 0, 0⟩ : Room) G [.long a, .long b] (fun _ => True) (po_J13_compare_74951 G A a b) := by
  refine of_met (by decide) (Nat.le_of_ble_eq_true rfl) ?_
  intro p e s m below meth c ls B hA _ hl
  refine pb_blk B.hx B.hb (lv' := [(0, .long a), (2, .long b)]) (st' := [.int (lg_cmp a b)]) hl bkJ13_compare_74951_0_3 rfl (fun ls hl => ?_)
  refine lv_if_ge (tgt := 10) B.hx B.hb dJ13_compare_74951_3 (by decide) (fun h1 => ?_) (fun h1 => ?_)
  · have h2 := (lg_cmp_ge _ _).mp h1
    refine pb_blk B.hx B.hb (lv' := [(0, .long a), (2, .long b)]) (st' := [.int (lg_cmp a b)]) hl bkJ13_compare_74951_10_13 rfl (fun ls hl => ?_)
    refine lv_if_ne (tgt := 20) B.hx B.hb dJ13_compare_74951_13 (by decide) (fun h3 => ?_) (fun h3 => ?_)
    · refine pb_blk B.hx B.hb (lv' := [(0, .long a), (2, .long b)]) (st' := [.int 1]) hl bkJ13_compare_74951_20_21 rfl (fun ls hl => ?_)
      have h4 : ¬ a = b := fun q => h3 ((lg_cmp_eq _ _).mpr q)
      have h5 : ¬ a < b := fun q => absurd h2 (by rw [Int64.lt_iff_toInt_lt] at q; rw [Int64.le_iff_toInt_le]; omega)
      exact n_iret B dJ13_compare_74951_21 (by rw [po_J13_compare_74951, if_neg h5, if_neg h4]) (Nat.le_refl _) (Nat.le_refl _)
    · refine pb_blk B.hx B.hb (lv' := [(0, .long a), (2, .long b)]) (st' := [.int 0]) hl bkJ13_compare_74951_16_21 rfl (fun ls hl => ?_)
      have h4 : a = b := (lg_cmp_eq _ _).mp h3
      have h5 : ¬ a < b := fun q => absurd h2 (by rw [Int64.lt_iff_toInt_lt] at q; rw [Int64.le_iff_toInt_le]; omega)
      exact n_iret B dJ13_compare_74951_21 (by rw [po_J13_compare_74951, if_neg h5, if_pos h4]) (Nat.le_refl _) (Nat.le_refl _)
  · refine pb_blk B.hx B.hb (lv' := [(0, .long a), (2, .long b)]) (st' := [.int (-1)]) hl bkJ13_compare_74951_6_21 rfl (fun ls hl => ?_)
    have h2 : a < b := Int64.lt_iff_toInt_lt.mpr (Int.not_le.mp fun q => h1 ((lg_cmp_ge _ _).mpr (Int64.le_iff_toInt_le.mpr q)))
    exact n_iret B dJ13_compare_74951_21 (by rw [po_J13_compare_74951, if_pos h2]) (Nat.le_refl _) (Nat.le_refl _)

def po_X1_of (G : Gm) (A : Nat → Prop) (a b : Int64) : Option Value → Heap → Prop := fun v H => ∃ q, v = some (.ref q) ∧ Fr G A H q (Rat.divInt a.toInt b.toInt)
theorem bkX1_of_0_2 : pb_chk cX1_of 0 [.lload_n 0, .lload_n 2] = some 2 := by decide +kernel
theorem dX1_of_2 : decode cX1_of 2 = .ok (.invokestatic 18, 3) := by decide +kernel
theorem bkX1_of_5_10 : pb_chk cX1_of 5 [.lstore 4, .lload_n 2, .lconst 0, .lcmp] = some 10 := by decide +kernel
theorem dX1_of_10 : decode cX1_of 10 = .ok (.ifCond .ge 23, 3) := by decide +kernel
theorem dX1_of_33 : decode cX1_of 33 = .ok (.new 10, 3) := by decide +kernel
theorem bkX1_of_36_40 : pb_chk cX1_of 36 [.dup, .lload_n 0, .lload 4] = some 40 := by decide +kernel
theorem dX1_of_40 : decode cX1_of 40 = .ok (.ldiv, 1) := by decide +kernel
theorem bkX1_of_41_44 : pb_chk cX1_of 41 [.lload_n 2, .lload 4] = some 44 := by decide +kernel
theorem dX1_of_44 : decode cX1_of 44 = .ok (.ldiv, 1) := by decide +kernel
theorem dX1_of_45 : decode cX1_of 45 = .ok (.invokespecial 22, 3) := by decide +kernel
theorem dX1_of_48 : decode cX1_of 48 = .ok (.areturn, 1) := by decide +kernel
theorem dX1_of_13 : decode cX1_of 13 = .ok (.new 10, 3) := by decide +kernel
theorem bkX1_of_16_21 : pb_chk cX1_of 16 [.dup, .lload_n 0, .lneg, .lload 4] = some 21 := by decide +kernel
theorem dX1_of_21 : decode cX1_of 21 = .ok (.ldiv, 1) := by decide +kernel
theorem bkX1_of_22_26 : pb_chk cX1_of 22 [.lload_n 2, .lneg, .lload 4] = some 26 := by decide +kernel
theorem dX1_of_26 : decode cX1_of 26 = .ok (.ldiv, 1) := by decide +kernel
theorem dX1_of_27 : decode cX1_of 27 = .ok (.invokespecial 22, 3) := by decide +kernel
theorem bkX1_of_30_48 : pb_chk cX1_of 30 [.goto 18] = some 48 := by decide +kernel
set_option maxHeartbeats 4000000 in
set_option maxRecDepth 100000 in
theorem c_X1_of (l : Launch) (G : Gm) (A : Nat → Prop) (a b : Int64) (ha : a.toInt ≠ -2 ^ 63) (hb0 : b.toInt ≠ 0) (hb48 : b.toInt.natAbs < 2 ^ 48) : Mz l yX1_of cX1_of 6 (some (.object "FormulaHouse$Fraction")) (⟨2, 1, 2, 49⟩ : Room) G A [.long a, .long b] (fun _ => True) (po_X1_of G A a b) := by
  refine of_met (by decide) (Nat.le_of_ble_eq_true rfl) ?_
  intro p e s m below meth c ls B hA _ hl
  refine pb_blk B.hx B.hb (lv' := [(0, .long a), (2, .long b)]) (st' := [.long b, .long a]) hl bkX1_of_0_2 rfl (fun ls hl => ?_)
  refine n_callS B (c_X1_greatestShared l G A a b ha hb48) cy_X1_greatestShared st_X1_greatestShared wd_M_X1_18 trivial rfl hl.1 rfl (Nat.le_of_ble_eq_true rfl) ⟨by decide, by decide⟩ ⟨Nat.zero_le _, Nat.zero_le _⟩ dX1_of_2 (fun v hv => ?_)
  obtain ⟨g, rfl, hg⟩ := hv
  have hg0 := (fx_g hb0 hb48 hg).2.1
  refine pb_blk B.hx B.hb (lv' := [(4, .long g), (0, .long a), (2, .long b)]) (st' := [.int (lg_cmp b 0)]) hl bkX1_of_5_10 rfl (fun ls hl => ?_)
  refine lv_if_ge (tgt := 33) B.hx B.hb dX1_of_10 (by decide) (fun h1 => ?_) (fun h1 => ?_)
  · have h2 : ¬ b < 0 := fun q => absurd ((lg_cmp_ge _ _).mp h1) (by rw [Int64.lt_iff_toInt_lt] at q; rw [Int64.le_iff_toInt_le]; omega)
    refine z_new B ciX1 wd_C_X1_10 hfs_X1 (Nat.le_of_ble_eq_true rfl) (Nat.le_of_ble_eq_true rfl) dX1_of_33 (fun H1 ob1 z1 o1 => ?_)
    refine pb_blk B.hx B.hb (lv' := [(4, .long g), (0, .long a), (2, .long b)]) (st' := [.long g, .long a, .ref s.heap.size, .ref s.heap.size]) hl bkX1_of_36_40 rfl (fun ls hl => ?_)
    refine lv_ldiv B.hx B.hb dX1_of_40 hg0 ?_
    refine pb_blk B.hx B.hb (lv' := [(4, .long g), (0, .long a), (2, .long b)]) (st' := [.long g, .long b, .long (a / g), .ref s.heap.size, .ref s.heap.size]) hl bkX1_of_41_44 rfl (fun ls hl => ?_)
    refine lv_ldiv B.hx B.hb dX1_of_44 hg0 ?_
    refine z_ctor B (c_X1_init l G A s.heap.size (a / g) (b / g) 0 0) cy_X1_init im_X1_init rfl wd_M_X1_22 (Nat.le_refl _) (hA_up hA (by omega)) ob1 rfl hl.1 rfl (Nat.le_of_ble_eq_true rfl) ⟨by decide, by decide⟩ ⟨by decide, by decide⟩ dX1_of_45 (fun H2 z2 o2 ob2 => ?_)
    obtain hex := Ex.new z1 o1 z2 o2
    exact z_aret B (Or.inl ⟨_, rfl⟩) dX1_of_48 hex ⟨_, rfl, _, _, ⟨hA_no hA (Nat.le_refl _), ob2⟩, fx_pos hb0 hb48 hg h2⟩ (Nat.le_of_ble_eq_true rfl) (Nat.le_of_ble_eq_true rfl)
  · have h2 : b < 0 := Int64.lt_iff_toInt_lt.mpr (Int.not_le.mp fun q => h1 ((lg_cmp_ge _ _).mpr (Int64.le_iff_toInt_le.mpr q)))
    refine z_new B ciX1 wd_C_X1_10 hfs_X1 (Nat.le_of_ble_eq_true rfl) (Nat.le_of_ble_eq_true rfl) dX1_of_13 (fun H1 ob1 z1 o1 => ?_)
    refine pb_blk B.hx B.hb (lv' := [(4, .long g), (0, .long a), (2, .long b)]) (st' := [.long g, .long (-a), .ref s.heap.size, .ref s.heap.size]) hl bkX1_of_16_21 rfl (fun ls hl => ?_)
    refine lv_ldiv B.hx B.hb dX1_of_21 hg0 ?_
    refine pb_blk B.hx B.hb (lv' := [(4, .long g), (0, .long a), (2, .long b)]) (st' := [.long g, .long (-b), .long ((-a) / g), .ref s.heap.size, .ref s.heap.size]) hl bkX1_of_22_26 rfl (fun ls hl => ?_)
    refine lv_ldiv B.hx B.hb dX1_of_26 hg0 ?_
    refine z_ctor B (c_X1_init l G A s.heap.size (-a / g) (-b / g) 0 0) cy_X1_init im_X1_init rfl wd_M_X1_22 (Nat.le_refl _) (hA_up hA (by omega)) ob1 rfl hl.1 rfl (Nat.le_of_ble_eq_true rfl) ⟨by decide, by decide⟩ ⟨by decide, by decide⟩ dX1_of_27 (fun H2 z2 o2 ob2 => ?_)
    obtain hex := Ex.new z1 o1 z2 o2
    refine pb_blk B.hx B.hb (lv' := [(4, .long g), (0, .long a), (2, .long b)]) (st' := [.ref s.heap.size]) hl bkX1_of_30_48 rfl (fun ls hl => ?_)
    exact z_aret B (Or.inl ⟨_, rfl⟩) dX1_of_48 hex ⟨_, rfl, _, _, ⟨hA_no hA (Nat.le_refl _), ob2⟩, fx_neg ha hb0 hb48 hg h2⟩ (Nat.le_of_ble_eq_true rfl) (Nat.le_of_ble_eq_true rfl)

def po_X1_plus (G : Gm) (A : Nat → Prop) (q1 q2 : Nat) (r1 r2 : Rat) : Option Value → Heap → Prop := fun v H => ∃ q, v = some (.ref q) ∧ Fr G A H q (r1 + r2)
theorem bkX1_plus_0_1 : pb_chk cX1_plus 0 [.aload_n 0] = some 1 := by decide +kernel
theorem dX1_plus_1 : decode cX1_plus 1 = .ok (.getfield 15, 3) := by decide +kernel
theorem bkX1_plus_4_5 : pb_chk cX1_plus 4 [.aload_n 1] = some 5 := by decide +kernel
theorem dX1_plus_5 : decode cX1_plus 5 = .ok (.getfield 15, 3) := by decide +kernel
theorem dX1_plus_8 : decode cX1_plus 8 = .ok (.invokestatic 18, 3) := by decide +kernel
theorem bkX1_plus_11_13 : pb_chk cX1_plus 11 [.lstore_n 2, .aload_n 1] = some 13 := by decide +kernel
theorem dX1_plus_13 : decode cX1_plus 13 = .ok (.getfield 15, 3) := by decide +kernel
theorem bkX1_plus_16_17 : pb_chk cX1_plus 16 [.lload_n 2] = some 17 := by decide +kernel
theorem dX1_plus_17 : decode cX1_plus 17 = .ok (.ldiv, 1) := by decide +kernel
theorem bkX1_plus_18_21 : pb_chk cX1_plus 18 [.lstore 4, .aload_n 0] = some 21 := by decide +kernel
theorem dX1_plus_21 : decode cX1_plus 21 = .ok (.getfield 9, 3) := by decide +kernel
theorem bkX1_plus_24_28 : pb_chk cX1_plus 24 [.lload 4, .lmul, .aload_n 1] = some 28 := by decide +kernel
theorem dX1_plus_28 : decode cX1_plus 28 = .ok (.getfield 9, 3) := by decide +kernel
theorem bkX1_plus_31_32 : pb_chk cX1_plus 31 [.aload_n 0] = some 32 := by decide +kernel
theorem dX1_plus_32 : decode cX1_plus 32 = .ok (.getfield 15, 3) := by decide +kernel
theorem bkX1_plus_35_36 : pb_chk cX1_plus 35 [.lload_n 2] = some 36 := by decide +kernel
theorem dX1_plus_36 : decode cX1_plus 36 = .ok (.ldiv, 1) := by decide +kernel
theorem bkX1_plus_37_40 : pb_chk cX1_plus 37 [.lmul, .ladd, .aload_n 0] = some 40 := by decide +kernel
theorem dX1_plus_40 : decode cX1_plus 40 = .ok (.getfield 15, 3) := by decide +kernel
theorem bkX1_plus_43_46 : pb_chk cX1_plus 43 [.lload 4, .lmul] = some 46 := by decide +kernel
theorem dX1_plus_46 : decode cX1_plus 46 = .ok (.invokestatic 34, 3) := by decide +kernel
theorem dX1_plus_49 : decode cX1_plus 49 = .ok (.areturn, 1) := by decide +kernel
set_option maxHeartbeats 4000000 in
set_option maxRecDepth 100000 in
theorem c_X1_plus (l : Launch) (G : Gm) (A : Nat → Prop) (q1 q2 : Nat) (r1 r2 : Rat) (hb : Pb r1 r2) : Mz l yX1_plus cX1_plus 6 (some (.object "FormulaHouse$Fraction")) (⟨3, 1, 2, 74⟩ : Room) G A [.ref q1, .ref q2] (fun H => Fr G A H q1 r1 ∧ Fr G A H q2 r2) (po_X1_plus G A q1 q2 r1 r2) := by
  refine of_met (by decide) (Nat.le_of_ble_eq_true rfl) ?_
  intro p e s m below meth c ls B hA ⟨⟨n1, d1, ob1, f1⟩, ⟨n2, d2, ob2, f2⟩⟩ hl
  refine pb_blk B.hx B.hb (lv' := [(0, .ref q1), (1, .ref q2)]) (st' := [.ref q1]) hl bkX1_plus_0_1 rfl (fun ls hl => ?_)
  refine z_get B ciX1 1 (by decide) ob1 wd_F_X1_15 rfl dX1_plus_1 ?_
  refine pb_blk B.hx B.hb (lv' := [(0, .ref q1), (1, .ref q2)]) (st' := [.ref q2, .long d1]) hl bkX1_plus_4_5 rfl (fun ls hl => ?_)
  refine z_get B ciX1 1 (by decide) ob2 wd_F_X1_15 rfl dX1_plus_5 ?_
  have hd1 := fx_den f1
  have hd2 := fx_den f2
  have hb48 : d2.toInt.natAbs < 2 ^ 48 := by obtain ⟨D, g0, g1, g2, g3, -⟩ := hb; have := Nat.le_of_dvd g0 g3; omega
  refine n_callS B (c_X1_greatestShared l G A d1 d2 (by omega) hb48) cy_X1_greatestShared st_X1_greatestShared wd_M_X1_18 trivial rfl hl.1 rfl (Nat.le_of_ble_eq_true rfl) ⟨by decide, by decide⟩ ⟨Nat.zero_le _, Nat.zero_le _⟩ dX1_plus_8 (fun v hv => ?_)
  obtain ⟨g, rfl, hg⟩ := hv
  obtain ⟨hg0, k1, k2, k3, k4⟩ := fx_sum f1 f2 hb hg
  refine pb_blk B.hx B.hb (lv' := [(2, .long g), (0, .ref q1), (1, .ref q2)]) (st' := [.ref q2]) hl bkX1_plus_11_13 rfl (fun ls hl => ?_)
  refine z_get B ciX1 1 (by decide) ob2 wd_F_X1_15 rfl dX1_plus_13 ?_
  refine pb_blk B.hx B.hb (lv' := [(2, .long g), (0, .ref q1), (1, .ref q2)]) (st' := [.long g, .long d2]) hl bkX1_plus_16_17 rfl (fun ls hl => ?_)
  refine lv_ldiv B.hx B.hb dX1_plus_17 hg0 ?_
  refine pb_blk B.hx B.hb (lv' := [(4, .long (d2 / g)), (2, .long g), (0, .ref q1), (1, .ref q2)]) (st' := [.ref q1]) hl bkX1_plus_18_21 rfl (fun ls hl => ?_)
  refine z_get B ciX1 0 (by decide) ob1 wd_F_X1_9 rfl dX1_plus_21 ?_
  refine pb_blk B.hx B.hb (lv' := [(4, .long (d2 / g)), (2, .long g), (0, .ref q1), (1, .ref q2)]) (st' := [.ref q2, .long (n1 * (d2 / g))]) hl bkX1_plus_24_28 rfl (fun ls hl => ?_)
  refine z_get B ciX1 0 (by decide) ob2 wd_F_X1_9 rfl dX1_plus_28 ?_
  refine pb_blk B.hx B.hb (lv' := [(4, .long (d2 / g)), (2, .long g), (0, .ref q1), (1, .ref q2)]) (st' := [.ref q1, .long n2, .long (n1 * (d2 / g))]) hl bkX1_plus_31_32 rfl (fun ls hl => ?_)
  refine z_get B ciX1 1 (by decide) ob1 wd_F_X1_15 rfl dX1_plus_32 ?_
  refine pb_blk B.hx B.hb (lv' := [(4, .long (d2 / g)), (2, .long g), (0, .ref q1), (1, .ref q2)]) (st' := [.long g, .long d1, .long n2, .long (n1 * (d2 / g))]) hl bkX1_plus_35_36 rfl (fun ls hl => ?_)
  refine lv_ldiv B.hx B.hb dX1_plus_36 hg0 ?_
  refine pb_blk B.hx B.hb (lv' := [(4, .long (d2 / g)), (2, .long g), (0, .ref q1), (1, .ref q2)]) (st' := [.ref q1, .long ((n1 * (d2 / g)) + (n2 * (d1 / g)))]) hl bkX1_plus_37_40 rfl (fun ls hl => ?_)
  refine z_get B ciX1 1 (by decide) ob1 wd_F_X1_15 rfl dX1_plus_40 ?_
  refine pb_blk B.hx B.hb (lv' := [(4, .long (d2 / g)), (2, .long g), (0, .ref q1), (1, .ref q2)]) (st' := [.long (d1 * (d2 / g)), .long ((n1 * (d2 / g)) + (n2 * (d1 / g)))]) hl bkX1_plus_43_46 rfl (fun ls hl => ?_)
  refine z_callS B (c_X1_of l G A _ _ k1 k2 k3) cy_X1_of st_X1_of wd_M_X1_34 hA trivial rfl hl.1 rfl (Nat.le_of_ble_eq_true rfl) ⟨by decide, by decide⟩ ⟨by decide, by decide⟩ dX1_plus_46 (fun v H1 hE hv => ?_)
  obtain ⟨q, rfl, hf⟩ := hv
  rw [k4] at hf
  exact z_aret B (Or.inl ⟨_, rfl⟩) dX1_plus_49 hE ⟨q, rfl, hf⟩ (Nat.le_of_ble_eq_true rfl) (Nat.le_of_ble_eq_true rfl)

def po_X1_multiplied (G : Gm) (A : Nat → Prop) (q1 q2 : Nat) (r1 r2 : Rat) : Option Value → Heap → Prop := fun v H => ∃ q, v = some (.ref q) ∧ Fr G A H q (r1 * r2)
theorem bkX1_multiplied_0_1 : pb_chk cX1_multiplied 0 [.aload_n 0] = some 1 := by decide +kernel
theorem dX1_multiplied_1 : decode cX1_multiplied 1 = .ok (.getfield 9, 3) := by decide +kernel
theorem bkX1_multiplied_4_5 : pb_chk cX1_multiplied 4 [.aload_n 1] = some 5 := by decide +kernel
theorem dX1_multiplied_5 : decode cX1_multiplied 5 = .ok (.getfield 9, 3) := by decide +kernel
theorem bkX1_multiplied_8_10 : pb_chk cX1_multiplied 8 [.lmul, .aload_n 0] = some 10 := by decide +kernel
theorem dX1_multiplied_10 : decode cX1_multiplied 10 = .ok (.getfield 15, 3) := by decide +kernel
theorem bkX1_multiplied_13_14 : pb_chk cX1_multiplied 13 [.aload_n 1] = some 14 := by decide +kernel
theorem dX1_multiplied_14 : decode cX1_multiplied 14 = .ok (.getfield 15, 3) := by decide +kernel
theorem bkX1_multiplied_17_18 : pb_chk cX1_multiplied 17 [.lmul] = some 18 := by decide +kernel
theorem dX1_multiplied_18 : decode cX1_multiplied 18 = .ok (.invokestatic 34, 3) := by decide +kernel
theorem dX1_multiplied_21 : decode cX1_multiplied 21 = .ok (.areturn, 1) := by decide +kernel
set_option maxHeartbeats 4000000 in
set_option maxRecDepth 100000 in
theorem c_X1_multiplied (l : Launch) (G : Gm) (A : Nat → Prop) (q1 q2 : Nat) (r1 r2 : Rat) (hn : r1.num.natAbs * r2.num.natAbs < 2 ^ 62) (hd : r1.den * r2.den < 2 ^ 48) : Mz l yX1_multiplied cX1_multiplied 2 (some (.object "FormulaHouse$Fraction")) (⟨3, 1, 2, 74⟩ : Room) G A [.ref q1, .ref q2] (fun H => Fr G A H q1 r1 ∧ Fr G A H q2 r2) (po_X1_multiplied G A q1 q2 r1 r2) := by
  refine of_met (by decide) (Nat.le_of_ble_eq_true rfl) ?_
  intro p e s m below meth c ls B hA ⟨⟨n1, d1, ob1, f1⟩, ⟨n2, d2, ob2, f2⟩⟩ hl
  obtain ⟨k1, k2, k3, k4⟩ := fx_mul f1 f2 hn hd
  refine pb_blk B.hx B.hb (lv' := [(0, .ref q1), (1, .ref q2)]) (st' := [.ref q1]) hl bkX1_multiplied_0_1 rfl (fun ls hl => ?_)
  refine z_get B ciX1 0 (by decide) ob1 wd_F_X1_9 rfl dX1_multiplied_1 ?_
  refine pb_blk B.hx B.hb (lv' := [(0, .ref q1), (1, .ref q2)]) (st' := [.ref q2, .long n1]) hl bkX1_multiplied_4_5 rfl (fun ls hl => ?_)
  refine z_get B ciX1 0 (by decide) ob2 wd_F_X1_9 rfl dX1_multiplied_5 ?_
  refine pb_blk B.hx B.hb (lv' := [(0, .ref q1), (1, .ref q2)]) (st' := [.ref q1, .long (n1 * n2)]) hl bkX1_multiplied_8_10 rfl (fun ls hl => ?_)
  refine z_get B ciX1 1 (by decide) ob1 wd_F_X1_15 rfl dX1_multiplied_10 ?_
  refine pb_blk B.hx B.hb (lv' := [(0, .ref q1), (1, .ref q2)]) (st' := [.ref q2, .long d1, .long (n1 * n2)]) hl bkX1_multiplied_13_14 rfl (fun ls hl => ?_)
  refine z_get B ciX1 1 (by decide) ob2 wd_F_X1_15 rfl dX1_multiplied_14 ?_
  refine pb_blk B.hx B.hb (lv' := [(0, .ref q1), (1, .ref q2)]) (st' := [.long (d1 * d2), .long (n1 * n2)]) hl bkX1_multiplied_17_18 rfl (fun ls hl => ?_)
  refine z_callS B (c_X1_of l G A _ _ k1 k2 k3) cy_X1_of st_X1_of wd_M_X1_34 hA trivial rfl hl.1 rfl (Nat.le_of_ble_eq_true rfl) ⟨by decide, by decide⟩ ⟨by decide, by decide⟩ dX1_multiplied_18 (fun v H1 hE hv => ?_)
  obtain ⟨q, rfl, hf⟩ := hv
  rw [k4] at hf
  exact z_aret B (Or.inl ⟨_, rfl⟩) dX1_multiplied_21 hE ⟨q, rfl, hf⟩ (Nat.le_of_ble_eq_true rfl) (Nat.le_of_ble_eq_true rfl)

def po_X1_against (G : Gm) (A : Nat → Prop) (q1 q2 : Nat) (r1 r2 : Rat) : Option Value → Prop := fun v => v = some (.int (cmpR r1 r2))
theorem bkX1_against_0_1 : pb_chk cX1_against 0 [.aload_n 0] = some 1 := by decide +kernel
theorem dX1_against_1 : decode cX1_against 1 = .ok (.getfield 9, 3) := by decide +kernel
theorem bkX1_against_4_5 : pb_chk cX1_against 4 [.aload_n 1] = some 5 := by decide +kernel
theorem dX1_against_5 : decode cX1_against 5 = .ok (.getfield 15, 3) := by decide +kernel
theorem bkX1_against_8_10 : pb_chk cX1_against 8 [.lmul, .aload_n 1] = some 10 := by decide +kernel
theorem dX1_against_10 : decode cX1_against 10 = .ok (.getfield 9, 3) := by decide +kernel
theorem bkX1_against_13_14 : pb_chk cX1_against 13 [.aload_n 0] = some 14 := by decide +kernel
theorem dX1_against_14 : decode cX1_against 14 = .ok (.getfield 15, 3) := by decide +kernel
theorem bkX1_against_17_18 : pb_chk cX1_against 17 [.lmul] = some 18 := by decide +kernel
theorem dX1_against_18 : decode cX1_against 18 = .ok (.invokestatic 38, 3) := by decide +kernel
theorem dX1_against_21 : decode cX1_against 21 = .ok (.ireturn, 1) := by decide +kernel
set_option maxHeartbeats 4000000 in
set_option maxRecDepth 100000 in
theorem c_X1_against (l : Launch) (G : Gm) (A : Nat → Prop) (q1 q2 : Nat) (r1 r2 : Rat) (hn : r1.num.natAbs * r2.den < 2 ^ 62) (hd : r2.num.natAbs * r1.den < 2 ^ 62) : Mn l yX1_against cX1_against 2 (some .int) (⟨1, 0, 0, 23⟩ : Room) G [.ref q1, .ref q2] (fun H => Fr G A H q1 r1 ∧ Fr G A H q2 r2) (po_X1_against G A q1 q2 r1 r2) := by
  refine of_met (by decide) (Nat.le_of_ble_eq_true rfl) ?_
  intro p e s m below meth c ls B hA ⟨⟨n1, d1, ob1, f1⟩, ⟨n2, d2, ob2, f2⟩⟩ hl
  refine pb_blk B.hx B.hb (lv' := [(0, .ref q1), (1, .ref q2)]) (st' := [.ref q1]) hl bkX1_against_0_1 rfl (fun ls hl => ?_)
  refine z_get B ciX1 0 (by decide) ob1 wd_F_X1_9 rfl dX1_against_1 ?_
  refine pb_blk B.hx B.hb (lv' := [(0, .ref q1), (1, .ref q2)]) (st' := [.ref q2, .long n1]) hl bkX1_against_4_5 rfl (fun ls hl => ?_)
  refine z_get B ciX1 1 (by decide) ob2 wd_F_X1_15 rfl dX1_against_5 ?_
  refine pb_blk B.hx B.hb (lv' := [(0, .ref q1), (1, .ref q2)]) (st' := [.ref q2, .long (n1 * d2)]) hl bkX1_against_8_10 rfl (fun ls hl => ?_)
  refine z_get B ciX1 0 (by decide) ob2 wd_F_X1_9 rfl dX1_against_10 ?_
  refine pb_blk B.hx B.hb (lv' := [(0, .ref q1), (1, .ref q2)]) (st' := [.ref q1, .long n2, .long (n1 * d2)]) hl bkX1_against_13_14 rfl (fun ls hl => ?_)
  refine z_get B ciX1 1 (by decide) ob1 wd_F_X1_15 rfl dX1_against_14 ?_
  refine pb_blk B.hx B.hb (lv' := [(0, .ref q1), (1, .ref q2)]) (st' := [.long (n2 * d1), .long (n1 * d2)]) hl bkX1_against_17_18 rfl (fun ls hl => ?_)
  refine n_callS B (c_J13_compare_74951 l G A _ _) cy_J13_compare_74951 st_J13_compare_74951 wd_M_X1_38 trivial rfl hl.1 rfl (Nat.le_of_ble_eq_true rfl) ⟨by decide, by decide⟩ ⟨Nat.zero_le _, Nat.zero_le _⟩ dX1_against_18 (fun v hv => ?_)
  rw [po_J13_compare_74951, fx_cmp f1 f2 hn hd] at hv
  subst hv
  exact n_iret B dX1_against_21 rfl (Nat.le_refl _) (Nat.le_refl _)

def po_X1_isTooGreat (G : Gm) (A : Nat → Prop) (q1 : Nat) (r1 : Rat) : Option Value → Prop := fun v => v = some (.int (b2i (tgR r1)))
theorem bkX1_isTooGreat_0_1 : pb_chk cX1_isTooGreat 0 [.aload_n 0] = some 1 := by decide +kernel
theorem dX1_isTooGreat_1 : decode cX1_isTooGreat 1 = .ok (.getfield 9, 3) := by decide +kernel
theorem dX1_isTooGreat_4 : decode cX1_isTooGreat 4 = .ok (.ldc2_w 44, 3) := by decide +kernel
theorem bkX1_isTooGreat_7_8 : pb_chk cX1_isTooGreat 7 [.lcmp] = some 8 := by decide +kernel
theorem dX1_isTooGreat_8 : decode cX1_isTooGreat 8 = .ok (.ifCond .gt 25, 3) := by decide +kernel
theorem bkX1_isTooGreat_33_38 : pb_chk cX1_isTooGreat 33 [.iconst 1, .goto 4] = some 38 := by decide +kernel
theorem dX1_isTooGreat_38 : decode cX1_isTooGreat 38 = .ok (.ireturn, 1) := by decide +kernel
theorem bkX1_isTooGreat_11_12 : pb_chk cX1_isTooGreat 11 [.aload_n 0] = some 12 := by decide +kernel
theorem dX1_isTooGreat_12 : decode cX1_isTooGreat 12 = .ok (.getfield 9, 3) := by decide +kernel
theorem dX1_isTooGreat_15 : decode cX1_isTooGreat 15 = .ok (.ldc2_w 46, 3) := by decide +kernel
theorem bkX1_isTooGreat_18_19 : pb_chk cX1_isTooGreat 18 [.lcmp] = some 19 := by decide +kernel
theorem dX1_isTooGreat_19 : decode cX1_isTooGreat 19 = .ok (.ifCond .lt 14, 3) := by decide +kernel
theorem bkX1_isTooGreat_22_23 : pb_chk cX1_isTooGreat 22 [.aload_n 0] = some 23 := by decide +kernel
theorem dX1_isTooGreat_23 : decode cX1_isTooGreat 23 = .ok (.getfield 15, 3) := by decide +kernel
theorem dX1_isTooGreat_26 : decode cX1_isTooGreat 26 = .ok (.ldc2_w 44, 3) := by decide +kernel
theorem bkX1_isTooGreat_29_30 : pb_chk cX1_isTooGreat 29 [.lcmp] = some 30 := by decide +kernel
theorem dX1_isTooGreat_30 : decode cX1_isTooGreat 30 = .ok (.ifCond .le 7, 3) := by decide +kernel
theorem bkX1_isTooGreat_37_38 : pb_chk cX1_isTooGreat 37 [.iconst 0] = some 38 := by decide +kernel
set_option maxHeartbeats 4000000 in
set_option maxRecDepth 100000 in
theorem c_X1_isTooGreat (l : Launch) (G : Gm) (A : Nat → Prop) (q1 : Nat) (r1 : Rat) : Mn l yX1_isTooGreat cX1_isTooGreat 1 (some .boolean) (⟨0, 0, 0, 0⟩ : Room) G [.ref q1] (fun H => Fr G A H q1 r1) (po_X1_isTooGreat G A q1 r1) := by
  refine of_met (by decide) (Nat.le_of_ble_eq_true rfl) ?_
  intro p e s m below meth c ls B hA ⟨n1, d1, ob1, f1⟩ hl
  have e60 : (60 : Int64).toInt = 60 := by decide
  have em60 : (-60 : Int64).toInt = -60 := by decide
  have g1 := f1.1
  have g2 := f1.2
  refine pb_blk B.hx B.hb (lv' := [(0, .ref q1)]) (st' := [.ref q1]) hl bkX1_isTooGreat_0_1 rfl (fun ls hl => ?_)
  refine z_get B ciX1 0 (by decide) ob1 wd_F_X1_9 rfl dX1_isTooGreat_1 ?_
  refine z_ldc2 B wd_L_X1_44 dX1_isTooGreat_4 ?_
  refine pb_blk B.hx B.hb (lv' := [(0, .ref q1)]) (st' := [.int (lg_cmp n1 60)]) hl bkX1_isTooGreat_7_8 rfl (fun ls hl => ?_)
  refine lv_if_gt (tgt := 33) B.hx B.hb dX1_isTooGreat_8 (by decide) (fun h1 => ?_) (fun h1 => ?_)
  · refine pb_blk B.hx B.hb (lv' := [(0, .ref q1)]) (st' := [.int 1]) hl bkX1_isTooGreat_33_38 rfl (fun ls hl => ?_)
    have ht : tgR r1 = true := decide_eq_true (Or.inl (by rw [← g1, ← e60]; exact Int64.lt_iff_toInt_lt.mp ((lg_cmp_gt _ _).mp h1)))
    exact n_zret B dX1_isTooGreat_38 rfl (by rw [po_X1_isTooGreat, ht]; rfl) (Nat.le_refl _) (Nat.le_refl _)
  · refine pb_blk B.hx B.hb (lv' := [(0, .ref q1)]) (st' := [.ref q1]) hl bkX1_isTooGreat_11_12 rfl (fun ls hl => ?_)
    refine z_get B ciX1 0 (by decide) ob1 wd_F_X1_9 rfl dX1_isTooGreat_12 ?_
    refine z_ldc2 B wd_L_X1_46 dX1_isTooGreat_15 ?_
    refine pb_blk B.hx B.hb (lv' := [(0, .ref q1)]) (st' := [.int (lg_cmp n1 (-60))]) hl bkX1_isTooGreat_18_19 rfl (fun ls hl => ?_)
    refine lv_if_lt (tgt := 33) B.hx B.hb dX1_isTooGreat_19 (by decide) (fun h2 => ?_) (fun h2 => ?_)
    · refine pb_blk B.hx B.hb (lv' := [(0, .ref q1)]) (st' := [.int 1]) hl bkX1_isTooGreat_33_38 rfl (fun ls hl => ?_)
      have ht : tgR r1 = true := decide_eq_true (Or.inr (Or.inl (by rw [← g1, ← em60]; exact Int64.lt_iff_toInt_lt.mp ((lg_cmp_lt _ _).mp h2))))
      exact n_zret B dX1_isTooGreat_38 rfl (by rw [po_X1_isTooGreat, ht]; rfl) (Nat.le_refl _) (Nat.le_refl _)
    · refine pb_blk B.hx B.hb (lv' := [(0, .ref q1)]) (st' := [.ref q1]) hl bkX1_isTooGreat_22_23 rfl (fun ls hl => ?_)
      refine z_get B ciX1 1 (by decide) ob1 wd_F_X1_15 rfl dX1_isTooGreat_23 ?_
      refine z_ldc2 B wd_L_X1_44 dX1_isTooGreat_26 ?_
      refine pb_blk B.hx B.hb (lv' := [(0, .ref q1)]) (st' := [.int (lg_cmp d1 60)]) hl bkX1_isTooGreat_29_30 rfl (fun ls hl => ?_)
      refine lv_if_le (tgt := 37) B.hx B.hb dX1_isTooGreat_30 (by decide) (fun h3 => ?_) (fun h3 => ?_)
      · refine pb_blk B.hx B.hb (lv' := [(0, .ref q1)]) (st' := [.int 0]) hl bkX1_isTooGreat_37_38 rfl (fun ls hl => ?_)
        have k1 : ¬ 60 < r1.num := fun q => h1 ((lg_cmp_gt _ _).mpr (Int64.lt_iff_toInt_lt.mpr (by rw [e60, g1]; exact q)))
        have k2 : ¬ r1.num < -60 := fun q => h2 ((lg_cmp_lt _ _).mpr (Int64.lt_iff_toInt_lt.mpr (by rw [em60, g1]; exact q)))
        have k3 : ¬ 60 < (r1.den : Int) := fun q => absurd (Int64.le_iff_toInt_le.mp ((lg_cmp_le _ _).mp h3)) (by rw [e60, g2]; omega)
        have ht : tgR r1 = false := decide_eq_false (fun q => q.elim k1 (fun q => q.elim k2 k3))
        exact n_zret B dX1_isTooGreat_38 rfl (by rw [po_X1_isTooGreat, ht]; rfl) (Nat.le_refl _) (Nat.le_refl _)
      · refine pb_blk B.hx B.hb (lv' := [(0, .ref q1)]) (st' := [.int 1]) hl bkX1_isTooGreat_33_38 rfl (fun ls hl => ?_)
        have ht : tgR r1 = true := decide_eq_true (Or.inr (Or.inr (by rw [← g2, ← e60]; exact Int.not_le.mp fun q => h3 ((lg_cmp_le _ _).mpr (Int64.le_iff_toInt_le.mpr q)))))
        exact n_zret B dX1_isTooGreat_38 rfl (by rw [po_X1_isTooGreat, ht]; rfl) (Nat.le_refl _) (Nat.le_refl _)

