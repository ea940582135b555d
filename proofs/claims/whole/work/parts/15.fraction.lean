def po_X1_init (G : Gm) (A : Nat → Prop) (q : Nat) (n d : Int64) : Heap → Prop := fun H => va_at G.1 vwCl (q, .inr (1, [.long n, .long d])) H
theorem bkX1_init_0_1 : pb_chk cX1_init 0 [.aload_n 0] = some 1 := by decide +kernel
theorem dX1_init_1 : decode cX1_init 1 = .ok (.invokespecial 3, 3) := by decide +kernel
theorem bkX1_init_4_6 : pb_chk cX1_init 4 [.aload_n 0, .lload_n 1] = some 6 := by decide +kernel
theorem dX1_init_6 : decode cX1_init 6 = .ok (.putfield 9, 3) := by decide +kernel
theorem bkX1_init_9_11 : pb_chk cX1_init 9 [.aload_n 0, .lload_n 3] = some 11 := by decide +kernel
theorem dX1_init_11 : decode cX1_init 11 = .ok (.putfield 15, 3) := by decide +kernel
theorem dX1_init_14 : decode cX1_init 14 = .ok (.return_, 1) := by decide +kernel
set_option maxHeartbeats 4000000 in
set_option maxRecDepth 100000 in
theorem c_X1_init (l : Launch) (G : Gm) (A : Nat → Prop) (q : Nat) (n d : Int64) (n0 d0 : Int64) : Mk l yX1_init cX1_init 5 (⟨1, 0, 0, 12⟩ : Room) G A q [.ref q, .long n, .long d] (fun H => va_at G.1 vwCl (q, .inr (1, [.long n0, .long d0])) H) (po_X1_init G A q n d) := by
  refine of_met (by decide) (Nat.le_of_ble_eq_true rfl) ?_
  intro p e s m below meth c ls B hA ob hl
  refine pb_blk B.hx B.hb (lv' := [(0, .ref q), (1, .long n), (3, .long d)]) (st' := [.ref q]) hl bkX1_init_0_1 rfl (fun ls hl => ?_)
  refine z_objInit B wd_M_X1_3 hl.1 ⟨by decide, by decide⟩ dX1_init_1 ?_
  refine pb_blk B.hx B.hb (lv' := [(0, .ref q), (1, .long n), (3, .long d)]) (st' := [.long n, .ref q]) hl bkX1_init_4_6 rfl (fun ls hl => ?_)
  refine z_put0 B ciX1 0 (by decide) ob wd_F_X1_9 (Or.inr ⟨rfl, rfl, rfl⟩) rfl rfl (Nat.le_of_ble_eq_true rfl) dX1_init_6 (fun H1 i1 ob hz1 hq1 => ?_)
  refine pb_blk B.hx B.hb (lv' := [(0, .ref q), (1, .long n), (3, .long d)]) (st' := [.long d, .ref q]) hl bkX1_init_9_11 rfl (fun ls hl => ?_)
  refine z_put0 B ciX1 1 (by decide) ob wd_F_X1_15 (Or.inr ⟨rfl, rfl, rfl⟩) rfl rfl (Nat.le_of_ble_eq_true rfl) dX1_init_11 (fun H2 i2 ob hz2 hq2 => ?_)
  exact z_kret B dX1_init_14 (by rw [hz2, hz1]) (fun x hx => (hq2 x hx).trans (hq1 x hx)) ob (fun z hz => by simp at hz; rcases hz with rfl | rfl <;> rfl) (Nat.le_refl _) (Nat.le_refl _)

def po_X1_greatestShared (G : Gm) (A : Nat → Prop) (a b : Int64) : Option Value → Heap → Prop := fun v _ => ∃ g : Int64, v = some (.long g) ∧ g = lN (max (Nat.gcd a.toInt.natAbs b.toInt.natAbs) 1)
theorem bkX1_greatestShared_0_1 : pb_chk cX1_greatestShared 0 [.lload_n 0] = some 1 := by decide +kernel
theorem dX1_greatestShared_1 : decode cX1_greatestShared 1 = .ok (.invokestatic 25, 3) := by decide +kernel
theorem bkX1_greatestShared_4_7 : pb_chk cX1_greatestShared 4 [.lstore 4, .lload_n 2] = some 7 := by decide +kernel
theorem dX1_greatestShared_7 : decode cX1_greatestShared 7 = .ok (.invokestatic 25, 3) := by decide +kernel
theorem bkX1_greatestShared_10_15 : pb_chk cX1_greatestShared 10 [.lstore 6, .iconst 0, .istore 8] = some 15 := by decide +kernel
theorem bkX1_greatestShared_50_53 : pb_chk cX1_greatestShared 50 [.lload 4, .lconst 1] = some 53 := by decide +kernel
theorem dX1_greatestShared_53 : decode cX1_greatestShared 53 = .ok (.invokestatic 31, 3) := by decide +kernel
theorem dX1_greatestShared_56 : decode cX1_greatestShared 56 = .ok (.lreturn, 1) := by decide +kernel
theorem bkX1_greatestShared_15_19 : pb_chk cX1_greatestShared 15 [.iload 8, .bipush 100] = some 19 := by decide +kernel
theorem dX1_greatestShared_19 : decode cX1_greatestShared 19 = .ok (.if_icmp .ge 31, 3) := by decide +kernel
theorem bkX1_greatestShared_22_26 : pb_chk cX1_greatestShared 22 [.lload 6, .lconst 0, .lcmp] = some 26 := by decide +kernel
theorem dX1_greatestShared_26 : decode cX1_greatestShared 26 = .ok (.ifCond .eq 24, 3) := by decide +kernel
theorem bkX1_greatestShared_29_33 : pb_chk cX1_greatestShared 29 [.lload 4, .lload 6] = some 33 := by decide +kernel
theorem dX1_greatestShared_33 : decode cX1_greatestShared 33 = .ok (.lrem, 1) := by decide +kernel
theorem bkX1_greatestShared_34_15 : pb_chk cX1_greatestShared 34 [.lstore 9, .lload 6, .lstore 4, .lload 9, .lstore 6, .iinc 8 1, .goto (-32)] = some 15 := by decide +kernel
set_option maxHeartbeats 4000000 in
set_option maxRecDepth 100000 in
theorem c_X1_greatestShared (l : Launch) (G : Gm) (A : Nat → Prop) (a b : Int64) (ha : a.toInt ≠ -2 ^ 63) (hb48 : b.toInt.natAbs < 2 ^ 48) : Mz l yX1_greatestShared cX1_greatestShared 11 (some .long) (⟨1, 0, 0, 19⟩ : Room) G A [.long a, .long b] (fun _ => True) (po_X1_greatestShared G A a b) := by
  refine of_met (by decide) (Nat.le_of_ble_eq_true rfl) ?_
  intro p e s m below meth c ls B hA _ hl
  have hb : b.toInt ≠ -2 ^ 63 := by omega
  have ha63 : a.toInt.natAbs < 2 ^ 63 := by have := a.toInt_lt; have := a.le_toInt; omega
  have hg : Nat.gcd a.toInt.natAbs b.toInt.natAbs < 2 ^ 63 := by
    rcases Nat.eq_zero_or_pos b.toInt.natAbs with e0 | e0
    · rw [e0, Nat.gcd_zero_right]; exact ha63
    · have := Nat.gcd_le_right a.toInt.natAbs e0; omega
  have hout : ∀ ls, lv_has ls 11 [(4, .long (lN (Nat.gcd a.toInt.natAbs b.toInt.natAbs)))] → W p l e (⟨1, 0, 0, 19⟩ : Room) s m ([.long a, .long b] : List Value).toArray below meth c s.heap [] 0 0 (MQ below (Qz (po_X1_greatestShared G A a b)) ([.long a, .long b] : List Value).toArray s (⟨1, 0, 0, 19⟩ : Room).cells (⟨1, 0, 0, 19⟩ : Room).slots (fun _ => False)) (F0 m 50 ls []) := by
    intro ls hl
    refine pb_blk B.hx B.hb (lv' := [(4, .long (lN (Nat.gcd a.toInt.natAbs b.toInt.natAbs)))]) (st' := [.long 1, .long (lN (Nat.gcd a.toInt.natAbs b.toInt.natAbs))]) hl bkX1_greatestShared_50_53 rfl (fun ls hl => ?_)
    refine z_max B wd_M_X1_31 hl.1 ⟨by decide, by decide⟩ ⟨Nat.zero_le _, Nat.zero_le _⟩ dX1_greatestShared_53 ?_
    rw [lN_max1 hg]
    exact z_lret B dX1_greatestShared_56 Ex.rf ⟨_, rfl, rfl⟩ (Nat.le_refl _) (Nat.le_refl _)
  have loop : ∀ (n k X Y : Nat) (ls : Array Slot), 101 ≤ k + n → k ≤ 100 → Eu a.toInt.natAbs b.toInt.natAbs k X Y → lv_has ls 11 [(8, .int (nI k)), (6, .long (lN Y)), (4, .long (lN X)), (0, .long a), (2, .long b)] → W p l e (⟨1, 0, 0, 19⟩ : Room) s m ([.long a, .long b] : List Value).toArray below meth c s.heap [] 0 0 (MQ below (Qz (po_X1_greatestShared G A a b)) ([.long a, .long b] : List Value).toArray s (⟨1, 0, 0, 19⟩ : Room).cells (⟨1, 0, 0, 19⟩ : Room).slots (fun _ => False)) (F0 m 15 ls []) := by
    intro n
    induction n with
    | zero => intro k X Y ls h1 h2; omega
    | succ n ih =>
      intro k X Y ls hn hk he hl
      have hle := he.le
      have hX63 : X < 2 ^ 63 := by omega
      have hY63 : Y < 2 ^ 63 := by omega
      refine pb_blk B.hx B.hb (lv' := [(8, .int (nI k)), (6, .long (lN Y)), (4, .long (lN X)), (0, .long a), (2, .long b)]) (st' := [.int 100, .int (nI k)]) hl bkX1_greatestShared_15_19 rfl (fun ls hl => ?_)
      refine lv_icmp_ge (tgt := 50) B.hx B.hb dX1_greatestShared_19 (by decide) (fun h1 => ?_) (fun h1 => ?_)
      · have e9 : 100 ≤ k := (nI_leI (by omega) (by omega)).mp (show nI 100 ≤ nI k from h1)
        have e0 : Y = 0 := he.done (by omega)
        subst e0
        have e1 := he.end
        subst e1
        exact hout _ (lv_sub hl [2] rfl)
      · refine pb_blk B.hx B.hb (lv' := [(8, .int (nI k)), (6, .long (lN Y)), (4, .long (lN X)), (0, .long a), (2, .long b)]) (st' := [.int (lg_cmp (lN Y) 0)]) hl bkX1_greatestShared_22_26 rfl (fun ls hl => ?_)
        refine lv_if_eq (tgt := 50) B.hx B.hb dX1_greatestShared_26 (by decide) (fun h2 => ?_) (fun h2 => ?_)
        · have e0 : Y = 0 := (pk_lEQ hY63 (by decide)).mp (show lN Y = lN 0 from (lg_cmp_eq _ _).mp h2)
          subst e0
          have e1 := he.end
          subst e1
          exact hout _ (lv_sub hl [2] rfl)
        · have hY : Y ≠ 0 := fun e0 => h2 ((lg_cmp_eq _ _).mpr (by rw [e0]; rfl))
          refine pb_blk B.hx B.hb (lv' := [(8, .int (nI k)), (6, .long (lN Y)), (4, .long (lN X)), (0, .long a), (2, .long b)]) (st' := [.long (lN Y), .long (lN X)]) hl bkX1_greatestShared_29_33 rfl (fun ls hl => ?_)
          refine lv_lrem B.hx B.hb dX1_greatestShared_33 (lN_ne0 hY63 hY) ?_
          rw [pk_lRem hX63 (Nat.pos_of_ne_zero hY) hY63]
          refine pb_blk B.hx B.hb (lv' := [(8, .int ((nI k) + 1)), (6, .long (lN (X % Y))), (4, .long (lN Y)), (9, .long (lN (X % Y))), (0, .long a), (2, .long b)]) (st' := []) hl bkX1_greatestShared_34_15 rfl (fun ls hl => ?_)
          have hk1 : k + 1 ≤ 100 := by
            rcases Nat.lt_or_ge k 100 with q | q
            · exact q
            · exact absurd (by rw [show k = 100 by omega]; decide) h1
          exact ih (k + 1) Y (X % Y) ls (by omega) hk1 (he.step hb48 hY) (by rw [← nI_1]; exact lv_sub hl [0, 1, 2, 4, 5] rfl)
  refine pb_blk B.hx B.hb (lv' := [(0, .long a), (2, .long b)]) (st' := [.long a]) hl bkX1_greatestShared_0_1 rfl (fun ls hl => ?_)
  refine z_abs B wd_M_X1_25 hl.1 ⟨by decide, by decide⟩ ⟨Nat.zero_le _, Nat.zero_le _⟩ dX1_greatestShared_1 ?_
  rw [i64_abs ha]
  refine pb_blk B.hx B.hb (lv' := [(4, .long (lN a.toInt.natAbs)), (0, .long a), (2, .long b)]) (st' := [.long b]) hl bkX1_greatestShared_4_7 rfl (fun ls hl => ?_)
  refine z_abs B wd_M_X1_25 hl.1 ⟨by decide, by decide⟩ ⟨Nat.zero_le _, Nat.zero_le _⟩ dX1_greatestShared_7 ?_
  rw [i64_abs hb]
  refine pb_blk B.hx B.hb (lv' := [(8, .int 0), (6, .long (lN b.toInt.natAbs)), (4, .long (lN a.toInt.natAbs)), (0, .long a), (2, .long b)]) (st' := []) hl bkX1_greatestShared_10_15 rfl (fun ls hl => ?_)
  exact loop 101 0 a.toInt.natAbs b.toInt.natAbs ls (by omega) (Nat.zero_le _) (Eu.start _ _) (lv_sub hl [0, 1, 2, 3, 4] rfl)

