theorem Ex.put {H0 H H1 : Heap} {a : Nat} (hE : Ex H0 H) (z : H1.size = H.size) (o : ∀ x, x ≠ a → H1[x]? = H[x]?) (ha : H0.size ≤ a) : Ex H0 H1 := ⟨by rw [z]; exact hE.1, fun q hq => (o q (by omega)).trans (hE.2 q hq)⟩
theorem hA_aq {A : Nat → Prop} {H H' : Heap} {a : Nat} (hA : ∀ q, A q → q < H.size) (h : H.size ≤ H'.size) (ha : a < H'.size) : ∀ q, Aq A a q → q < H'.size := fun q hq => hq.elim (fun h1 => Nat.lt_of_lt_of_le (hA q h1) h) (fun e => by rw [e]; exact ha)
theorem all_up {k n : Nat} {P : Nat → Prop} (h : ∀ j, k + 1 ≤ j → j < n → P j) (h0 : P k) : ∀ j, k ≤ j → j < n → P j := fun j h1 h2 => by
  rcases Nat.lt_or_ge k j with q | q
  · exact h j q h2
  · rw [show j = k by omega]; exact h0
theorem frx01 : Frx 0 1 0 := ⟨rfl, rfl⟩
theorem nI4 {k : Nat} (hk : k ≤ 4) (h : nI 4 ≤ nI k) : k = 4 := by
  have := (nI_leI (by omega) (by omega)).mp h
  omega
theorem nI4' {k : Nat} (hk : k ≤ 4) (h : ¬ nI 4 ≤ nI k) : k < 4 := by
  rcases Nat.lt_or_ge k 4 with q | q
  · exact q
  · exact absurd (by rw [show k = 4 by omega]; decide) h

def po_X4_init (G : Gm) (A : Nat → Prop) (q : Nat) : Option Value → Prop := fun v => v = none
theorem bkX4_init_0_1 : pb_chk cX4_init 0 [.aload_n 0] = some 1 := by decide +kernel
theorem dX4_init_1 : decode cX4_init 1 = .ok (.invokespecial 1, 3) := by decide +kernel
theorem dX4_init_4 : decode cX4_init 4 = .ok (.return_, 1) := by decide +kernel
set_option maxHeartbeats 4000000 in
set_option maxRecDepth 100000 in
theorem c_X4_init (l : Launch) (G : Gm) (A : Nat → Prop) (q : Nat) : Mn l yX4_init cX4_init 1 none (⟨1, 0, 0, 12⟩ : Room) G [.ref q] (fun _ => True) (po_X4_init G A q) := by
  refine of_met (by decide) (Nat.le_of_ble_eq_true rfl) ?_
  intro p e s m below meth c ls B hA _ hl
  refine pb_blk B.hx B.hb (lv' := [(0, .ref q)]) (st' := [.ref q]) hl bkX4_init_0_1 rfl (fun ls hl => ?_)
  refine z_objInit B wd_M_X4_1 hl.1 ⟨by decide, by decide⟩ dX4_init_1 ?_
  exact n_vret B dX4_init_4 rfl (Nat.le_refl _) (Nat.le_refl _)

def po_X0_lastPower (G : Gm) (A : Nat → Prop) (a : Nat) (u : Nat → Rat) : Option Value → Prop := fun v => v = some (.int (dgI u))
theorem bkX0_lastPower_0_1 : pb_chk cX0_lastPower 0 [.aload_n 0] = some 1 := by decide +kernel
theorem dX0_lastPower_1 : decode cX0_lastPower 1 = .ok (.arraylength, 1) := by decide +kernel
theorem bkX0_lastPower_2_5 : pb_chk cX0_lastPower 2 [.iconst 1, .isub, .istore_n 1] = some 5 := by decide +kernel
theorem bkX0_lastPower_5_6 : pb_chk cX0_lastPower 5 [.iload_n 1] = some 6 := by decide +kernel
theorem dX0_lastPower_6 : decode cX0_lastPower 6 = .ok (.ifCond .lt 22, 3) := by decide +kernel
theorem bkX0_lastPower_28_29 : pb_chk cX0_lastPower 28 [.iconst (-1)] = some 29 := by decide +kernel
theorem dX0_lastPower_29 : decode cX0_lastPower 29 = .ok (.ireturn, 1) := by decide +kernel
theorem bkX0_lastPower_9_11 : pb_chk cX0_lastPower 9 [.aload_n 0, .iload_n 1] = some 11 := by decide +kernel
theorem dX0_lastPower_11 : decode cX0_lastPower 11 = .ok (.aaload, 1) := by decide +kernel
theorem dX0_lastPower_12 : decode cX0_lastPower 12 = .ok (.getfield 35, 3) := by decide +kernel
theorem bkX0_lastPower_15_17 : pb_chk cX0_lastPower 15 [.lconst 0, .lcmp] = some 17 := by decide +kernel
theorem dX0_lastPower_17 : decode cX0_lastPower 17 = .ok (.ifCond .eq 5, 3) := by decide +kernel
theorem bkX0_lastPower_22_5 : pb_chk cX0_lastPower 22 [.iinc 1 (-1), .goto (-20)] = some 5 := by decide +kernel
theorem bkX0_lastPower_20_21 : pb_chk cX0_lastPower 20 [.iload_n 1] = some 21 := by decide +kernel
theorem dX0_lastPower_21 : decode cX0_lastPower 21 = .ok (.ireturn, 1) := by decide +kernel
set_option maxHeartbeats 4000000 in
set_option maxRecDepth 100000 in
theorem c_X0_lastPower (l : Launch) (G : Gm) (A : Nat → Prop) (a : Nat) (u : Nat → Rat) : Mn l yX0_lastPower cX0_lastPower 2 (some .int) (⟨0, 0, 0, 0⟩ : Room) G [.ref a] (fun H => RowF G A H a 4 u) (po_X0_lastPower G A a u) := by
  refine of_met (by decide) (Nat.le_of_ble_eq_true rfl) ?_
  intro p e s m below meth c ls B hA ⟨f, ar, hf⟩ hl
  have loop : ∀ (k : Nat) (ls : Array Slot), k ≤ 4 → (∀ j, k ≤ j → j < 4 → u j = 0) → lv_has ls 2 [(1, .int (nI k - 1)), (0, .ref a)] → W p l e (⟨0, 0, 0, 0⟩ : Room) s m ([.ref a] : List Value).toArray below meth c s.heap [] 0 0 (MQ below (Qn (po_X0_lastPower G A a u)) ([.ref a] : List Value).toArray s (⟨0, 0, 0, 0⟩ : Room).cells (⟨0, 0, 0, 0⟩ : Room).slots (fun _ => False)) (F0 m 5 ls []) := by
    intro k
    induction k with
    | zero =>
      intro ls hk hu hl
      refine pb_blk B.hx B.hb (lv' := [(1, .int (nI 0 - 1)), (0, .ref a)]) (st' := [.int (nI 0 - 1)]) hl bkX0_lastPower_5_6 rfl (fun ls hl => ?_)
      refine lv_if_lt (tgt := 28) B.hx B.hb dX0_lastPower_6 (by decide) (fun h1 => ?_) (fun h1 => ?_)
      · refine pb_blk B.hx B.hb (lv' := [(1, .int (nI 0 - 1)), (0, .ref a)]) (st' := [.int (-1)]) hl bkX0_lastPower_28_29 rfl (fun ls hl => ?_)
        exact n_iret B dX0_lastPower_29 (by rw [po_X0_lastPower, dgI_no (fun j hj => hu j (Nat.zero_le _) hj)]) (Nat.le_refl _) (Nat.le_refl _)
      · exact absurd (by decide) h1
    | succ k ih =>
      intro ls hk hu hl
      rw [nI_pred] at hl
      refine pb_blk B.hx B.hb (lv' := [(1, .int (nI k)), (0, .ref a)]) (st' := [.int (nI k)]) hl bkX0_lastPower_5_6 rfl (fun ls hl => ?_)
      refine lv_if_lt (tgt := 28) B.hx B.hb dX0_lastPower_6 (by decide) (fun h1 => ?_) (fun h1 => ?_)
      · exact absurd h1 (nI_pos (by omega))
      · obtain ⟨y, ey, n, d, ob, fx⟩ := hf k (by omega)
        refine pb_blk B.hx B.hb (lv' := [(1, .int (nI k)), (0, .ref a)]) (st' := [.int (nI k), .ref a]) hl bkX0_lastPower_9_11 rfl (fun ls hl => ?_)
        refine z_aald B 3 rfl ar.2 (vp_in_nI (show k < 4 by omega) (by decide)) (v := .ref y) (by rw [nI_clamp (by omega)]; exact ey) dX0_lastPower_11 ?_
        refine z_get B ciX1 0 (by decide) ob wd_F_X0_35 rfl dX0_lastPower_12 ?_
        refine pb_blk B.hx B.hb (lv' := [(1, .int (nI k)), (0, .ref a)]) (st' := [.int (lg_cmp n 0)]) hl bkX0_lastPower_15_17 rfl (fun ls hl => ?_)
        refine lv_if_eq (tgt := 22) B.hx B.hb dX0_lastPower_17 (by decide) (fun h2 => ?_) (fun h2 => ?_)
        · have hu0 : u k = 0 := Rat.num_eq_zero.mp (by rw [← fx.1, (lg_cmp_eq _ _).mp h2]; rfl)
          refine pb_blk B.hx B.hb (lv' := [(1, .int ((nI k) + (-1))), (0, .ref a)]) (st' := []) hl bkX0_lastPower_22_5 rfl (fun ls hl => ?_)
          exact ih ls (by omega) (all_up hu hu0) (by rw [Int32.sub_eq_add_neg]; exact lv_sub hl [0, 1] rfl)
        · have hu0 : u k ≠ 0 := fun e0 => h2 ((lg_cmp_eq _ _).mpr (Int64.toInt_inj.mp (by rw [fx.1, e0]; rfl)))
          refine pb_blk B.hx B.hb (lv' := [(1, .int (nI k)), (0, .ref a)]) (st' := [.int (nI k)]) hl bkX0_lastPower_20_21 rfl (fun ls hl => ?_)
          exact n_iret B dX0_lastPower_21 (by rw [po_X0_lastPower, dgI_at (by omega) hu0 (fun j h3 h4 => hu j h3 h4)]) (Nat.le_refl _) (Nat.le_refl _)
  refine pb_blk B.hx B.hb (lv' := [(0, .ref a)]) (st' := [.ref a]) hl bkX0_lastPower_0_1 rfl (fun ls hl => ?_)
  refine z_alen B 3 rfl ar.2 dX0_lastPower_1 ?_
  refine pb_blk B.hx B.hb (lv' := [(1, .int ((nI 4) - 1)), (0, .ref a)]) (st' := []) hl bkX0_lastPower_2_5 rfl (fun ls hl => ?_)
  exact loop 4 ls (Nat.le_refl _) (fun j h1 h2 => absurd h1 (by omega)) (lv_sub hl [0, 1] rfl)

def po_X0_init (G : Gm) (A : Nat → Prop) (q a : Nat) (u : Nat → Rat) : Heap → Prop := fun H => va_at G.1 vwCl (q, .inr (0, [.ref a, .int (dgI u)])) H
theorem bkX0_init_0_1 : pb_chk cX0_init 0 [.aload_n 0] = some 1 := by decide +kernel
theorem dX0_init_1 : decode cX0_init 1 = .ok (.invokespecial 3, 3) := by decide +kernel
theorem bkX0_init_4_6 : pb_chk cX0_init 4 [.aload_n 0, .aload_n 1] = some 6 := by decide +kernel
theorem dX0_init_6 : decode cX0_init 6 = .ok (.putfield 9, 3) := by decide +kernel
theorem bkX0_init_9_11 : pb_chk cX0_init 9 [.aload_n 0, .aload_n 1] = some 11 := by decide +kernel
theorem dX0_init_11 : decode cX0_init 11 = .ok (.invokestatic 15, 3) := by decide +kernel
theorem dX0_init_14 : decode cX0_init 14 = .ok (.putfield 19, 3) := by decide +kernel
theorem dX0_init_17 : decode cX0_init 17 = .ok (.return_, 1) := by decide +kernel
set_option maxHeartbeats 4000000 in
set_option maxRecDepth 100000 in
theorem c_X0_init (l : Launch) (G : Gm) (A : Nat → Prop) (q a : Nat) (u : Nat → Rat) (hqA : A q) : Mk l yX0_init cX0_init 2 (⟨2, 0, 0, 32⟩ : Room) G A q [.ref q, .ref a] (fun H => va_at G.1 vwCl (q, .inr (0, [.null, .int 0])) H ∧ RowF G A H a 4 u) (po_X0_init G A q a u) := by
  refine of_met (by decide) (Nat.le_of_ble_eq_true rfl) ?_
  intro p e s m below meth c ls B hA ⟨ob, hr⟩ hl
  refine pb_blk B.hx B.hb (lv' := [(0, .ref q), (1, .ref a)]) (st' := [.ref q]) hl bkX0_init_0_1 rfl (fun ls hl => ?_)
  refine n_ctorN B (c_X4_init l G A q) (fun v h => h) cy_X4_init im_X4_init rfl B.hK.2.1 trivial rfl hl.1 rfl (Nat.le_of_ble_eq_true rfl) ⟨by decide, by decide⟩ ⟨by decide, by decide⟩ dX0_init_1 ?_
  refine pb_blk B.hx B.hb (lv' := [(0, .ref q), (1, .ref a)]) (st' := [.ref a, .ref q]) hl bkX0_init_4_6 rfl (fun ls hl => ?_)
  refine z_put0 B ciX0 0 (by decide) ob wd_F_X0_9 (Or.inr ⟨rfl, rfl, rfl⟩) rfl rfl (Nat.le_of_ble_eq_true rfl) dX0_init_6 (fun H1 i1 ob hz1 hq1 => ?_)
  have hr := hr.mv (Mv.put hz1 hq1 hqA)
  refine pb_blk B.hx B.hb (lv' := [(0, .ref q), (1, .ref a)]) (st' := [.ref a, .ref q]) hl bkX0_init_9_11 rfl (fun ls hl => ?_)
  refine n_callS B (c_X0_lastPower l G A a u) cy_X0_lastPower st_X0_lastPower wd_M_X0_15 hr rfl hl.1 rfl (Nat.le_of_ble_eq_true rfl) ⟨by decide, by decide⟩ ⟨Nat.zero_le _, Nat.zero_le _⟩ dX0_init_11 (fun v hv => ?_)
  rw [po_X0_lastPower] at hv
  subst hv
  refine z_put0 B ciX0 1 (by decide) ob wd_F_X0_19 (Or.inr ⟨rfl, rfl, rfl⟩) rfl rfl (Nat.le_of_ble_eq_true rfl) dX0_init_14 (fun H2 i2 ob hz2 hq2 => ?_)
  exact z_kret B dX0_init_17 (by rw [hz2, hz1]) (fun x hx => (hq2 x hx).trans (hq1 x hx)) ob (fun z hz => by simp at hz; rcases hz with rfl | rfl <;> rfl) (Nat.le_refl _) (Nat.le_refl _)

def po_X0_zeros (G : Gm) (A : Nat → Prop) (sz : Nat) : Option Value → Heap → Prop := fun v H => ∃ a, v = some (.ref a) ∧ sz ≤ a ∧ RowM G A H a 4 4 (fun _ => 0)
theorem bkX0_zeros_0_1 : pb_chk cX0_zeros 0 [.iconst 4] = some 1 := by decide +kernel
theorem dX0_zeros_1 : decode cX0_zeros 1 = .ok (.anewarray 30, 3) := by decide +kernel
theorem bkX0_zeros_4_5 : pb_chk cX0_zeros 4 [.astore_n 0] = some 5 := by decide +kernel
theorem dX0_zeros_5 : decode cX0_zeros 5 = .ok (.new 30, 3) := by decide +kernel
theorem bkX0_zeros_8_11 : pb_chk cX0_zeros 8 [.dup, .lconst 0, .lconst 1] = some 11 := by decide +kernel
theorem dX0_zeros_11 : decode cX0_zeros 11 = .ok (.invokespecial 32, 3) := by decide +kernel
theorem bkX0_zeros_14_17 : pb_chk cX0_zeros 14 [.astore_n 1, .iconst 0, .istore_n 2] = some 17 := by decide +kernel
theorem bkX0_zeros_17_19 : pb_chk cX0_zeros 17 [.iload_n 2, .aload_n 0] = some 19 := by decide +kernel
theorem dX0_zeros_19 : decode cX0_zeros 19 = .ok (.arraylength, 1) := by decide +kernel
theorem dX0_zeros_20 : decode cX0_zeros 20 = .ok (.if_icmp .ge 13, 3) := by decide +kernel
theorem bkX0_zeros_33_34 : pb_chk cX0_zeros 33 [.aload_n 0] = some 34 := by decide +kernel
theorem dX0_zeros_34 : decode cX0_zeros 34 = .ok (.areturn, 1) := by decide +kernel
theorem bkX0_zeros_23_26 : pb_chk cX0_zeros 23 [.aload_n 0, .iload_n 2, .aload_n 1] = some 26 := by decide +kernel
theorem dX0_zeros_26 : decode cX0_zeros 26 = .ok (.aastore, 1) := by decide +kernel
theorem bkX0_zeros_27_17 : pb_chk cX0_zeros 27 [.iinc 2 1, .goto (-13)] = some 17 := by decide +kernel
set_option maxHeartbeats 4000000 in
set_option maxRecDepth 100000 in
theorem c_X0_zeros (l : Launch) (G : Gm) (A : Nat → Prop) (sz : Nat) : Mz l yX0_zeros cX0_zeros 3 (some (.array (.object "FormulaHouse$Fraction"))) (⟨2, 2, 6, 36⟩ : Room) G A [] (fun H => H.size = sz) (po_X0_zeros G A sz) := by
  refine of_met (by decide) (Nat.le_of_ble_eq_true rfl) ?_
  intro p e s m below meth c ls B hA hsz hl
  subst hsz
  refine pb_blk B.hx B.hb (lv' := []) (st' := [.int 4]) hl bkX0_zeros_0_1 rfl (fun ls hl => ?_)
  refine z_newq B 3 rfl wd_C_X0_30 B.hK.2.2.2.1 (by decide) (N := 4) (by decide) (by decide) (Nat.le_of_ble_eq_true rfl) (Nat.le_of_ble_eq_true rfl) dX0_zeros_1 (fun H1 w1 z1 o1 => ?_)
  refine pb_blk B.hx B.hb (lv' := [(0, .ref s.heap.size)]) (st' := []) hl bkX0_zeros_4_5 rfl (fun ls hl => ?_)
  refine z_new B ciX1 wd_C_X0_30 hfs_X1 (Nat.le_of_ble_eq_true rfl) (Nat.le_of_ble_eq_true rfl) dX0_zeros_5 (fun H2 ob2 z2 o2 => ?_)
  refine pb_blk B.hx B.hb (lv' := [(0, .ref s.heap.size)]) (st' := [.long 1, .long 0, .ref H1.size, .ref H1.size]) hl bkX0_zeros_8_11 rfl (fun ls hl => ?_)
  refine z_ctor B (c_X1_init l G A H1.size 0 1 0 0) cy_X1_init im_X1_init rfl wd_M_X0_32 (by omega) (hA_up hA (by omega)) ob2 rfl hl.1 rfl (Nat.le_of_ble_eq_true rfl) ⟨by decide, by decide⟩ ⟨by decide, by decide⟩ dX0_zeros_11 (fun H3 z3 o3 ob3 => ?_)
  refine pb_blk B.hx B.hb (lv' := [(2, .int 0), (1, .ref H1.size), (0, .ref s.heap.size)]) (st' := []) hl bkX0_zeros_14_17 rfl (fun ls hl => ?_)
  have loop : ∀ (n k : Nat) (H : Heap) (ls : Array Slot), 5 ≤ k + n → k ≤ 4 → Ex s.heap H → RowM G A H s.heap.size 4 k (fun _ => 0) → Fr G (Aq A s.heap.size) H H1.size 0 → lv_has ls 3 [(2, .int (nI k)), (1, .ref H1.size), (0, .ref s.heap.size)] → W p l e (⟨2, 2, 6, 36⟩ : Room) s m ([] : List Value).toArray below meth c H [] 2 6 (MQ below (Qz (po_X0_zeros G A s.heap.size)) ([] : List Value).toArray s (⟨2, 2, 6, 36⟩ : Room).cells (⟨2, 2, 6, 36⟩ : Room).slots (fun _ => False)) (F0 m 17 ls []) := by
    intro n
    induction n with
    | zero => intro k H ls h1 h2; omega
    | succ n ih =>
      intro k H ls hn hk hE hr hx hl
      obtain ⟨f, hf, hfs⟩ := id hr
      refine pb_blk B.hx B.hb (lv' := [(2, .int (nI k)), (1, .ref H1.size), (0, .ref s.heap.size)]) (st' := [.ref s.heap.size, .int (nI k)]) hl bkX0_zeros_17_19 rfl (fun ls hl => ?_)
      refine z_alen B 3 rfl hf dX0_zeros_19 ?_
      refine lv_icmp_ge (tgt := 33) B.hx B.hb dX0_zeros_20 (by decide) (fun h1 => ?_) (fun h1 => ?_)
      · have e4 := nI4 hk h1
        rw [e4] at hr
        refine pb_blk B.hx B.hb (lv' := [(2, .int (nI k)), (1, .ref H1.size), (0, .ref s.heap.size)]) (st' := [.ref s.heap.size]) hl bkX0_zeros_33_34 rfl (fun ls hl => ?_)
        exact z_aret B (Or.inr ⟨_, rfl⟩) dX0_zeros_34 hE ⟨_, rfl, Nat.le_refl _, hr⟩ (Nat.le_of_ble_eq_true rfl) (Nat.le_of_ble_eq_true rfl)
      · have hk4 := nI4' hk h1
        obtain ⟨n1, d1, obx, fx⟩ := id hx
        refine pb_blk B.hx B.hb (lv' := [(2, .int (nI k)), (1, .ref H1.size), (0, .ref s.heap.size)]) (st' := [.ref H1.size, .int (nI k), .ref s.heap.size]) hl bkX0_zeros_23_26 rfl (fun ls hl => ?_)
        refine z_aastF B hf obx (vp_in_nI hk4 (by decide)) dX0_zeros_26 (fun H4 w4 z4 o4 => ?_)
        rw [nI_clamp (by omega)] at w4
        refine z_forget (Nat.le_refl _) ?_
        refine pb_blk B.hx B.hb (lv' := [(2, .int ((nI k) + 1)), (1, .ref H1.size), (0, .ref s.heap.size)]) (st' := []) hl bkX0_zeros_27_17 rfl (fun ls hl => ?_)
        exact ih (k + 1) H4 ls (by omega) hk4 (hE.put z4 o4 (Nat.le_refl _)) (RowM.put hf hfs hx w4 z4 o4 (fun j h2 h3 => ⟨by omega, rfl⟩) (fun _ => rfl)) (hx.mv (Mv.put z4 o4 (Or.inr rfl))) (by rw [← nI_1]; exact lv_sub hl [0, 1, 2] rfl)
  have e23 := Ex.new z2 o2 z3 o3
  have e13 : Ex s.heap H3 := (Ex.one z1 o1).trans e23
  have hr : RowM G A H3 s.heap.size 4 0 (fun _ => 0) := (RowM.new w1).ex e23
  have hx : Fr G (Aq A s.heap.size) H3 H1.size 0 := ⟨0, 1, ⟨fun h => h.elim (fun h => absurd (hA _ h) (by omega)) (fun h => by omega), ob3⟩, frx01⟩
  exact loop 5 0 H3 ls (by omega) (Nat.zero_le _) e13 hr hx (lv_sub hl [0, 1, 2] rfl)

