theorem b2i_inj {x y : Bool} : b2i x = b2i y ↔ x = y := by cases x <;> cases y <;> simp [b2i]
theorem ls_post {G : Gm} {A : Nat → Prop} {H1 H2 : Heap} {q pa ca n : Nat} {pt : Nat → Rat} {mk : Nat → Bool} (hr : RowF G (Aq A q) H1 pa n pt) (hz : ZrP G (Aq A q) H1 ca (2 * n + 1) (2 * n + 1) mk) (z : H2.size = H1.size) (o : ∀ x, x ≠ q → H2[x]? = H1[x]?) (hq : ¬ A q) (ob : va_at G.1 vwCl (q, .inr (2, [.ref pa, .ref ca])) H2) : Ls G A H2 q n pt mk := ⟨pa, ca, ⟨hq, ob⟩, hr.mv (Mv.fin z o), hz.mv (Mv.fin z o)⟩
theorem aq_no {A : Nat → Prop} {H : Heap} {q x : Nat} (hA : ∀ q, A q → q < H.size) (h : H.size ≤ x) (hq : x ≠ q) : ¬ Aq A q x := fun h9 => h9.elim (hA_no hA h) hq
theorem Mv.up {A A' : Nat → Prop} {H0 H : Heap} (hE : Ex H0 H) (h : ∀ q, A' q → A q ∨ H0.size ≤ q) : Mv A H0 A' H := ⟨hE.1, fun q hq hA => ⟨fun h9 => (h q h9).elim hA (fun e => absurd hq (by omega)), hE.2 q hq⟩⟩
theorem updV_at {f : Nat → Value} {k : Nat} {v : Value} : updV f k v k = v := by simp [updV]

def po_X2_init (G : Gm) (A : Nat → Prop) (q pa ca : Nat) : Heap → Prop := fun H => va_at G.1 vwCl (q, .inr (2, [.ref pa, .ref ca])) H
theorem bkX2_init_0_1 : pb_chk cX2_init 0 [.aload_n 0] = some 1 := by decide +kernel
theorem dX2_init_1 : decode cX2_init 1 = .ok (.invokespecial 3, 3) := by decide +kernel
theorem bkX2_init_4_6 : pb_chk cX2_init 4 [.aload_n 0, .aload_n 1] = some 6 := by decide +kernel
theorem dX2_init_6 : decode cX2_init 6 = .ok (.putfield 9, 3) := by decide +kernel
theorem bkX2_init_9_11 : pb_chk cX2_init 9 [.aload_n 0, .aload_n 2] = some 11 := by decide +kernel
theorem dX2_init_11 : decode cX2_init 11 = .ok (.putfield 15, 3) := by decide +kernel
theorem dX2_init_14 : decode cX2_init 14 = .ok (.return_, 1) := by decide +kernel
set_option maxHeartbeats 4000000 in
set_option maxRecDepth 100000 in
theorem c_X2_init (l : Launch) (G : Gm) (A : Nat → Prop) (q pa ca : Nat) : Mk l yX2_init cX2_init 3 (⟨2, 0, 0, 32⟩ : Room) G A q [.ref q, .ref pa, .ref ca] (fun H => va_at G.1 vwCl (q, .inr (2, [.null, .null])) H) (po_X2_init G A q pa ca) := by
  refine of_met (by decide) (Nat.le_of_ble_eq_true rfl) ?_
  intro p e s m below meth c ls B hA ob hl
  refine pb_blk B.hx B.hb (lv' := [(0, .ref q), (1, .ref pa), (2, .ref ca)]) (st' := [.ref q]) hl bkX2_init_0_1 rfl (fun ls hl => ?_)
  refine n_ctorN B (c_X4_init l G A q) (fun v h => h) cy_X4_init im_X4_init rfl B.hK.2.2.1 trivial rfl hl.1 rfl (Nat.le_of_ble_eq_true rfl) ⟨by decide, by decide⟩ ⟨by decide, by decide⟩ dX2_init_1 ?_
  refine pb_blk B.hx B.hb (lv' := [(0, .ref q), (1, .ref pa), (2, .ref ca)]) (st' := [.ref pa, .ref q]) hl bkX2_init_4_6 rfl (fun ls hl => ?_)
  refine z_put0 B ciX2 0 (by decide) ob wd_F_X2_9 (Or.inr ⟨rfl, rfl, rfl⟩) rfl rfl (Nat.le_of_ble_eq_true rfl) dX2_init_6 (fun H1 i1 ob hz1 hq1 => ?_)
  refine pb_blk B.hx B.hb (lv' := [(0, .ref q), (1, .ref pa), (2, .ref ca)]) (st' := [.ref ca, .ref q]) hl bkX2_init_9_11 rfl (fun ls hl => ?_)
  refine z_put0 B ciX2 1 (by decide) ob wd_F_X2_15 (Or.inr ⟨rfl, rfl, rfl⟩) rfl rfl (Nat.le_of_ble_eq_true rfl) dX2_init_11 (fun H2 i2 ob hz2 hq2 => ?_)
  exact z_kret B dX2_init_14 (by rw [hz2, hz1]) (fun x hx => (hq2 x hx).trans (hq1 x hx)) ob (fun z hz => by simp at hz; rcases hz with rfl | rfl <;> rfl) (Nat.le_refl _) (Nat.le_refl _)

def po_X2_wholeOrNone (G : Gm) (A : Nat → Prop) (w0 : Bool) : Option Value → Heap → Prop := fun v H => ∃ q, v = some (.ref q) ∧ Ls G A H q 0 (fun _ => 0) (fun _ => w0)
theorem dX2_wholeOrNone_0 : decode cX2_wholeOrNone 0 = .ok (.new 10, 3) := by decide +kernel
theorem bkX2_wholeOrNone_3_5 : pb_chk cX2_wholeOrNone 3 [.dup, .iconst 0] = some 5 := by decide +kernel
theorem dX2_wholeOrNone_5 : decode cX2_wholeOrNone 5 = .ok (.anewarray 19, 3) := by decide +kernel
theorem bkX2_wholeOrNone_8_9 : pb_chk cX2_wholeOrNone 8 [.iconst 1] = some 9 := by decide +kernel
theorem dX2_wholeOrNone_9 : decode cX2_wholeOrNone 9 = .ok (.newarray .boolean, 2) := by decide +kernel
theorem bkX2_wholeOrNone_11_14 : pb_chk cX2_wholeOrNone 11 [.dup, .iconst 0, .iload_n 0] = some 14 := by decide +kernel
theorem dX2_wholeOrNone_14 : decode cX2_wholeOrNone 14 = .ok (.bastore, 1) := by decide +kernel
theorem dX2_wholeOrNone_15 : decode cX2_wholeOrNone 15 = .ok (.invokespecial 21, 3) := by decide +kernel
theorem dX2_wholeOrNone_18 : decode cX2_wholeOrNone 18 = .ok (.areturn, 1) := by decide +kernel
set_option maxHeartbeats 4000000 in
set_option maxRecDepth 100000 in
theorem c_X2_wholeOrNone (l : Launch) (G : Gm) (A : Nat → Prop) (w0 : Bool) : Mz l yX2_wholeOrNone cX2_wholeOrNone 1 (some (.object "FormulaHouse$LineSet")) (⟨3, 3, 3, 54⟩ : Room) G A [.int (b2i w0)] (fun _ => True) (po_X2_wholeOrNone G A w0) := by
  refine of_met (by decide) (Nat.le_of_ble_eq_true rfl) ?_
  intro p e s m below meth c ls B hA _ hl
  refine z_new B ciX2 wd_C_X2_10 hfs_X2 (Nat.le_of_ble_eq_true rfl) (Nat.le_of_ble_eq_true rfl) dX2_wholeOrNone_0 (fun H1 ob1 z1 o1 => ?_)
  refine pb_blk B.hx B.hb (lv' := [(0, .int (b2i w0))]) (st' := [.int 0, .ref s.heap.size, .ref s.heap.size]) hl bkX2_wholeOrNone_3_5 rfl (fun ls hl => ?_)
  refine z_newq B 3 rfl wd_C_X2_19 B.hK.2.ao1 (by decide) (N := 0) (by decide) (by decide) (Nat.le_of_ble_eq_true rfl) (Nat.le_of_ble_eq_true rfl) dX2_wholeOrNone_5 (fun H2 w2 z2 o2 => ?_)
  refine pb_blk B.hx B.hb (lv' := [(0, .int (b2i w0))]) (st' := [.int 1, .ref H1.size, .ref s.heap.size, .ref s.heap.size]) hl bkX2_wholeOrNone_8_9 rfl (fun ls hl => ?_)
  refine z_newa (atype := .boolean) (ty := .boolean) B 2 rfl rfl id wa_Z (by decide) (N := 1) (by decide) (by decide) (Nat.le_of_ble_eq_true rfl) (Nat.le_of_ble_eq_true rfl) dX2_wholeOrNone_9 (fun H3 w3 z3 o3 => ?_)
  refine pb_blk B.hx B.hb (lv' := [(0, .int (b2i w0))]) (st' := [.int (b2i w0), .int 0, .ref H2.size, .ref H2.size, .ref H1.size, .ref s.heap.size, .ref s.heap.size]) hl bkX2_wholeOrNone_11_14 rfl (fun ls hl => ?_)
  refine z_zast B w3 (vp_in_nI (show 0 < 1 by decide) (by decide)) (b2i_n w0) dX2_wholeOrNone_14 (fun H4 w4 z4 o4 => ?_)
  refine z_forget (by show s.heap.size ≤ H2.size; omega) ?_
  have ob4 := ((ob1.kept (q := (s.heap.size, _)) (o2 s.heap.size (by omega))).kept (q := (s.heap.size, _)) (o3 s.heap.size (by omega))).kept (q := (s.heap.size, _)) (o4 s.heap.size (by omega))
  have hr : RowF G (Aq A s.heap.size) H4 H1.size 0 (fun _ => 0) := ⟨_, ⟨aq_no hA (by omega) (by omega), (o4 _ (by omega)).trans ((o3 _ (by omega)).trans w2)⟩, fun k hk => absurd hk (Nat.not_lt_zero _)⟩
  have hz : ZrP G (Aq A s.heap.size) H4 H2.size (2 * 0 + 1) (2 * 0 + 1) (fun _ => w0) := ⟨_, ⟨aq_no hA (by omega) (by omega), w4⟩, fun j hj => by rw [show j = 0 by omega]; exact updV_at⟩
  refine z_ctor B (c_X2_init l G (fun _ => False) s.heap.size H1.size H2.size) cy_X2_init im_X2_init rfl wd_M_X2_21 (Nat.le_refl _) (fun _ h => h.elim) ob4 rfl hl.1 rfl (Nat.le_of_ble_eq_true rfl) ⟨by decide, by decide⟩ ⟨by decide, by decide⟩ dX2_wholeOrNone_15 (fun H5 z5 o5 ob5 => ?_)
  have hE : Ex s.heap H5 := ⟨by omega, fun x hx => (o5 x (by omega)).trans ((o4 x (by omega)).trans ((o3 x (by omega)).trans ((o2 x (by omega)).trans (o1 x hx))))⟩
  exact z_aret B (Or.inl ⟨_, rfl⟩) dX2_wholeOrNone_18 hE ⟨_, rfl, ls_post hr hz z5 o5 (hA_no hA (Nat.le_refl _)) ob5⟩ (Nat.le_of_ble_eq_true rfl) (Nat.le_of_ble_eq_true rfl)

def po_X2_isChange (G : Gm) (A : Nat → Prop) (ca k n m0 : Nat) (b : Nat → Bool) : Option Value → Prop := fun v => v = some (.int (b2i (chg b k)))
theorem bkX2_isChange_0_6 : pb_chk cX2_isChange 0 [.aload_n 0, .iconst 2, .iload_n 1, .imul, .iconst 1, .iadd] = some 6 := by decide +kernel
theorem dX2_isChange_6 : decode cX2_isChange 6 = .ok (.baload, 1) := by decide +kernel
theorem bkX2_isChange_7_13 : pb_chk cX2_isChange 7 [.istore_n 2, .iload_n 2, .aload_n 0, .iconst 2, .iload_n 1, .imul] = some 13 := by decide +kernel
theorem dX2_isChange_13 : decode cX2_isChange 13 = .ok (.baload, 1) := by decide +kernel
theorem dX2_isChange_14 : decode cX2_isChange 14 = .ok (.if_icmp .ne 14, 3) := by decide +kernel
theorem bkX2_isChange_28_33 : pb_chk cX2_isChange 28 [.iconst 1, .goto 4] = some 33 := by decide +kernel
theorem dX2_isChange_33 : decode cX2_isChange 33 = .ok (.ireturn, 1) := by decide +kernel
theorem bkX2_isChange_17_24 : pb_chk cX2_isChange 17 [.iload_n 2, .aload_n 0, .iconst 2, .iload_n 1, .imul, .iconst 2, .iadd] = some 24 := by decide +kernel
theorem dX2_isChange_24 : decode cX2_isChange 24 = .ok (.baload, 1) := by decide +kernel
theorem dX2_isChange_25 : decode cX2_isChange 25 = .ok (.if_icmp .eq 7, 3) := by decide +kernel
theorem bkX2_isChange_32_33 : pb_chk cX2_isChange 32 [.iconst 0] = some 33 := by decide +kernel
set_option maxHeartbeats 4000000 in
set_option maxRecDepth 100000 in
theorem c_X2_isChange (l : Launch) (G : Gm) (A : Nat → Prop) (ca k n m0 : Nat) (b : Nat → Bool) (hm : m0 ≤ n) (hn : n < 2 ^ 30) (hk : 2 * k + 2 < m0) : Mn l yX2_isChange cX2_isChange 3 (some .boolean) (⟨0, 0, 0, 0⟩ : Room) G [.ref ca, .int (nI k)] (fun H => ZrP G A H ca n m0 b) (po_X2_isChange G A ca k n m0 b) := by
  refine of_met (by decide) (Nat.le_of_ble_eq_true rfl) ?_
  intro p e s m below meth c ls B hA ⟨f, ar, hb⟩ hl
  refine pb_blk B.hx B.hb (lv' := [(0, .ref ca), (1, .int (nI k))]) (st' := [.int ((2 * (nI k)) + 1), .ref ca]) hl bkX2_isChange_0_6 rfl (fun ls hl => ?_)
  rw [ix1]
  refine z_zald B ar.2 (vp_in_nI (show 2 * k + 1 < n by omega) (by omega)) (v := .int (b2i (b (2 * k + 1)))) (by rw [nI_clamp (by omega)]; exact hb _ (by omega)) dX2_isChange_6 ?_
  refine pb_blk B.hx B.hb (lv' := [(2, .int (b2i (b (2 * k + 1)))), (0, .ref ca), (1, .int (nI k))]) (st' := [.int (2 * (nI k)), .ref ca, .int (b2i (b (2 * k + 1)))]) hl bkX2_isChange_7_13 rfl (fun ls hl => ?_)
  rw [ix0]
  refine z_zald B ar.2 (vp_in_nI (show 2 * k < n by omega) (by omega)) (v := .int (b2i (b (2 * k)))) (by rw [nI_clamp (by omega)]; exact hb _ (by omega)) dX2_isChange_13 ?_
  refine lv_icmp_ne (tgt := 28) B.hx B.hb dX2_isChange_14 (by decide) (fun h1 => ?_) (fun h1 => ?_)
  · have hc : chg b k = true := by unfold chg; rw [Bool.or_eq_true]; exact Or.inl (bne_iff_ne.mpr (fun q => h1 (by rw [q])))
    refine pb_blk B.hx B.hb (lv' := [(2, .int (b2i (b (2 * k + 1)))), (0, .ref ca), (1, .int (nI k))]) (st' := [.int 1]) hl bkX2_isChange_28_33 rfl (fun ls hl => ?_)
    exact n_zret B dX2_isChange_33 rfl (by rw [po_X2_isChange, hc]; rfl) (Nat.le_refl _) (Nat.le_refl _)
  · have e1 := b2i_inj.mp h1
    refine pb_blk B.hx B.hb (lv' := [(2, .int (b2i (b (2 * k + 1)))), (0, .ref ca), (1, .int (nI k))]) (st' := [.int ((2 * (nI k)) + 2), .ref ca, .int (b2i (b (2 * k + 1)))]) hl bkX2_isChange_17_24 rfl (fun ls hl => ?_)
    rw [ix2]
    refine z_zald B ar.2 (vp_in_nI (show 2 * k + 2 < n by omega) (by omega)) (v := .int (b2i (b (2 * k + 2)))) (by rw [nI_clamp (by omega)]; exact hb _ (by omega)) dX2_isChange_24 ?_
    refine lv_icmp_eq (tgt := 32) B.hx B.hb dX2_isChange_25 (by decide) (fun h2 => ?_) (fun h2 => ?_)
    · have e2 := b2i_inj.mp h2
      have hc : chg b k = false := by unfold chg; rw [Bool.or_eq_false_iff]; exact ⟨by rw [e1]; simp, by rw [e2]; simp⟩
      refine pb_blk B.hx B.hb (lv' := [(2, .int (b2i (b (2 * k + 1)))), (0, .ref ca), (1, .int (nI k))]) (st' := [.int 0]) hl bkX2_isChange_32_33 rfl (fun ls hl => ?_)
      exact n_zret B dX2_isChange_33 rfl (by rw [po_X2_isChange, hc]; rfl) (Nat.le_refl _) (Nat.le_refl _)
    · have hc : chg b k = true := by unfold chg; rw [Bool.or_eq_true]; exact Or.inr (bne_iff_ne.mpr (fun q => h2 (by rw [q])))
      refine pb_blk B.hx B.hb (lv' := [(2, .int (b2i (b (2 * k + 1)))), (0, .ref ca), (1, .int (nI k))]) (st' := [.int 1]) hl bkX2_isChange_28_33 rfl (fun ls hl => ?_)
      exact n_zret B dX2_isChange_33 rfl (by rw [po_X2_isChange, hc]; rfl) (Nat.le_refl _) (Nat.le_refl _)

def po_X2_ofCells (G : Gm) (A : Nat → Prop) (pa ca L1 L2 mm : Nat) (pt : Nat → Rat) (b : Nat → Bool) : Option Value → Heap → Prop := fun v H => ∃ q, v = some (.ref q) ∧ Ls G A H q (czn b mm) (czp pt b mm) (czm b mm)
theorem bkX2_ofCells_0_5 : pb_chk cX2_ofCells 0 [.iconst 0, .istore_n 3, .iconst 0, .istore 4] = some 5 := by decide +kernel
theorem bkX2_ofCells_5_8 : pb_chk cX2_ofCells 5 [.iload 4, .iload_n 2] = some 8 := by decide +kernel
theorem dX2_ofCells_8 : decode cX2_ofCells 8 = .ok (.if_icmp .ge 26, 3) := by decide +kernel
theorem bkX2_ofCells_11_15 : pb_chk cX2_ofCells 11 [.iload_n 3, .aload_n 1, .iload 4] = some 15 := by decide +kernel
theorem dX2_ofCells_15 : decode cX2_ofCells 15 = .ok (.invokestatic 24, 3) := by decide +kernel
theorem dX2_ofCells_18 : decode cX2_ofCells 18 = .ok (.ifCond .eq 7, 3) := by decide +kernel
theorem bkX2_ofCells_25_5 : pb_chk cX2_ofCells 25 [.iconst 0, .iadd, .istore_n 3, .iinc 4 1, .goto (-26)] = some 5 := by decide +kernel
theorem bkX2_ofCells_21_5 : pb_chk cX2_ofCells 21 [.iconst 1, .goto 4, .iadd, .istore_n 3, .iinc 4 1, .goto (-26)] = some 5 := by decide +kernel
theorem bkX2_ofCells_34_35 : pb_chk cX2_ofCells 34 [.iload_n 3] = some 35 := by decide +kernel
theorem dX2_ofCells_35 : decode cX2_ofCells 35 = .ok (.anewarray 19, 3) := by decide +kernel
theorem bkX2_ofCells_38_45 : pb_chk cX2_ofCells 38 [.astore 4, .iconst 2, .iload_n 3, .imul, .iconst 1, .iadd] = some 45 := by decide +kernel
theorem dX2_ofCells_45 : decode cX2_ofCells 45 = .ok (.newarray .boolean, 2) := by decide +kernel
theorem bkX2_ofCells_47_54 : pb_chk cX2_ofCells 47 [.astore 5, .aload 5, .iconst 0, .aload_n 1, .iconst 0] = some 54 := by decide +kernel
theorem dX2_ofCells_54 : decode cX2_ofCells 54 = .ok (.baload, 1) := by decide +kernel
theorem dX2_ofCells_55 : decode cX2_ofCells 55 = .ok (.bastore, 1) := by decide +kernel
theorem bkX2_ofCells_56_62 : pb_chk cX2_ofCells 56 [.iconst 0, .istore 6, .iconst 0, .istore 7] = some 62 := by decide +kernel
theorem bkX2_ofCells_62_65 : pb_chk cX2_ofCells 62 [.iload 7, .iload_n 2] = some 65 := by decide +kernel
theorem dX2_ofCells_65 : decode cX2_ofCells 65 = .ok (.if_icmp .ge 70, 3) := by decide +kernel
theorem bkX2_ofCells_68_71 : pb_chk cX2_ofCells 68 [.iload 6, .iload_n 3] = some 71 := by decide +kernel
theorem dX2_ofCells_71 : decode cX2_ofCells 71 = .ok (.if_icmp .ge 64, 3) := by decide +kernel
theorem bkX2_ofCells_74_77 : pb_chk cX2_ofCells 74 [.aload_n 1, .iload 7] = some 77 := by decide +kernel
theorem dX2_ofCells_77 : decode cX2_ofCells 77 = .ok (.invokestatic 24, 3) := by decide +kernel
theorem dX2_ofCells_80 : decode cX2_ofCells 80 = .ok (.ifCond .eq 49, 3) := by decide +kernel
theorem bkX2_ofCells_129_62 : pb_chk cX2_ofCells 129 [.iinc 7 1, .goto (-70)] = some 62 := by decide +kernel
theorem bkX2_ofCells_83_90 : pb_chk cX2_ofCells 83 [.aload 4, .iload 6, .aload_n 0, .iload 7] = some 90 := by decide +kernel
theorem dX2_ofCells_90 : decode cX2_ofCells 90 = .ok (.aaload, 1) := by decide +kernel
theorem dX2_ofCells_91 : decode cX2_ofCells 91 = .ok (.aastore, 1) := by decide +kernel
theorem bkX2_ofCells_92_107 : pb_chk cX2_ofCells 92 [.aload 5, .iconst 2, .iload 6, .imul, .iconst 1, .iadd, .aload_n 1, .iconst 2, .iload 7, .imul, .iconst 1, .iadd] = some 107 := by decide +kernel
theorem dX2_ofCells_107 : decode cX2_ofCells 107 = .ok (.baload, 1) := by decide +kernel
theorem dX2_ofCells_108 : decode cX2_ofCells 108 = .ok (.bastore, 1) := by decide +kernel
theorem bkX2_ofCells_109_124 : pb_chk cX2_ofCells 109 [.aload 5, .iconst 2, .iload 6, .imul, .iconst 2, .iadd, .aload_n 1, .iconst 2, .iload 7, .imul, .iconst 2, .iadd] = some 124 := by decide +kernel
theorem dX2_ofCells_124 : decode cX2_ofCells 124 = .ok (.baload, 1) := by decide +kernel
theorem dX2_ofCells_125 : decode cX2_ofCells 125 = .ok (.bastore, 1) := by decide +kernel
theorem bkX2_ofCells_126_62 : pb_chk cX2_ofCells 126 [.iinc 6 1, .iinc 7 1, .goto (-70)] = some 62 := by decide +kernel
theorem dX2_ofCells_135 : decode cX2_ofCells 135 = .ok (.new 10, 3) := by decide +kernel
theorem bkX2_ofCells_138_143 : pb_chk cX2_ofCells 138 [.dup, .aload 4, .aload 5] = some 143 := by decide +kernel
theorem dX2_ofCells_143 : decode cX2_ofCells 143 = .ok (.invokespecial 21, 3) := by decide +kernel
theorem dX2_ofCells_146 : decode cX2_ofCells 146 = .ok (.areturn, 1) := by decide +kernel
set_option maxHeartbeats 4000000 in
set_option maxRecDepth 100000 in
theorem c_X2_ofCells (l : Launch) (G : Gm) (A : Nat → Prop) (pa ca L1 L2 mm : Nat) (pt : Nat → Rat) (b : Nat → Bool) (h1L : mm ≤ L1) (h2L : 2 * mm + 1 ≤ L2) (hm3 : mm ≤ 320) (hL1 : L1 < 2 ^ 30) (hL2 : L2 < 2 ^ 30) (hcz : czn b mm ≤ 160) : Mz l yX2_ofCells cX2_ofCells 8 (some (.object "FormulaHouse$LineSet")) (⟨3, 3, 964, 54⟩ : Room) G A [.ref pa, .ref ca, .int (nI mm)] (fun H => RowP G A H pa L1 mm pt ∧ ZrP G A H ca L2 (2 * mm + 1) b) (po_X2_ofCells G A pa ca L1 L2 mm pt b) := by
  refine of_met (by decide) (Nat.le_of_ble_eq_true rfl) ?_
  intro p e s m below meth c ls B hA ⟨hp, hc⟩ hl
  have fin : ∀ (cb : Nat) (hcb : s.heap.size < cb) (k : Nat) (H : Heap) (ls : Array Slot), k ≤ mm → czn b k = czn b mm → Ex s.heap H → RowM G (Aq A cb) H s.heap.size (czn b mm) (czn b k) (czp pt b k) → ZrM G H cb (2 * czn b mm + 1) (2 * czn b k + 1) (czm b k) → lv_has ls 8 [(5, .ref cb), (4, .ref s.heap.size)] → W p l e (⟨3, 3, 964, 54⟩ : Room) s m ([.ref pa, .ref ca, .int (nI mm)] : List Value).toArray below meth c H [] 2 (3 * czn b mm + 1) (MQ below (Qz (po_X2_ofCells G A pa ca L1 L2 mm pt b)) ([.ref pa, .ref ca, .int (nI mm)] : List Value).toArray s (⟨3, 3, 964, 54⟩ : Room).cells (⟨3, 3, 964, 54⟩ : Room).slots (fun _ => False)) (F0 m 135 ls []) := by
    intro cb hcb k H ls hk ek hE hr hz hl
    obtain ⟨ep, em⟩ := cz_stop pt b hk ek
    rw [ek, ep] at hr
    rw [ek, em] at hz
    refine z_new B ciX2 wd_C_X2_10 hfs_X2 (by (try dsimp only); omega) (by (try dsimp only); omega) dX2_ofCells_135 (fun J1 ob1 y1 p1 => ?_)
    refine pb_blk B.hx B.hb (lv' := [(5, .ref cb), (4, .ref s.heap.size)]) (st' := [.ref cb, .ref s.heap.size, .ref H.size, .ref H.size]) hl bkX2_ofCells_138_143 rfl (fun ls hl => ?_)
    have ej1 := Ex.one y1 p1
    have hrf : RowF G (Aq A H.size) J1 s.heap.size (czn b mm) (czp pt b mm) := (((hr.fin (aq_no hA (Nat.le_refl _) (by omega))).mv Mv.shrink).mv Mv.grow).mv (ej1.mv _)
    have hzf : ZrP G (Aq A H.size) J1 cb (2 * czn b mm + 1) (2 * czn b mm + 1) (czm b mm) := by obtain ⟨f, hf, hfs⟩ := hz.ex ej1; exact ⟨f, ⟨aq_no hA (by omega) (by have := hz.lt; omega), hf⟩, hfs⟩
    refine z_ctor B (c_X2_init l G (fun _ => False) H.size s.heap.size cb) cy_X2_init im_X2_init rfl wd_M_X2_21 hE.1 (fun _ h => h.elim) ob1 rfl hl.1 rfl (Nat.le_of_ble_eq_true rfl) ⟨by decide, by decide⟩ ⟨(by (try dsimp only); omega), (by (try dsimp only); omega)⟩ dX2_ofCells_143 (fun J2 y2 p2 ob2 => ?_)
    exact z_aret B (Or.inl ⟨_, rfl⟩) dX2_ofCells_146 (hE.trans (Ex.new y1 p1 y2 p2)) ⟨_, rfl, ls_post hrf hzf y2 p2 (hA_no hA hE.1) ob2⟩ (by (try dsimp only); omega) (by (try dsimp only); omega)
  have loop2 : ∀ (cb : Nat) (hcb0 : s.heap.size < cb) (n k : Nat) (H : Heap) (ls : Array Slot), mm + 1 ≤ k + n → k ≤ mm → Ex s.heap H → RowM G (Aq A cb) H s.heap.size (czn b mm) (czn b k) (czp pt b k) → ZrM G H cb (2 * czn b mm + 1) (2 * czn b k + 1) (czm b k) → lv_has ls 8 [(7, .int (nI k)), (6, .int (nI (czn b k))), (5, .ref cb), (4, .ref s.heap.size), (3, .int (nI (czn b mm))), (0, .ref pa), (1, .ref ca), (2, .int (nI mm))] → W p l e (⟨3, 3, 964, 54⟩ : Room) s m ([.ref pa, .ref ca, .int (nI mm)] : List Value).toArray below meth c H [] 2 (3 * czn b mm + 1) (MQ below (Qz (po_X2_ofCells G A pa ca L1 L2 mm pt b)) ([.ref pa, .ref ca, .int (nI mm)] : List Value).toArray s (⟨3, 3, 964, 54⟩ : Room).cells (⟨3, 3, 964, 54⟩ : Room).slots (fun _ => False)) (F0 m 62 ls []) := by
    intro cb hcb0 n
    have hcb : s.heap.size ≤ cb := by omega
    have hca : ca < s.heap.size := by obtain ⟨f, ar, -⟩ := hc; exact ar.lt
    have hcc : ca ≠ cb := by omega
    induction n with
    | zero => intro k H ls h1 h2; omega
    | succ n ih =>
      intro k H ls hn hk hE hr hz hl
      have hkm := czn_mono b hk
      refine pb_blk B.hx B.hb (lv' := [(7, .int (nI k)), (6, .int (nI (czn b k))), (5, .ref cb), (4, .ref s.heap.size), (3, .int (nI (czn b mm))), (0, .ref pa), (1, .ref ca), (2, .int (nI mm))]) (st' := [.int (nI mm), .int (nI k)]) hl bkX2_ofCells_62_65 rfl (fun ls hl => ?_)
      refine lv_icmp_ge (tgt := 135) B.hx B.hb dX2_ofCells_65 (by decide) (fun h1 => ?_) (fun h1 => ?_)
      · have e4 : k = mm := by have := nI_nlt_le (by omega) (k2_nlt h1); omega
        exact fin cb hcb0 k H ls hk (by rw [e4]) hE hr hz (lv_sub hl [2, 3] rfl)
      · have hk4 : k < mm := (nI_ltI (by omega) (by omega)).mp (k2_lt h1)
        refine pb_blk B.hx B.hb (lv' := [(7, .int (nI k)), (6, .int (nI (czn b k))), (5, .ref cb), (4, .ref s.heap.size), (3, .int (nI (czn b mm))), (0, .ref pa), (1, .ref ca), (2, .int (nI mm))]) (st' := [.int (nI (czn b mm)), .int (nI (czn b k))]) hl bkX2_ofCells_68_71 rfl (fun ls hl => ?_)
        refine lv_icmp_ge (tgt := 135) B.hx B.hb dX2_ofCells_71 (by decide) (fun h2 => ?_) (fun h2 => ?_)
        · exact fin cb hcb0 k H ls hk (by have := nI_nlt_le (show czn b mm < 2 ^ 31 by omega) (k2_nlt h2); omega) hE hr hz (lv_sub hl [2, 3] rfl)
        · have hkk : czn b k < czn b mm := (nI_ltI (by omega) (by omega)).mp (k2_lt h2)
          have hp1 := hp.mv (hE.mv A)
          have hc1 := hc.mv (hE.mv A)
          refine pb_blk B.hx B.hb (lv' := [(7, .int (nI k)), (6, .int (nI (czn b k))), (5, .ref cb), (4, .ref s.heap.size), (3, .int (nI (czn b mm))), (0, .ref pa), (1, .ref ca), (2, .int (nI mm))]) (st' := [.int (nI k), .ref ca]) hl bkX2_ofCells_74_77 rfl (fun ls hl => ?_)
          refine n_callS B (c_X2_isChange l G A ca k L2 (2 * mm + 1) b h2L hL2 (by omega)) cy_X2_isChange st_X2_isChange wd_M_X2_24 hc1 rfl hl.1 rfl (Nat.le_of_ble_eq_true rfl) ⟨by decide, by decide⟩ ⟨(by (try dsimp only); omega), (by (try dsimp only); omega)⟩ dX2_ofCells_77 (fun v hv => ?_)
          rw [po_X2_isChange] at hv
          subst hv
          refine lv_if_eq (tgt := 129) B.hx B.hb dX2_ofCells_80 (by decide) (fun h3 => ?_) (fun h3 => ?_)
          · have e0 := (b2i_0 _).mp h3
            refine pb_blk B.hx B.hb (lv' := [(7, .int ((nI k) + 1)), (6, .int (nI (czn b k))), (5, .ref cb), (4, .ref s.heap.size), (3, .int (nI (czn b mm))), (0, .ref pa), (1, .ref ca), (2, .int (nI mm))]) (st' := []) hl bkX2_ofCells_129_62 rfl (fun ls hl => ?_)
            exact ih (k + 1) H ls (by omega) hk4 hE (by rw [czn_n e0, czp_n e0]; exact hr) (by rw [czn_n e0, czm_n e0]; exact hz) (by rw [← nI_1, czn_n e0]; exact lv_sub hl [0, 1, 2, 3, 4, 5, 6, 7] rfl)
          · have e0 := ts9 (fun q => h3 ((b2i_0 _).mpr q))
            obtain ⟨fp, arp0, hfp⟩ := id hp
            have arp := arp0.mv (hE.mv A)
            obtain ⟨fc, arc, hfc⟩ := hc1
            obtain ⟨x, ex, hx⟩ := hfp k hk4
            refine pb_blk B.hx B.hb (lv' := [(7, .int (nI k)), (6, .int (nI (czn b k))), (5, .ref cb), (4, .ref s.heap.size), (3, .int (nI (czn b mm))), (0, .ref pa), (1, .ref ca), (2, .int (nI mm))]) (st' := [.int (nI k), .ref pa, .int (nI (czn b k)), .ref s.heap.size]) hl bkX2_ofCells_83_90 rfl (fun ls hl => ?_)
            refine z_aald B 3 rfl arp.2 (vp_in_nI (show k < L1 by omega) (by omega)) (v := .ref x) (by rw [nI_clamp (by omega)]; exact ex) dX2_ofCells_90 ?_
            obtain ⟨fr, hfr, hfrs⟩ := id hr
            obtain ⟨fz, hfz, hfzs⟩ := id hz
            have hx1 : Fr G (Aq (Aq A cb) s.heap.size) H x (pt k) := hx.mv (Mv.up hE (fun z hz => hz.elim (fun hz => hz.elim Or.inl (fun e9 => Or.inr (by omega))) (fun e9 => Or.inr (by omega))))
            obtain ⟨n9, d9, ob9, fx9⟩ := id hx1
            refine z_aastF B hfr ob9 (vp_in_nI hkk (by omega)) dX2_ofCells_91 (fun J1 v1 y1 p1 => ?_)
            rw [nI_clamp (by omega)] at v1
            refine z_forget (Nat.le_refl _) ?_
            have hr1 : RowM G (Aq A cb) J1 s.heap.size (czn b mm) (czn b (k + 1)) (czp pt b (k + 1)) := RowM.put hfr hfrs hx1 v1 y1 p1 (fun j g2 g3 => ⟨by rw [czn_y e0] at g2; omega, by rw [czp_y e0]; exact if_neg g3⟩) (fun _ => by rw [czp_y e0]; exact if_pos rfl)
            have hz1 := hz.oth p1 (show cb ≠ s.heap.size by omega)
            obtain ⟨fz, hfz, hfzs⟩ := id hz1
            have arc1 : J1[ca]? = some (arrV (G.2 2) L2 fc) := (p1 ca (by omega)).trans arc.2
            refine pb_blk B.hx B.hb (lv' := [(7, .int (nI k)), (6, .int (nI (czn b k))), (5, .ref cb), (4, .ref s.heap.size), (3, .int (nI (czn b mm))), (0, .ref pa), (1, .ref ca), (2, .int (nI mm))]) (st' := [.int ((2 * (nI k)) + 1), .ref ca, .int ((2 * (nI (czn b k))) + 1), .ref cb]) hl bkX2_ofCells_92_107 rfl (fun ls hl => ?_)
            rw [ix1, ix1]
            refine z_zald B arc1 (vp_in_nI (show 2 * k + 1 < L2 by omega) (by omega)) (v := .int (b2i (b (2 * k + 1)))) (by rw [nI_clamp (by omega)]; exact hfc _ (by omega)) dX2_ofCells_107 ?_
            refine z_zast B hfz (vp_in_nI (show 2 * czn b k + 1 < 2 * czn b mm + 1 by omega) (by omega)) (b2i_n _) dX2_ofCells_108 (fun J2 v2 y2 p2 => ?_)
            rw [nI_clamp (by omega)] at v2
            refine z_forget hcb ?_
            have hz2 : ZrM G J2 cb (2 * czn b mm + 1) (2 * czn b k + 2) (czm b (k + 1)) := ZrM.put hfzs v2 (fun j g2 g3 => ⟨by omega, by rw [czm_y e0]; show (if _ then _ else if _ then _ else _) = _; rw [if_neg g3, if_neg (by omega)]⟩) (fun _ => by rw [czm_y e0]; exact if_pos rfl)
            obtain ⟨fz, hfz, hfzs⟩ := id hz2
            have hr2 := hr1.oth y2 p2 (show s.heap.size ≠ cb by omega) (Or.inr rfl)
            have arc2 : J2[ca]? = some (arrV (G.2 2) L2 fc) := (p2 ca hcc).trans arc1
            refine pb_blk B.hx B.hb (lv' := [(7, .int (nI k)), (6, .int (nI (czn b k))), (5, .ref cb), (4, .ref s.heap.size), (3, .int (nI (czn b mm))), (0, .ref pa), (1, .ref ca), (2, .int (nI mm))]) (st' := [.int ((2 * (nI k)) + 2), .ref ca, .int ((2 * (nI (czn b k))) + 2), .ref cb]) hl bkX2_ofCells_109_124 rfl (fun ls hl => ?_)
            rw [ix2, ix2]
            refine z_zald B arc2 (vp_in_nI (show 2 * k + 2 < L2 by omega) (by omega)) (v := .int (b2i (b (2 * k + 2)))) (by rw [nI_clamp (by omega)]; exact hfc _ (by omega)) dX2_ofCells_124 ?_
            refine z_zast B hfz (vp_in_nI (show 2 * czn b k + 2 < 2 * czn b mm + 1 by omega) (by omega)) (b2i_n _) dX2_ofCells_125 (fun J3 v3 y3 p3 => ?_)
            rw [nI_clamp (by omega)] at v3
            refine z_forget hcb ?_
            have hz3 : ZrM G J3 cb (2 * czn b mm + 1) (2 * czn b (k + 1) + 1) (czm b (k + 1)) := ZrM.put hfzs v3 (fun j g2 g3 => ⟨by rw [czn_y e0] at g2; omega, rfl⟩) (fun _ => by rw [czm_y e0]; show (if _ then _ else if _ then _ else _) = _; rw [if_neg (by omega), if_pos rfl])
            have hr3 := hr2.oth y3 p3 (show s.heap.size ≠ cb by omega) (Or.inr rfl)
            refine pb_blk B.hx B.hb (lv' := [(7, .int ((nI k) + 1)), (6, .int ((nI (czn b k)) + 1)), (5, .ref cb), (4, .ref s.heap.size), (3, .int (nI (czn b mm))), (0, .ref pa), (1, .ref ca), (2, .int (nI mm))]) (st' := []) hl bkX2_ofCells_126_62 rfl (fun ls hl => ?_)
            exact ih (k + 1) J3 ls (by omega) hk4 (((hE.put y1 p1 (Nat.le_refl _)).put y2 p2 hcb).put y3 p3 hcb) hr3 hz3 (by rw [← nI_1, czn_y e0, ← nI_1]; exact lv_sub hl [0, 1, 2, 3, 4, 5, 6, 7] rfl)
  have second : ∀ (ls : Array Slot), lv_has ls 8 [(3, .int (nI (czn b mm))), (0, .ref pa), (1, .ref ca), (2, .int (nI mm))] → W p l e (⟨3, 3, 964, 54⟩ : Room) s m ([.ref pa, .ref ca, .int (nI mm)] : List Value).toArray below meth c s.heap [] 0 0 (MQ below (Qz (po_X2_ofCells G A pa ca L1 L2 mm pt b)) ([.ref pa, .ref ca, .int (nI mm)] : List Value).toArray s (⟨3, 3, 964, 54⟩ : Room).cells (⟨3, 3, 964, 54⟩ : Room).slots (fun _ => False)) (F0 m 34 ls []) := by
    intro ls hl
    refine pb_blk B.hx B.hb (lv' := [(3, .int (nI (czn b mm))), (0, .ref pa), (1, .ref ca), (2, .int (nI mm))]) (st' := [.int (nI (czn b mm))]) hl bkX2_ofCells_34_35 rfl (fun ls hl => ?_)
    refine z_newq B 3 rfl wd_C_X2_19 B.hK.2.ao1 (nI_pos (by omega)) (N := czn b mm) (nI_clamp (by omega)) (by omega) (by (try dsimp only); omega) (by (try dsimp only); omega) dX2_ofCells_35 (fun H1 w1 z1 o1 => ?_)
    refine pb_blk B.hx B.hb (lv' := [(4, .ref s.heap.size), (3, .int (nI (czn b mm))), (0, .ref pa), (1, .ref ca), (2, .int (nI mm))]) (st' := [.int ((2 * (nI (czn b mm))) + 1)]) hl bkX2_ofCells_38_45 rfl (fun ls hl => ?_)
    rw [ix1]
    refine z_newa (atype := .boolean) (ty := .boolean) B 2 rfl rfl id wa_Z (nI_pos (by omega)) (N := 2 * czn b mm + 1) (nI_clamp (by omega)) (by show (2 * czn b mm + 1) * 1 ≤ _; omega) (by (try dsimp only); omega) (by (try dsimp only); omega) dX2_ofCells_45 (fun H2 w2 z2 o2 => ?_)
    have e12 : Ex s.heap H2 := (Ex.one z1 o1).trans (Ex.one z2 o2)
    obtain ⟨f, ar, hb⟩ := hc.mv (e12.mv A)
    refine pb_blk B.hx B.hb (lv' := [(5, .ref H1.size), (4, .ref s.heap.size), (3, .int (nI (czn b mm))), (0, .ref pa), (1, .ref ca), (2, .int (nI mm))]) (st' := [.int 0, .ref ca, .int 0, .ref H1.size]) hl bkX2_ofCells_47_54 rfl (fun ls hl => ?_)
    refine z_zald B ar.2 (vp_in_nI (show 0 < L2 by omega) (by omega)) (v := .int (b2i (b 0))) (by exact hb 0 (by omega)) dX2_ofCells_54 ?_
    refine z_zast B w2 (vp_in_nI (show 0 < 2 * czn b mm + 1 by omega) (by omega)) (b2i_n (b 0)) dX2_ofCells_55 (fun H3 w3 z3 o3 => ?_)
    refine z_forget (by show s.heap.size ≤ H1.size; omega) ?_
    refine pb_blk B.hx B.hb (lv' := [(7, .int 0), (6, .int 0), (5, .ref H1.size), (4, .ref s.heap.size), (3, .int (nI (czn b mm))), (0, .ref pa), (1, .ref ca), (2, .int (nI mm))]) (st' := []) hl bkX2_ofCells_56_62 rfl (fun ls hl => ?_)
    have hE3 : Ex s.heap H3 := e12.put z3 o3 (by omega)
    have hr : RowM G (Aq A H1.size) H3 s.heap.size (czn b mm) 0 (czp pt b 0) := ⟨_, (o3 _ (by omega)).trans ((o2 _ (by omega)).trans w1), fun j hj => absurd hj (Nat.not_lt_zero _)⟩
    have hz : ZrM G H3 H1.size (2 * czn b mm + 1) (2 * czn b 0 + 1) (czm b 0) := ⟨_, w3, fun j hj => by rw [show j = 0 from Nat.lt_one_iff.mp hj]; exact updV_at⟩
    refine W.widen (k := 2) (n := 3 * czn b mm + 1) (by omega) (by omega) ?_
    exact loop2 H1.size (by omega) (mm + 1) 0 H3 ls (by omega) (by omega) hE3 hr hz (lv_sub hl [0, 1, 2, 3, 4, 5, 6, 7] rfl)
  have loop : ∀ (n k : Nat) (ls : Array Slot), mm + 1 ≤ k + n → k ≤ mm → lv_has ls 8 [(4, .int (nI k)), (3, .int (nI (czn b k))), (0, .ref pa), (1, .ref ca), (2, .int (nI mm))] → W p l e (⟨3, 3, 964, 54⟩ : Room) s m ([.ref pa, .ref ca, .int (nI mm)] : List Value).toArray below meth c s.heap [] 0 0 (MQ below (Qz (po_X2_ofCells G A pa ca L1 L2 mm pt b)) ([.ref pa, .ref ca, .int (nI mm)] : List Value).toArray s (⟨3, 3, 964, 54⟩ : Room).cells (⟨3, 3, 964, 54⟩ : Room).slots (fun _ => False)) (F0 m 5 ls []) := by
    intro n
    induction n with
    | zero => intro k ls h1 h2; omega
    | succ n ih =>
      intro k ls hn hk hl
      refine pb_blk B.hx B.hb (lv' := [(4, .int (nI k)), (3, .int (nI (czn b k))), (0, .ref pa), (1, .ref ca), (2, .int (nI mm))]) (st' := [.int (nI mm), .int (nI k)]) hl bkX2_ofCells_5_8 rfl (fun ls hl => ?_)
      refine lv_icmp_ge (tgt := 34) B.hx B.hb dX2_ofCells_8 (by decide) (fun h1 => ?_) (fun h1 => ?_)
      · have e4 : k = mm := by have := nI_nlt_le (by omega) (k2_nlt h1); omega
        exact second ls (by have h9 := lv_sub hl [1, 2, 3, 4] rfl; rwa [e4] at h9)
      · have hk4 : k < mm := (nI_ltI (by omega) (by omega)).mp (k2_lt h1)
        refine pb_blk B.hx B.hb (lv' := [(4, .int (nI k)), (3, .int (nI (czn b k))), (0, .ref pa), (1, .ref ca), (2, .int (nI mm))]) (st' := [.int (nI k), .ref ca, .int (nI (czn b k))]) hl bkX2_ofCells_11_15 rfl (fun ls hl => ?_)
        refine n_callS B (c_X2_isChange l G A ca k L2 (2 * mm + 1) b h2L hL2 (by omega)) cy_X2_isChange st_X2_isChange wd_M_X2_24 hc rfl hl.1 rfl (Nat.le_of_ble_eq_true rfl) ⟨by decide, by decide⟩ ⟨by decide, by decide⟩ dX2_ofCells_15 (fun v hv => ?_)
        rw [po_X2_isChange] at hv
        subst hv
        refine lv_if_eq (tgt := 25) B.hx B.hb dX2_ofCells_18 (by decide) (fun h2 => ?_) (fun h2 => ?_)
        · have e0 := (b2i_0 _).mp h2
          refine pb_blk B.hx B.hb (lv' := [(4, .int ((nI k) + 1)), (3, .int ((nI (czn b k)) + 0)), (0, .ref pa), (1, .ref ca), (2, .int (nI mm))]) (st' := []) hl bkX2_ofCells_25_5 rfl (fun ls hl => ?_)
          exact ih (k + 1) ls (by omega) hk4 (by rw [← nI_1, czn_n e0]; have h9 := lv_sub hl [0, 1, 2, 3, 4] rfl; rwa [show nI (czn b k) + 0 = nI (czn b k) from nI_add _ 0] at h9)
        · have e0 := ts9 (fun q => h2 ((b2i_0 _).mpr q))
          refine pb_blk B.hx B.hb (lv' := [(4, .int ((nI k) + 1)), (3, .int ((nI (czn b k)) + 1)), (0, .ref pa), (1, .ref ca), (2, .int (nI mm))]) (st' := []) hl bkX2_ofCells_21_5 rfl (fun ls hl => ?_)
          exact ih (k + 1) ls (by omega) hk4 (by rw [← nI_1, czn_y e0, ← nI_1]; exact lv_sub hl [0, 1, 2, 3, 4] rfl)
  refine pb_blk B.hx B.hb (lv' := [(4, .int 0), (3, .int 0), (0, .ref pa), (1, .ref ca), (2, .int (nI mm))]) (st' := []) hl bkX2_ofCells_0_5 rfl (fun ls hl => ?_)
  exact loop (mm + 1) 0 ls (by omega) (by omega) (lv_sub hl [0, 1, 2, 3, 4] rfl)

