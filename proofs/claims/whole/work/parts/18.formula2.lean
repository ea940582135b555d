def cst (r : Rat) : Nat → Rat := fun k => if k = 0 then r else 0
def sel (u : Nat → Rat) (p : Int32) : Rat := if p < 0 ∨ nI 4 ≤ p then 0 else u p.toNatClampNeg
theorem Fr.ob {G : Gm} {A : Nat → Prop} {H : Heap} {q : Nat} {r : Rat} (h : Fr G A H q r) : ∃ fs, va_at G.1 vwCl (q, .inr (1, fs)) H := by
  obtain ⟨n, d, h1, -⟩ := h
  exact ⟨_, h1.2⟩
theorem Fo.ob {G : Gm} {A : Nat → Prop} {H : Heap} {q : Nat} {u : Nat → Rat} (h : Fo G A H q u) : ∃ fs, va_at G.1 vwCl (q, .inr (0, fs)) H := by
  obtain ⟨a, h1, -⟩ := h
  exact ⟨_, h1.2⟩

def po_X0_constant (G : Gm) (A : Nat → Prop) (x : Nat) (r : Rat) : Option Value → Heap → Prop := fun v H => ∃ q, v = some (.ref q) ∧ Fo G A H q (cst r)
theorem dX0_constant_0 : decode cX0_constant 0 = .ok (.invokestatic 23, 3) := by decide +kernel
theorem bkX0_constant_3_7 : pb_chk cX0_constant 3 [.astore_n 1, .aload_n 1, .iconst 0, .aload_n 0] = some 7 := by decide +kernel
theorem dX0_constant_7 : decode cX0_constant 7 = .ok (.aastore, 1) := by decide +kernel
theorem dX0_constant_8 : decode cX0_constant 8 = .ok (.new 10, 3) := by decide +kernel
theorem bkX0_constant_11_13 : pb_chk cX0_constant 11 [.dup, .aload_n 1] = some 13 := by decide +kernel
theorem dX0_constant_13 : decode cX0_constant 13 = .ok (.invokespecial 27, 3) := by decide +kernel
theorem dX0_constant_16 : decode cX0_constant 16 = .ok (.areturn, 1) := by decide +kernel
set_option maxHeartbeats 4000000 in
set_option maxRecDepth 100000 in
theorem c_X0_constant (l : Launch) (G : Gm) (A : Nat → Prop) (x : Nat) (r : Rat) : Mz l yX0_constant cX0_constant 2 (some (.object "FormulaHouse$Formula")) (⟨3, 3, 8, 58⟩ : Room) G A [.ref x] (fun H => Fr G A H x r) (po_X0_constant G A x r) := by
  refine of_met (by decide) (Nat.le_of_ble_eq_true rfl) ?_
  intro p e s m below meth c ls B hA hx hl
  refine z_callS B (c_X0_zeros l G A s.heap.size) cy_X0_zeros st_X0_zeros wd_M_X0_23 hA rfl rfl hl.1 rfl (Nat.le_of_ble_eq_true rfl) ⟨by decide, by decide⟩ ⟨by decide, by decide⟩ dX0_constant_0 (fun v H1 hE hv => ?_)
  obtain ⟨a, rfl, hsa, f, hf, hfs⟩ := hv
  refine pb_blk B.hx B.hb (lv' := [(1, .ref a), (0, .ref x)]) (st' := [.ref x, .int 0, .ref a]) hl bkX0_constant_3_7 rfl (fun ls hl => ?_)
  have hx1 : Fr G (Aq A a) H1 x r := hx.mv ⟨hE.1, fun z hz hA1 => ⟨fun h => h.elim hA1 (fun e9 => by omega), hE.2 z hz⟩⟩
  obtain ⟨n1, d1, obx, fx⟩ := id hx1
  refine z_aastF B hf obx (vp_in_nI (show 0 < 4 by decide) (by decide)) dX0_constant_7 (fun H2 w2 z2 o2 => ?_)
  refine z_forget hsa ?_
  have hr : RowM G A H2 a 4 4 (cst r) := RowM.put hf hfs hx1 w2 z2 o2 (fun j h2 h3 => ⟨h2, if_neg h3⟩) (fun _ => rfl)
  have hE2 := hE.put z2 o2 hsa
  refine z_new B ciX0 wd_C_X0_10 hfs_X0 (by (try dsimp only); omega) (by (try dsimp only); omega) dX0_constant_8 (fun J1 ob1 y1 p1 => ?_)
  refine pb_blk B.hx B.hb (lv' := [(1, .ref a), (0, .ref x)]) (st' := [.ref a, .ref H2.size, .ref H2.size]) hl bkX0_constant_11_13 rfl (fun ls hl => ?_)
  have ej1 := Ex.one y1 p1
  have hrf := fo_pre hr (hA_no hA hsa) ej1
  refine z_ctor B (c_X0_init l G (Aq A H2.size) H2.size a (cst r) (Or.inr rfl)) cy_X0_init im_X0_init rfl wd_M_X0_27 (hE2).1 (hA_aq hA (by have := (hE2).1; omega) (by omega)) ⟨ob1, hrf⟩ rfl hl.1 rfl (Nat.le_of_ble_eq_true rfl) ⟨by decide, by decide⟩ ⟨(by (try dsimp only); omega), (by (try dsimp only); omega)⟩ dX0_constant_13 (fun J2 y2 p2 ob2 => ?_)
  exact z_aret B (Or.inl ⟨_, rfl⟩) dX0_constant_16 ((hE2).trans (Ex.new y1 p1 y2 p2)) ⟨_, rfl, fo_post hrf y2 p2 (hA_no hA (hE2).1) ob2⟩ (by (try dsimp only); omega) (by (try dsimp only); omega)

def po_X0_fraction (G : Gm) (A : Nat → Prop) (q k : Nat) (u : Nat → Rat) (H0 : Heap) : Option Value → Prop := fun v => ∃ x, v = some (.ref x) ∧ Fr G A H0 x (u k)
theorem bkX0_fraction_0_1 : pb_chk cX0_fraction 0 [.iload_n 1] = some 1 := by decide +kernel
theorem dX0_fraction_1 : decode cX0_fraction 1 = .ok (.ifCond .lt 12, 3) := by decide +kernel
theorem bkX0_fraction_4_6 : pb_chk cX0_fraction 4 [.iload_n 1, .aload_n 0] = some 6 := by decide +kernel
theorem dX0_fraction_6 : decode cX0_fraction 6 = .ok (.getfield 9, 3) := by decide +kernel
theorem dX0_fraction_9 : decode cX0_fraction 9 = .ok (.arraylength, 1) := by decide +kernel
theorem dX0_fraction_10 : decode cX0_fraction 10 = .ok (.if_icmp .lt 15, 3) := by decide +kernel
theorem bkX0_fraction_25_26 : pb_chk cX0_fraction 25 [.aload_n 0] = some 26 := by decide +kernel
theorem dX0_fraction_26 : decode cX0_fraction 26 = .ok (.getfield 9, 3) := by decide +kernel
theorem bkX0_fraction_29_30 : pb_chk cX0_fraction 29 [.iload_n 1] = some 30 := by decide +kernel
theorem dX0_fraction_30 : decode cX0_fraction 30 = .ok (.aaload, 1) := by decide +kernel
theorem dX0_fraction_31 : decode cX0_fraction 31 = .ok (.areturn, 1) := by decide +kernel
set_option maxHeartbeats 4000000 in
set_option maxRecDepth 100000 in
theorem c_X0_fraction (l : Launch) (G : Gm) (A : Nat → Prop) (q k : Nat) (u : Nat → Rat) (H0 : Heap) (hk : k < 4) : Mn l yX0_fraction cX0_fraction 2 (some (.object "FormulaHouse$Fraction")) (⟨0, 0, 0, 0⟩ : Room) G [.ref q, .int (nI k)] (fun H => H = H0 ∧ Fo G A H q u) (po_X0_fraction G A q k u H0) := by
  refine of_met (by decide) (Nat.le_of_ble_eq_true rfl) ?_
  intro p e s m below meth c ls B hA ⟨rfl, a, ob, f, ar, hf⟩ hl
  refine pb_blk B.hx B.hb (lv' := [(0, .ref q), (1, .int (nI k))]) (st' := [.int (nI k)]) hl bkX0_fraction_0_1 rfl (fun ls hl => ?_)
  refine lv_if_lt (tgt := 13) B.hx B.hb dX0_fraction_1 (by decide) (fun h1 => ?_) (fun h1 => ?_)
  · exact absurd h1 (nI_pos (by omega))
  · refine pb_blk B.hx B.hb (lv' := [(0, .ref q), (1, .int (nI k))]) (st' := [.ref q, .int (nI k)]) hl bkX0_fraction_4_6 rfl (fun ls hl => ?_)
    refine z_get B ciX0 0 (by decide) ob wd_F_X0_9 rfl dX0_fraction_6 ?_
    refine z_alen B 3 rfl ar.2 dX0_fraction_9 ?_
    refine lv_icmp_lt (tgt := 25) B.hx B.hb dX0_fraction_10 (by decide) (fun h2 => ?_) (fun h2 => ?_)
    · refine pb_blk B.hx B.hb (lv' := [(0, .ref q), (1, .int (nI k))]) (st' := [.ref q]) hl bkX0_fraction_25_26 rfl (fun ls hl => ?_)
      refine z_get B ciX0 0 (by decide) ob wd_F_X0_9 rfl dX0_fraction_26 ?_
      refine pb_blk B.hx B.hb (lv' := [(0, .ref q), (1, .int (nI k))]) (st' := [.int (nI k), .ref a]) hl bkX0_fraction_29_30 rfl (fun ls hl => ?_)
      obtain ⟨y, ey, hy⟩ := hf k hk
      refine z_aald B 3 rfl ar.2 (vp_in_nI hk (by decide)) (v := .ref y) (by rw [nI_clamp (by omega)]; exact ey) dX0_fraction_30 ?_
      exact n_aret B (Or.inl ⟨_, rfl⟩) dX0_fraction_31 ⟨y, rfl, hy⟩ (Nat.le_refl _) (Nat.le_refl _)
    · exact absurd (nI_lt hk (by decide)) h2

def po_X0_fractionO (G : Gm) (A : Nat → Prop) (q : Nat) (p0 : Int32) (u : Nat → Rat) : Option Value → Heap → Prop := fun v H => ∃ x, v = some (.ref x) ∧ Fr G A H x 0
theorem dX0_fraction_13 : decode cX0_fraction 13 = .ok (.new 30, 3) := by decide +kernel
theorem bkX0_fraction_16_19 : pb_chk cX0_fraction 16 [.dup, .lconst 0, .lconst 1] = some 19 := by decide +kernel
theorem dX0_fraction_19 : decode cX0_fraction 19 = .ok (.invokespecial 32, 3) := by decide +kernel
theorem bkX0_fraction_22_31 : pb_chk cX0_fraction 22 [.goto 9] = some 31 := by decide +kernel
set_option maxHeartbeats 4000000 in
set_option maxRecDepth 100000 in
theorem c_X0_fractionO (l : Launch) (G : Gm) (A : Nat → Prop) (q : Nat) (p0 : Int32) (u : Nat → Rat) (hk : p0 < 0 ∨ nI 4 ≤ p0) : Mz l yX0_fraction cX0_fraction 2 (some (.object "FormulaHouse$Fraction")) (⟨2, 1, 2, 36⟩ : Room) G A [.ref q, .int p0] (fun H => Fo G A H q u) (po_X0_fractionO G A q p0 u) := by
  refine of_met (by decide) (Nat.le_of_ble_eq_true rfl) ?_
  intro p e s m below meth c ls B hA ⟨a, ob, f, ar, hf⟩ hl
  refine pb_blk B.hx B.hb (lv' := [(0, .ref q), (1, .int p0)]) (st' := [.int p0]) hl bkX0_fraction_0_1 rfl (fun ls hl => ?_)
  refine lv_if_lt (tgt := 13) B.hx B.hb dX0_fraction_1 (by decide) (fun h1 => ?_) (fun h1 => ?_)
  · refine z_new B ciX1 wd_C_X0_30 hfs_X1 (Nat.le_of_ble_eq_true rfl) (Nat.le_of_ble_eq_true rfl) dX0_fraction_13 (fun H1 ob1 z1 o1 => ?_)
    refine pb_blk B.hx B.hb (lv' := [(0, .ref q), (1, .int p0)]) (st' := [.long 1, .long 0, .ref s.heap.size, .ref s.heap.size]) hl bkX0_fraction_16_19 rfl (fun ls hl => ?_)
    refine z_ctor B (c_X1_init l G A s.heap.size 0 1 0 0) cy_X1_init im_X1_init rfl wd_M_X0_32 (Nat.le_refl _) (hA_up hA (by omega)) ob1 rfl hl.1 rfl (Nat.le_of_ble_eq_true rfl) ⟨by decide, by decide⟩ ⟨by decide, by decide⟩ dX0_fraction_19 (fun H2 z2 o2 ob2 => ?_)
    refine pb_blk B.hx B.hb (lv' := [(0, .ref q), (1, .int p0)]) (st' := [.ref s.heap.size]) hl bkX0_fraction_22_31 rfl (fun ls hl => ?_)
    exact z_aret B (Or.inl ⟨_, rfl⟩) dX0_fraction_31 (Ex.new z1 o1 z2 o2) ⟨_, rfl, 0, 1, ⟨hA_no hA (Nat.le_refl _), ob2⟩, frx01⟩ (Nat.le_of_ble_eq_true rfl) (Nat.le_of_ble_eq_true rfl)
  · refine pb_blk B.hx B.hb (lv' := [(0, .ref q), (1, .int p0)]) (st' := [.ref q, .int p0]) hl bkX0_fraction_4_6 rfl (fun ls hl => ?_)
    refine z_get B ciX0 0 (by decide) ob wd_F_X0_9 rfl dX0_fraction_6 ?_
    refine z_alen B 3 rfl ar.2 dX0_fraction_9 ?_
    refine lv_icmp_lt (tgt := 25) B.hx B.hb dX0_fraction_10 (by decide) (fun h2 => ?_) (fun h2 => ?_)
    · exact absurd (hk.elim (fun h => absurd h h1) id) (k2_nle h2)
    · refine z_new B ciX1 wd_C_X0_30 hfs_X1 (Nat.le_of_ble_eq_true rfl) (Nat.le_of_ble_eq_true rfl) dX0_fraction_13 (fun H1 ob1 z1 o1 => ?_)
      refine pb_blk B.hx B.hb (lv' := [(0, .ref q), (1, .int p0)]) (st' := [.long 1, .long 0, .ref s.heap.size, .ref s.heap.size]) hl bkX0_fraction_16_19 rfl (fun ls hl => ?_)
      refine z_ctor B (c_X1_init l G A s.heap.size 0 1 0 0) cy_X1_init im_X1_init rfl wd_M_X0_32 (Nat.le_refl _) (hA_up hA (by omega)) ob1 rfl hl.1 rfl (Nat.le_of_ble_eq_true rfl) ⟨by decide, by decide⟩ ⟨by decide, by decide⟩ dX0_fraction_19 (fun H2 z2 o2 ob2 => ?_)
      refine pb_blk B.hx B.hb (lv' := [(0, .ref q), (1, .int p0)]) (st' := [.ref s.heap.size]) hl bkX0_fraction_22_31 rfl (fun ls hl => ?_)
      exact z_aret B (Or.inl ⟨_, rfl⟩) dX0_fraction_31 (Ex.new z1 o1 z2 o2) ⟨_, rfl, 0, 1, ⟨hA_no hA (Nat.le_refl _), ob2⟩, frx01⟩ (Nat.le_of_ble_eq_true rfl) (Nat.le_of_ble_eq_true rfl)

def po_X0_plus (G : Gm) (A : Nat → Prop) (q1 q2 : Nat) (u1 u2 : Nat → Rat) : Option Value → Heap → Prop := fun v H => ∃ q, v = some (.ref q) ∧ Fo G A H q (fun k => u1 k + u2 k)
theorem bkX0_plus_0_1 : pb_chk cX0_plus 0 [.iconst 4] = some 1 := by decide +kernel
theorem dX0_plus_1 : decode cX0_plus 1 = .ok (.anewarray 30, 3) := by decide +kernel
theorem bkX0_plus_4_7 : pb_chk cX0_plus 4 [.astore_n 2, .iconst 0, .istore_n 3] = some 7 := by decide +kernel
theorem bkX0_plus_7_9 : pb_chk cX0_plus 7 [.iload_n 3, .aload_n 2] = some 9 := by decide +kernel
theorem dX0_plus_9 : decode cX0_plus 9 = .ok (.arraylength, 1) := by decide +kernel
theorem dX0_plus_10 : decode cX0_plus 10 = .ok (.if_icmp .ge 25, 3) := by decide +kernel
theorem dX0_plus_35 : decode cX0_plus 35 = .ok (.new 10, 3) := by decide +kernel
theorem bkX0_plus_38_40 : pb_chk cX0_plus 38 [.dup, .aload_n 2] = some 40 := by decide +kernel
theorem dX0_plus_40 : decode cX0_plus 40 = .ok (.invokespecial 27, 3) := by decide +kernel
theorem dX0_plus_43 : decode cX0_plus 43 = .ok (.areturn, 1) := by decide +kernel
theorem bkX0_plus_13_17 : pb_chk cX0_plus 13 [.aload_n 2, .iload_n 3, .aload_n 0, .iload_n 3] = some 17 := by decide +kernel
theorem dX0_plus_17 : decode cX0_plus 17 = .ok (.invokevirtual 39, 3) := by decide +kernel
theorem bkX0_plus_20_22 : pb_chk cX0_plus 20 [.aload_n 1, .iload_n 3] = some 22 := by decide +kernel
theorem dX0_plus_22 : decode cX0_plus 22 = .ok (.invokevirtual 39, 3) := by decide +kernel
theorem dX0_plus_25 : decode cX0_plus 25 = .ok (.invokevirtual 43, 3) := by decide +kernel
theorem dX0_plus_28 : decode cX0_plus 28 = .ok (.aastore, 1) := by decide +kernel
theorem bkX0_plus_29_7 : pb_chk cX0_plus 29 [.iinc 3 1, .goto (-25)] = some 7 := by decide +kernel
set_option maxHeartbeats 4000000 in
set_option maxRecDepth 100000 in
theorem c_X0_plus (l : Launch) (G : Gm) (A : Nat → Prop) (q1 q2 : Nat) (u1 u2 : Nat → Rat) (hb : ∀ k, k < 4 → Pb (u1 k) (u2 k)) : Mz l yX0_plus cX0_plus 4 (some (.object "FormulaHouse$Formula")) (⟨4, 6, 14, 99⟩ : Room) G A [.ref q1, .ref q2] (fun H => Fo G A H q1 u1 ∧ Fo G A H q2 u2) (po_X0_plus G A q1 q2 u1 u2) := by
  refine of_met (by decide) (Nat.le_of_ble_eq_true rfl) ?_
  intro p e s m below meth c ls B hA ⟨h1f, h2f⟩ hl
  have loop : ∀ (n k : Nat) (H : Heap) (ls : Array Slot), 5 ≤ k + n → k ≤ 4 → Ex s.heap H → RowM G A H s.heap.size 4 k (fun k => u1 k + u2 k) → lv_has ls 4 [(3, .int (nI k)), (2, .ref s.heap.size), (0, .ref q1), (1, .ref q2)] → W p l e (⟨4, 6, 14, 99⟩ : Room) s m ([.ref q1, .ref q2] : List Value).toArray below meth c H [] (1 + k) (4 + 2 * k) (MQ below (Qz (po_X0_plus G A q1 q2 u1 u2)) ([.ref q1, .ref q2] : List Value).toArray s (⟨4, 6, 14, 99⟩ : Room).cells (⟨4, 6, 14, 99⟩ : Room).slots (fun _ => False)) (F0 m 7 ls []) := by
    intro n
    induction n with
    | zero => intro k H ls h1 h2; omega
    | succ n ih =>
      intro k H ls hn hk hE hr hl
      obtain ⟨f, hf, hfs⟩ := id hr
      refine pb_blk B.hx B.hb (lv' := [(3, .int (nI k)), (2, .ref s.heap.size), (0, .ref q1), (1, .ref q2)]) (st' := [.ref s.heap.size, .int (nI k)]) hl bkX0_plus_7_9 rfl (fun ls hl => ?_)
      refine z_alen B 3 rfl hf dX0_plus_9 ?_
      refine lv_icmp_ge (tgt := 35) B.hx B.hb dX0_plus_10 (by decide) (fun h1 => ?_) (fun h1 => ?_)
      · have e4 := nI4 hk h1
        rw [e4] at hr
        refine z_new B ciX0 wd_C_X0_10 hfs_X0 (by (try dsimp only); omega) (by (try dsimp only); omega) dX0_plus_35 (fun J1 ob1 y1 p1 => ?_)
        refine pb_blk B.hx B.hb (lv' := [(3, .int (nI k)), (2, .ref s.heap.size), (0, .ref q1), (1, .ref q2)]) (st' := [.ref s.heap.size, .ref H.size, .ref H.size]) hl bkX0_plus_38_40 rfl (fun ls hl => ?_)
        have ej1 := Ex.one y1 p1
        have hrf := fo_pre hr (hA_no hA (Nat.le_refl _)) ej1
        refine z_ctor B (c_X0_init l G (Aq A H.size) H.size s.heap.size (fun k => u1 k + u2 k) (Or.inr rfl)) cy_X0_init im_X0_init rfl wd_M_X0_27 (hE).1 (hA_aq hA (by have := (hE).1; omega) (by omega)) ⟨ob1, hrf⟩ rfl hl.1 rfl (Nat.le_of_ble_eq_true rfl) ⟨by decide, by decide⟩ ⟨(by (try dsimp only); omega), (by (try dsimp only); omega)⟩ dX0_plus_40 (fun J2 y2 p2 ob2 => ?_)
        exact z_aret B (Or.inl ⟨_, rfl⟩) dX0_plus_43 ((hE).trans (Ex.new y1 p1 y2 p2)) ⟨_, rfl, fo_post hrf y2 p2 (hA_no hA (hE).1) ob2⟩ (by (try dsimp only); omega) (by (try dsimp only); omega)
      · have hk4 := nI4' hk h1
        have haq := hA_aq hA hE.1 hr.lt
        have h1f := (h1f.mv Mv.grow).mv (hE.mv (Aq A s.heap.size))
        have h2f := (h2f.mv Mv.grow).mv (hE.mv (Aq A s.heap.size))
        refine pb_blk B.hx B.hb (lv' := [(3, .int (nI k)), (2, .ref s.heap.size), (0, .ref q1), (1, .ref q2)]) (st' := [.int (nI k), .ref q1, .int (nI k), .ref s.heap.size]) hl bkX0_plus_13_17 rfl (fun ls hl => ?_)
        obtain ⟨fs9, ho⟩ := h1f.ob
        refine n_callV B (c_X0_fraction l G (Aq A s.heap.size) q1 k u1 H hk4) cy_X0_fraction im_X0_fraction se_X0_fraction wd_M_X0_39 rfl ho ⟨rfl, h1f⟩ rfl hl.1 rfl (Nat.le_of_ble_eq_true rfl) ⟨by decide, by decide⟩ ⟨(by (try dsimp only); omega), (by (try dsimp only); omega)⟩ dX0_plus_17 (fun v hv => ?_)
        obtain ⟨x1, rfl, hx1⟩ := hv
        refine pb_blk B.hx B.hb (lv' := [(3, .int (nI k)), (2, .ref s.heap.size), (0, .ref q1), (1, .ref q2)]) (st' := [.int (nI k), .ref q2, .ref x1, .int (nI k), .ref s.heap.size]) hl bkX0_plus_20_22 rfl (fun ls hl => ?_)
        obtain ⟨fs9, ho⟩ := h2f.ob
        refine n_callV B (c_X0_fraction l G (Aq A s.heap.size) q2 k u2 H hk4) cy_X0_fraction im_X0_fraction se_X0_fraction wd_M_X0_39 rfl ho ⟨rfl, h2f⟩ rfl hl.1 rfl (Nat.le_of_ble_eq_true rfl) ⟨by decide, by decide⟩ ⟨(by (try dsimp only); omega), (by (try dsimp only); omega)⟩ dX0_plus_22 (fun v hv => ?_)
        obtain ⟨x2, rfl, hx2⟩ := hv
        obtain ⟨fs9, ho⟩ := hx1.ob
        refine z_callV B (c_X1_plus l G (Aq A s.heap.size) x1 x2 (u1 k) (u2 k) (hb k hk4)) cy_X1_plus im_X1_plus se_X1_plus wd_M_X0_43 rfl ho haq ⟨hx1, hx2⟩ rfl hl.1 rfl (Nat.le_of_ble_eq_true rfl) ⟨by decide, by decide⟩ ⟨(by (try dsimp only); omega), (by (try dsimp only); omega)⟩ dX0_plus_25 (fun v J1 hE1 hv => ?_)
        obtain ⟨y, rfl, hy⟩ := hv
        have hE := hE.trans hE1
        have hr := hr.ex hE1
        obtain ⟨f, hf, hfs⟩ := id hr
        obtain ⟨n9, d9, ob9, fx9⟩ := id hy
        refine z_aastF B hf ob9 (vp_in_nI hk4 (by decide)) dX0_plus_28 (fun J9 w9 z9 o9 => ?_)
        rw [nI_clamp (by omega)] at w9
        refine z_forget (Nat.le_refl _) ?_
        refine W.widen (k := 1 + (k + 1)) (n := 4 + 2 * (k + 1)) (by (try dsimp only); omega) (by (try dsimp only); omega) ?_
        refine pb_blk B.hx B.hb (lv' := [(3, .int ((nI k) + 1)), (2, .ref s.heap.size), (0, .ref q1), (1, .ref q2)]) (st' := []) hl bkX0_plus_29_7 rfl (fun ls hl => ?_)
        exact ih (k + 1) J9 ls (by omega) hk4 (hE.put z9 o9 (Nat.le_refl _)) (RowM.put hf hfs hy w9 z9 o9 (fun j h2 h3 => ⟨by omega, rfl⟩) (fun _ => rfl)) (by rw [← nI_1]; exact lv_sub hl [0, 1, 2, 3] rfl)
  refine pb_blk B.hx B.hb (lv' := [(0, .ref q1), (1, .ref q2)]) (st' := [.int 4]) hl bkX0_plus_0_1 rfl (fun ls hl => ?_)
  refine z_newq B 3 rfl wd_C_X0_30 B.hK.2.2.2.1 (by decide) (N := 4) (by decide) (by decide) (Nat.le_of_ble_eq_true rfl) (Nat.le_of_ble_eq_true rfl) dX0_plus_1 (fun H1 w1 z1 o1 => ?_)
  refine pb_blk B.hx B.hb (lv' := [(3, .int 0), (2, .ref s.heap.size), (0, .ref q1), (1, .ref q2)]) (st' := []) hl bkX0_plus_4_7 rfl (fun ls hl => ?_)
  exact loop 5 0 H1 ls (by omega) (Nat.zero_le _) (Ex.one z1 o1) (RowM.new w1) (lv_sub hl [0, 1, 2, 3] rfl)

def po_X0_scaled (G : Gm) (A : Nat → Prop) (q1 q2 : Nat) (u1 : Nat → Rat) (r2 : Rat) : Option Value → Heap → Prop := fun v H => ∃ q, v = some (.ref q) ∧ Fo G A H q (fun k => u1 k * r2)
theorem bkX0_scaled_0_1 : pb_chk cX0_scaled 0 [.iconst 4] = some 1 := by decide +kernel
theorem dX0_scaled_1 : decode cX0_scaled 1 = .ok (.anewarray 30, 3) := by decide +kernel
theorem bkX0_scaled_4_7 : pb_chk cX0_scaled 4 [.astore_n 2, .iconst 0, .istore_n 3] = some 7 := by decide +kernel
theorem bkX0_scaled_7_9 : pb_chk cX0_scaled 7 [.iload_n 3, .aload_n 2] = some 9 := by decide +kernel
theorem dX0_scaled_9 : decode cX0_scaled 9 = .ok (.arraylength, 1) := by decide +kernel
theorem dX0_scaled_10 : decode cX0_scaled 10 = .ok (.if_icmp .ge 21, 3) := by decide +kernel
theorem dX0_scaled_31 : decode cX0_scaled 31 = .ok (.new 10, 3) := by decide +kernel
theorem bkX0_scaled_34_36 : pb_chk cX0_scaled 34 [.dup, .aload_n 2] = some 36 := by decide +kernel
theorem dX0_scaled_36 : decode cX0_scaled 36 = .ok (.invokespecial 27, 3) := by decide +kernel
theorem dX0_scaled_39 : decode cX0_scaled 39 = .ok (.areturn, 1) := by decide +kernel
theorem bkX0_scaled_13_17 : pb_chk cX0_scaled 13 [.aload_n 2, .iload_n 3, .aload_n 0, .iload_n 3] = some 17 := by decide +kernel
theorem dX0_scaled_17 : decode cX0_scaled 17 = .ok (.invokevirtual 39, 3) := by decide +kernel
theorem bkX0_scaled_20_21 : pb_chk cX0_scaled 20 [.aload_n 1] = some 21 := by decide +kernel
theorem dX0_scaled_21 : decode cX0_scaled 21 = .ok (.invokevirtual 47, 3) := by decide +kernel
theorem dX0_scaled_24 : decode cX0_scaled 24 = .ok (.aastore, 1) := by decide +kernel
theorem bkX0_scaled_25_7 : pb_chk cX0_scaled 25 [.iinc 3 1, .goto (-21)] = some 7 := by decide +kernel
set_option maxHeartbeats 4000000 in
set_option maxRecDepth 100000 in
theorem c_X0_scaled (l : Launch) (G : Gm) (A : Nat → Prop) (q1 q2 : Nat) (u1 : Nat → Rat) (r2 : Rat) (hb : ∀ k, k < 4 → (u1 k).num.natAbs * r2.num.natAbs < 2 ^ 62 ∧ (u1 k).den * r2.den < 2 ^ 48) : Mz l yX0_scaled cX0_scaled 4 (some (.object "FormulaHouse$Formula")) (⟨4, 6, 14, 95⟩ : Room) G A [.ref q1, .ref q2] (fun H => Fo G A H q1 u1 ∧ Fr G A H q2 r2) (po_X0_scaled G A q1 q2 u1 r2) := by
  refine of_met (by decide) (Nat.le_of_ble_eq_true rfl) ?_
  intro p e s m below meth c ls B hA ⟨h1f, h2f⟩ hl
  have loop : ∀ (n k : Nat) (H : Heap) (ls : Array Slot), 5 ≤ k + n → k ≤ 4 → Ex s.heap H → RowM G A H s.heap.size 4 k (fun k => u1 k * r2) → lv_has ls 4 [(3, .int (nI k)), (2, .ref s.heap.size), (0, .ref q1), (1, .ref q2)] → W p l e (⟨4, 6, 14, 95⟩ : Room) s m ([.ref q1, .ref q2] : List Value).toArray below meth c H [] (1 + k) (4 + 2 * k) (MQ below (Qz (po_X0_scaled G A q1 q2 u1 r2)) ([.ref q1, .ref q2] : List Value).toArray s (⟨4, 6, 14, 95⟩ : Room).cells (⟨4, 6, 14, 95⟩ : Room).slots (fun _ => False)) (F0 m 7 ls []) := by
    intro n
    induction n with
    | zero => intro k H ls h1 h2; omega
    | succ n ih =>
      intro k H ls hn hk hE hr hl
      obtain ⟨f, hf, hfs⟩ := id hr
      refine pb_blk B.hx B.hb (lv' := [(3, .int (nI k)), (2, .ref s.heap.size), (0, .ref q1), (1, .ref q2)]) (st' := [.ref s.heap.size, .int (nI k)]) hl bkX0_scaled_7_9 rfl (fun ls hl => ?_)
      refine z_alen B 3 rfl hf dX0_scaled_9 ?_
      refine lv_icmp_ge (tgt := 31) B.hx B.hb dX0_scaled_10 (by decide) (fun h1 => ?_) (fun h1 => ?_)
      · have e4 := nI4 hk h1
        rw [e4] at hr
        refine z_new B ciX0 wd_C_X0_10 hfs_X0 (by (try dsimp only); omega) (by (try dsimp only); omega) dX0_scaled_31 (fun J1 ob1 y1 p1 => ?_)
        refine pb_blk B.hx B.hb (lv' := [(3, .int (nI k)), (2, .ref s.heap.size), (0, .ref q1), (1, .ref q2)]) (st' := [.ref s.heap.size, .ref H.size, .ref H.size]) hl bkX0_scaled_34_36 rfl (fun ls hl => ?_)
        have ej1 := Ex.one y1 p1
        have hrf := fo_pre hr (hA_no hA (Nat.le_refl _)) ej1
        refine z_ctor B (c_X0_init l G (Aq A H.size) H.size s.heap.size (fun k => u1 k * r2) (Or.inr rfl)) cy_X0_init im_X0_init rfl wd_M_X0_27 (hE).1 (hA_aq hA (by have := (hE).1; omega) (by omega)) ⟨ob1, hrf⟩ rfl hl.1 rfl (Nat.le_of_ble_eq_true rfl) ⟨by decide, by decide⟩ ⟨(by (try dsimp only); omega), (by (try dsimp only); omega)⟩ dX0_scaled_36 (fun J2 y2 p2 ob2 => ?_)
        exact z_aret B (Or.inl ⟨_, rfl⟩) dX0_scaled_39 ((hE).trans (Ex.new y1 p1 y2 p2)) ⟨_, rfl, fo_post hrf y2 p2 (hA_no hA (hE).1) ob2⟩ (by (try dsimp only); omega) (by (try dsimp only); omega)
      · have hk4 := nI4' hk h1
        have haq := hA_aq hA hE.1 hr.lt
        have h1f := (h1f.mv Mv.grow).mv (hE.mv (Aq A s.heap.size))
        have h2f := (h2f.mv Mv.grow).mv (hE.mv (Aq A s.heap.size))
        refine pb_blk B.hx B.hb (lv' := [(3, .int (nI k)), (2, .ref s.heap.size), (0, .ref q1), (1, .ref q2)]) (st' := [.int (nI k), .ref q1, .int (nI k), .ref s.heap.size]) hl bkX0_scaled_13_17 rfl (fun ls hl => ?_)
        obtain ⟨fs9, ho⟩ := h1f.ob
        refine n_callV B (c_X0_fraction l G (Aq A s.heap.size) q1 k u1 H hk4) cy_X0_fraction im_X0_fraction se_X0_fraction wd_M_X0_39 rfl ho ⟨rfl, h1f⟩ rfl hl.1 rfl (Nat.le_of_ble_eq_true rfl) ⟨by decide, by decide⟩ ⟨(by (try dsimp only); omega), (by (try dsimp only); omega)⟩ dX0_scaled_17 (fun v hv => ?_)
        obtain ⟨x1, rfl, hx1⟩ := hv
        refine pb_blk B.hx B.hb (lv' := [(3, .int (nI k)), (2, .ref s.heap.size), (0, .ref q1), (1, .ref q2)]) (st' := [.ref q2, .ref x1, .int (nI k), .ref s.heap.size]) hl bkX0_scaled_20_21 rfl (fun ls hl => ?_)
        obtain ⟨fs9, ho⟩ := hx1.ob
        refine z_callV B (c_X1_multiplied l G (Aq A s.heap.size) x1 q2 (u1 k) r2 (hb k hk4).1 (hb k hk4).2) cy_X1_multiplied im_X1_multiplied se_X1_multiplied wd_M_X0_47 rfl ho haq ⟨hx1, h2f⟩ rfl hl.1 rfl (Nat.le_of_ble_eq_true rfl) ⟨by decide, by decide⟩ ⟨(by (try dsimp only); omega), (by (try dsimp only); omega)⟩ dX0_scaled_21 (fun v J1 hE1 hv => ?_)
        obtain ⟨y, rfl, hy⟩ := hv
        have hE := hE.trans hE1
        have hr := hr.ex hE1
        obtain ⟨f, hf, hfs⟩ := id hr
        obtain ⟨n9, d9, ob9, fx9⟩ := id hy
        refine z_aastF B hf ob9 (vp_in_nI hk4 (by decide)) dX0_scaled_24 (fun J9 w9 z9 o9 => ?_)
        rw [nI_clamp (by omega)] at w9
        refine z_forget (Nat.le_refl _) ?_
        refine W.widen (k := 1 + (k + 1)) (n := 4 + 2 * (k + 1)) (by (try dsimp only); omega) (by (try dsimp only); omega) ?_
        refine pb_blk B.hx B.hb (lv' := [(3, .int ((nI k) + 1)), (2, .ref s.heap.size), (0, .ref q1), (1, .ref q2)]) (st' := []) hl bkX0_scaled_25_7 rfl (fun ls hl => ?_)
        exact ih (k + 1) J9 ls (by omega) hk4 (hE.put z9 o9 (Nat.le_refl _)) (RowM.put hf hfs hy w9 z9 o9 (fun j h2 h3 => ⟨by omega, rfl⟩) (fun _ => rfl)) (by rw [← nI_1]; exact lv_sub hl [0, 1, 2, 3] rfl)
  refine pb_blk B.hx B.hb (lv' := [(0, .ref q1), (1, .ref q2)]) (st' := [.int 4]) hl bkX0_scaled_0_1 rfl (fun ls hl => ?_)
  refine z_newq B 3 rfl wd_C_X0_30 B.hK.2.2.2.1 (by decide) (N := 4) (by decide) (by decide) (Nat.le_of_ble_eq_true rfl) (Nat.le_of_ble_eq_true rfl) dX0_scaled_1 (fun H1 w1 z1 o1 => ?_)
  refine pb_blk B.hx B.hb (lv' := [(3, .int 0), (2, .ref s.heap.size), (0, .ref q1), (1, .ref q2)]) (st' := []) hl bkX0_scaled_4_7 rfl (fun ls hl => ?_)
  exact loop 5 0 H1 ls (by omega) (Nat.zero_le _) (Ex.one z1 o1) (RowM.new w1) (lv_sub hl [0, 1, 2, 3] rfl)

