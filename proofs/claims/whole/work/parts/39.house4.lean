def po_X5_assume (G : Gm) (A : Nat → Prop) (q ta N : Nat) (th : Nat → Th) (as : St3) (f0 : Int32) : Option Value → Heap → Prop := fun v H => ∃ r as2, v = some (.int r) ∧ R_assume N th as f0 0 (r, as2) ∧ House G A H q ta N th as2
def px_X5_assume (q ta N : Nat) (th : Nat → Th) (as : St3) (f0 : Int32) : String → Prop := fun E => ∃ c, (E, c) ∈ X12 ∧ ∀ r, R_assume N th as f0 c r
theorem bkX5_assume_0_2 : pb_chk cX5_assume 0 [.aload_n 0, .iload_n 1] = some 2 := by decide +kernel
theorem dX5_assume_2 : decode cX5_assume 2 = .ok (.invokevirtual 59, 3) := by decide +kernel
theorem dX5_assume_5 : decode cX5_assume 5 = .ok (.invokestatic 120, 3) := by decide +kernel
theorem bkX5_assume_8_10 : pb_chk cX5_assume 8 [.astore_n 2, .aload_n 2] = some 10 := by decide +kernel
theorem dX5_assume_10 : decode cX5_assume 10 = .ok (.invokevirtual 174, 3) := by decide +kernel
theorem dX5_assume_13 : decode cX5_assume 13 = .ok (.ifCond .eq 13, 3) := by decide +kernel
theorem bkX5_assume_26_28 : pb_chk cX5_assume 26 [.aload_n 2, .aload_n 0] = some 28 := by decide +kernel
theorem dX5_assume_28 : decode cX5_assume 28 = .ok (.getfield 25, 3) := by decide +kernel
theorem dX5_assume_31 : decode cX5_assume 31 = .ok (.invokevirtual 180, 3) := by decide +kernel
theorem dX5_assume_34 : decode cX5_assume 34 = .ok (.ifCond .ne 7, 3) := by decide +kernel
theorem bkX5_assume_41_45 : pb_chk cX5_assume 41 [.iconst 0, .istore_n 3, .aload_n 0, .aload_n 2] = some 45 := by decide +kernel
theorem dX5_assume_45 : decode cX5_assume 45 = .ok (.putfield 25, 3) := by decide +kernel
theorem bkX5_assume_48_49 : pb_chk cX5_assume 48 [.iload_n 3] = some 49 := by decide +kernel
theorem dX5_assume_49 : decode cX5_assume 49 = .ok (.ireturn, 1) := by decide +kernel
theorem bkX5_assume_37_45 : pb_chk cX5_assume 37 [.iconst 1, .goto 4, .istore_n 3, .aload_n 0, .aload_n 2] = some 45 := by decide +kernel
theorem dX5_assume_16 : decode cX5_assume 16 = .ok (.new 105, 3) := by decide +kernel
theorem dX5_assume_19 : decode cX5_assume 19 = .ok (.dup, 1) := by decide +kernel
theorem dX5_assume_20 : decode cX5_assume 20 = .ok (.ldc 178, 2) := by decide +kernel
theorem dX5_assume_22 : decode cX5_assume 22 = .ok (.invokespecial 109, 3) := by decide +kernel
theorem dX5_assume_25 : decode cX5_assume 25 = .ok (.athrow, 1) := by decide +kernel
set_option maxHeartbeats 4000000 in
set_option maxRecDepth 100000 in
theorem c_X5_assume (l : Launch) (hst : l.stackTraces = false) (G : Gm) (A : Nat → Prop) (q ta N : Nat) (th : Nat → Th) (as : St3) (f0 : Int32) (hB : Bds N th as) : Mx l yX5_assume cX5_assume 4 (some .boolean) (⟨8, 300, 10000, 160⟩ : Room) G A (fun z => z = q) [.ref q, .int f0] (fun H => House G A H q ta N th as) (po_X5_assume G A q ta N th as f0) (px_X5_assume q ta N th as f0) := by
  refine of_metX (by decide) (Nat.le_of_ble_eq_true rfl) ?_
  intro p e s m below meth c ls B hT htb hA hh hl
  obtain ⟨fs9, ho⟩ := hh.ob
  refine pb_blk B.hx B.hb (lv' := [(0, .ref q), (1, .int f0)]) (st' := [.int f0, .ref q]) hl bkX5_assume_0_2 rfl (fun ls hl => ?_)
  refine x_callV0 B hT htb (c_X5_found l hst G A q ta N th as f0) cy_X5_found im_X5_found se_X5_found wd_M_X5_59 rfl ho (hA_up hA (Ex.rf).1) hh (Ex.rf) rfl hl.1 rfl (Nat.le_of_ble_eq_true rfl) ⟨by decide, by decide⟩ ⟨by decide, by decide⟩ dX5_assume_2 (fun _ h => nomatch h) ⟨by decide, by decide⟩ (fun E h => ⟨1, by rw [h.1]; decide, fun t => Or.inl ⟨rfl, h.2⟩⟩) (fun v H1 hE hv => ?_)
  obtain ⟨i, x1, hi, ei, rfl, hx1⟩ := hv
  have eH1 := (Ex.rf).trans hE
  have hh := hh.ex hE
  refine x_callS0 B hT htb (c_X5_asSet l hst G A x1 (th i)) cy_X5_asSet st_X5_asSet wd_M_X5_120 (hA_up hA (eH1).1) hx1 (eH1) rfl hl.1 rfl (Nat.le_of_ble_eq_true rfl) ⟨by decide, by decide⟩ ⟨by decide, by decide⟩ dX5_assume_5 (fun _ h => nomatch h) ⟨by decide, by decide⟩ (fun E h => ⟨2, by rw [h.1]; decide, fun t => Or.inr ⟨i, hi, ei, Or.inl ⟨rfl, h.2⟩⟩⟩) (fun v H2 hE hv => ?_)
  obtain ⟨rfl, sa, ti⟩ := hv
  have eH2 := (eH1).trans hE
  have hx1 := hx1.mv (hE.mv A)
  have hh := hh.ex hE
  have fx1 : Ls G A H2 x1 sa.1 sa.2.1 sa.2.2 := by rw [ti] at hx1; exact hx1
  obtain ⟨ba1, ba2⟩ := hB.2.1 i hi sa ti
  obtain ⟨fs1, ho1⟩ := fx1.ob
  refine pb_blk B.hx B.hb (lv' := [(2, .ref x1), (0, .ref q), (1, .int f0)]) (st' := [.ref x1]) hl bkX5_assume_8_10 rfl (fun ls hl => ?_)
  refine n_callV B (c_X2_isEmpty l G A x1 sa.1 sa.2.1 sa.2.2 (by omega)) cy_X2_isEmpty im_X2_isEmpty se_X2_isEmpty wd_M_X5_174 rfl ho1 fx1 rfl hl.1 rfl (Nat.le_of_ble_eq_true rfl) ⟨by decide, by decide⟩ ⟨by decide, by decide⟩ dX5_assume_10 (fun v hv => ?_)
  have hv : v = some (.int (b2i (emZ sa))) := hv
  subst hv
  refine lv_if_eq (tgt := 26) B.hx B.hb dX5_assume_13 (by decide) (fun h1 => ?_) (fun h1 => ?_)
  · have e0 := (b2i_0 _).mp h1
    obtain ⟨aa, ob, hq1, hq2, hq3, hN, ⟨f, hr, hf⟩, hls⟩ := id hh
    have obf := obF ob
    refine pb_blk B.hx B.hb (lv' := [(2, .ref x1), (0, .ref q), (1, .int f0)]) (st' := [.ref q, .ref x1]) hl bkX5_assume_26_28 rfl (fun ls hl => ?_)
    refine z_get B ciX5 2 (by decide) obf wd_F_X5_25 rfl dX5_assume_28 ?_
    obtain ⟨fs1, ho1⟩ := fx1.ob
    refine n_callV B (c_X2_isSameAs l G A x1 aa sa.1 as.1 sa.2.1 as.2.1 sa.2.2 as.2.2 (by omega) (by have := hB.2.2.1.1; omega) (fun k hk => (ba2 k hk).bg) (fun k hk => (hB.2.2.1.2 k hk).bg)) cy_X2_isSameAs im_X2_isSameAs se_X2_isSameAs wd_M_X5_180 rfl ho1 ⟨fx1, hls⟩ rfl hl.1 rfl (Nat.le_of_ble_eq_true rfl) ⟨by decide, by decide⟩ ⟨by decide, by decide⟩ dX5_assume_31 (fun v hv => ?_)
    obtain ⟨rb, rfl, hrb⟩ := hv
    refine lv_if_ne (tgt := 41) B.hx B.hb dX5_assume_34 (by decide) (fun h2 => ?_) (fun h2 => ?_)
    · have e1 : rb = true := ts9 (fun q => h2 ((b2i_0 _).mpr q))
      refine pb_blk B.hx B.hb (lv' := [(3, .int 0), (2, .ref x1), (0, .ref q), (1, .int f0)]) (st' := [.ref x1, .ref q]) hl bkX5_assume_41_45 rfl (fun ls hl => ?_)
      refine z_put0 B ciX5 2 (by decide) ob wd_F_X5_25 (Or.inl rfl) rfl rfl (Nat.le_of_ble_eq_true rfl) dX5_assume_45 (fun K2 i2 ob2 z2 o2 => ?_)
      refine pb_blk B.hx B.hb (lv' := [(3, .int 0), (2, .ref x1), (0, .ref q), (1, .int f0)]) (st' := [.int 0]) hl bkX5_assume_48_49 rfl (fun ls hl => ?_)
      have hM : Mv (fun z => z = q) s.heap (fun z => z = q) K2 := ((eH2).mv _).trans ⟨by omega, fun y _ hF => ⟨hF, o2 y hF⟩⟩
      have hMA : Mv A H2 A K2 := Mv.weak (F := fun z => z = q) ⟨by omega, fun y _ hF => ⟨hF, o2 y hF⟩⟩ (fun y hy => by rw [hy]; exact hq1)
      exact x_zret B dX5_assume_49 rfl hM ⟨_, sa, rfl, Or.inr ⟨i, hi, ei, Or.inr ⟨sa, ti, Or.inr ⟨rfl, e0, rfl, rb, by rw [e1]; rfl, hrb⟩⟩⟩, x1, ob2, hq1, hq2, hq3, hN, ⟨f, (o2 ta (fun e9 => hq3 e9.symm)).trans hr, fun k hk => by obtain ⟨y, ey, hy⟩ := hf k hk; exact ⟨y, ey, hy.mv hMA⟩⟩, fx1.mv hMA⟩ (fun z hz => by simp at hz; rw [hz]) (Nat.le_of_ble_eq_true rfl) (Nat.le_of_ble_eq_true rfl)
    · have e1 : rb = false := (b2i_0 _).mp h2
      refine pb_blk B.hx B.hb (lv' := [(3, .int 1), (2, .ref x1), (0, .ref q), (1, .int f0)]) (st' := [.ref x1, .ref q]) hl bkX5_assume_37_45 rfl (fun ls hl => ?_)
      refine z_put0 B ciX5 2 (by decide) ob wd_F_X5_25 (Or.inl rfl) rfl rfl (Nat.le_of_ble_eq_true rfl) dX5_assume_45 (fun K2 i2 ob2 z2 o2 => ?_)
      refine pb_blk B.hx B.hb (lv' := [(3, .int 1), (2, .ref x1), (0, .ref q), (1, .int f0)]) (st' := [.int 1]) hl bkX5_assume_48_49 rfl (fun ls hl => ?_)
      have hM : Mv (fun z => z = q) s.heap (fun z => z = q) K2 := ((eH2).mv _).trans ⟨by omega, fun y _ hF => ⟨hF, o2 y hF⟩⟩
      have hMA : Mv A H2 A K2 := Mv.weak (F := fun z => z = q) ⟨by omega, fun y _ hF => ⟨hF, o2 y hF⟩⟩ (fun y hy => by rw [hy]; exact hq1)
      exact x_zret B dX5_assume_49 rfl hM ⟨_, sa, rfl, Or.inr ⟨i, hi, ei, Or.inr ⟨sa, ti, Or.inr ⟨rfl, e0, rfl, rb, by rw [e1]; rfl, hrb⟩⟩⟩, x1, ob2, hq1, hq2, hq3, hN, ⟨f, (o2 ta (fun e9 => hq3 e9.symm)).trans hr, fun k hk => by obtain ⟨y, ey, hy⟩ := hf k hk; exact ⟨y, ey, hy.mv hMA⟩⟩, fx1.mv hMA⟩ (fun z hz => by simp at hz; rw [hz]) (Nat.le_of_ble_eq_true rfl) (Nat.le_of_ble_eq_true rfl)
  · have e0 := ts9 (fun q => h1 ((b2i_0 _).mpr q))
    exact x_throw B hst hT htb ts_X5_178 (eH2) hl.1 dX5_assume_16 dX5_assume_19 dX5_assume_20 dX5_assume_22 dX5_assume_25 ⟨by decide, by decide⟩ ⟨by decide, by decide⟩ (⟨2, by decide, fun t => Or.inr ⟨i, hi, ei, Or.inr ⟨sa, ti, Or.inl ⟨rfl, e0⟩⟩⟩⟩) ⟨by decide, by decide⟩

def po_X5_sign (G : Gm) (A : Nat → Prop) (q ta N : Nat) (th : Nat → Th) (as : St3) (f0 : Int32) : Option Value → Heap → Prop := fun v H => ∃ r, v = some (.int r) ∧ R_sign N th as f0 0 r
def px_X5_sign (q ta N : Nat) (th : Nat → Th) (as : St3) (f0 : Int32) : String → Prop := fun E => ∃ c, (E, c) ∈ X123 ∧ ∀ r, R_sign N th as f0 c r
theorem bkX5_sign_0_2 : pb_chk cX5_sign 0 [.aload_n 0, .iload_n 1] = some 2 := by decide +kernel
theorem dX5_sign_2 : decode cX5_sign 2 = .ok (.invokevirtual 59, 3) := by decide +kernel
theorem dX5_sign_5 : decode cX5_sign 5 = .ok (.invokestatic 63, 3) := by decide +kernel
theorem dX5_sign_8 : decode cX5_sign 8 = .ok (.invokestatic 110, 3) := by decide +kernel
theorem bkX5_sign_11_13 : pb_chk cX5_sign 11 [.astore_n 2, .aload_n 0] = some 13 := by decide +kernel
theorem dX5_sign_13 : decode cX5_sign 13 = .ok (.getfield 25, 3) := by decide +kernel
theorem bkX5_sign_16_18 : pb_chk cX5_sign 16 [.aload_n 2, .iconst 0] = some 18 := by decide +kernel
theorem dX5_sign_18 : decode cX5_sign 18 = .ok (.invokevirtual 116, 3) := by decide +kernel
theorem dX5_sign_21 : decode cX5_sign 21 = .ok (.invokevirtual 124, 3) := by decide +kernel
theorem dX5_sign_24 : decode cX5_sign 24 = .ok (.invokevirtual 174, 3) := by decide +kernel
theorem dX5_sign_27 : decode cX5_sign 27 = .ok (.ifCond .ne 7, 3) := by decide +kernel
theorem bkX5_sign_34_37 : pb_chk cX5_sign 34 [.iconst 0, .istore_n 3, .aload_n 0] = some 37 := by decide +kernel
theorem dX5_sign_37 : decode cX5_sign 37 = .ok (.getfield 25, 3) := by decide +kernel
theorem bkX5_sign_40_42 : pb_chk cX5_sign 40 [.aload_n 2, .iconst 1] = some 42 := by decide +kernel
theorem dX5_sign_42 : decode cX5_sign 42 = .ok (.invokevirtual 116, 3) := by decide +kernel
theorem dX5_sign_45 : decode cX5_sign 45 = .ok (.invokevirtual 124, 3) := by decide +kernel
theorem dX5_sign_48 : decode cX5_sign 48 = .ok (.invokevirtual 174, 3) := by decide +kernel
theorem dX5_sign_51 : decode cX5_sign 51 = .ok (.ifCond .ne 7, 3) := by decide +kernel
theorem bkX5_sign_58_62 : pb_chk cX5_sign 58 [.iconst 0, .istore 4, .aload_n 0] = some 62 := by decide +kernel
theorem dX5_sign_62 : decode cX5_sign 62 = .ok (.getfield 25, 3) := by decide +kernel
theorem bkX5_sign_65_67 : pb_chk cX5_sign 65 [.aload_n 2, .iconst 2] = some 67 := by decide +kernel
theorem dX5_sign_67 : decode cX5_sign 67 = .ok (.invokevirtual 116, 3) := by decide +kernel
theorem dX5_sign_70 : decode cX5_sign 70 = .ok (.invokevirtual 131, 3) := by decide +kernel
theorem dX5_sign_73 : decode cX5_sign 73 = .ok (.invokevirtual 124, 3) := by decide +kernel
theorem dX5_sign_76 : decode cX5_sign 76 = .ok (.invokevirtual 174, 3) := by decide +kernel
theorem dX5_sign_79 : decode cX5_sign 79 = .ok (.ifCond .ne 7, 3) := by decide +kernel
theorem bkX5_sign_86_90 : pb_chk cX5_sign 86 [.iconst 0, .istore 5, .iload_n 3] = some 90 := by decide +kernel
theorem dX5_sign_90 : decode cX5_sign 90 = .ok (.ifCond .eq 19, 3) := by decide +kernel
theorem bkX5_sign_109_111 : pb_chk cX5_sign 109 [.iload 4] = some 111 := by decide +kernel
theorem dX5_sign_111 : decode cX5_sign 111 = .ok (.ifCond .eq 14, 3) := by decide +kernel
theorem bkX5_sign_125_126 : pb_chk cX5_sign 125 [.iconst 1] = some 126 := by decide +kernel
theorem dX5_sign_126 : decode cX5_sign 126 = .ok (.ireturn, 1) := by decide +kernel
theorem bkX5_sign_82_90 : pb_chk cX5_sign 82 [.iconst 1, .goto 4, .istore 5, .iload_n 3] = some 90 := by decide +kernel
theorem bkX5_sign_54_62 : pb_chk cX5_sign 54 [.iconst 1, .goto 4, .istore 4, .aload_n 0] = some 62 := by decide +kernel
theorem bkX5_sign_114_116 : pb_chk cX5_sign 114 [.iload 5] = some 116 := by decide +kernel
theorem dX5_sign_116 : decode cX5_sign 116 = .ok (.ifCond .eq 7, 3) := by decide +kernel
theorem bkX5_sign_123_124 : pb_chk cX5_sign 123 [.iconst (-1)] = some 124 := by decide +kernel
theorem dX5_sign_124 : decode cX5_sign 124 = .ok (.ireturn, 1) := by decide +kernel
theorem bkX5_sign_119_124 : pb_chk cX5_sign 119 [.iconst 2, .goto 4] = some 124 := by decide +kernel
theorem bkX5_sign_30_37 : pb_chk cX5_sign 30 [.iconst 1, .goto 4, .istore_n 3, .aload_n 0] = some 37 := by decide +kernel
theorem bkX5_sign_93_95 : pb_chk cX5_sign 93 [.iload 4] = some 95 := by decide +kernel
theorem dX5_sign_95 : decode cX5_sign 95 = .ok (.ifCond .ne 8, 3) := by decide +kernel
theorem bkX5_sign_98_100 : pb_chk cX5_sign 98 [.iload 5] = some 100 := by decide +kernel
theorem dX5_sign_100 : decode cX5_sign 100 = .ok (.ifCond .eq 7, 3) := by decide +kernel
theorem bkX5_sign_107_108 : pb_chk cX5_sign 107 [.iconst 0] = some 108 := by decide +kernel
theorem dX5_sign_108 : decode cX5_sign 108 = .ok (.ireturn, 1) := by decide +kernel
theorem bkX5_sign_103_108 : pb_chk cX5_sign 103 [.iconst 2, .goto 4] = some 108 := by decide +kernel
set_option maxHeartbeats 4000000 in
set_option maxRecDepth 100000 in
theorem c_X5_sign (l : Launch) (hst : l.stackTraces = false) (G : Gm) (A : Nat → Prop) (q ta N : Nat) (th : Nat → Th) (as : St3) (f0 : Int32) (hB : Bds N th as) : Mx l yX5_sign cX5_sign 6 (some .int) (⟨8, 300, 10000, 160⟩ : Room) G A (fun _ => False) [.ref q, .int f0] (fun H => House G A H q ta N th as) (po_X5_sign G A q ta N th as f0) (px_X5_sign q ta N th as f0) := by
  refine of_metX (by decide) (Nat.le_of_ble_eq_true rfl) ?_
  intro p e s m below meth c ls B hT htb hA hh hl
  obtain ⟨fs9, ho⟩ := hh.ob
  refine pb_blk B.hx B.hb (lv' := [(0, .ref q), (1, .int f0)]) (st' := [.int f0, .ref q]) hl bkX5_sign_0_2 rfl (fun ls hl => ?_)
  refine x_callV0 B hT htb (c_X5_found l hst G A q ta N th as f0) cy_X5_found im_X5_found se_X5_found wd_M_X5_59 rfl ho (hA_up hA (Ex.rf).1) hh (Ex.rf) rfl hl.1 rfl (Nat.le_of_ble_eq_true rfl) ⟨by decide, by decide⟩ ⟨by decide, by decide⟩ dX5_sign_2 (fun _ h => nomatch h) ⟨by decide, by decide⟩ (fun E h => ⟨1, by rw [h.1]; decide, fun t => Or.inl ⟨rfl, h.2⟩⟩) (fun v H1 hE hv => ?_)
  obtain ⟨i, x1, hi, ei, rfl, hx1⟩ := hv
  have eH1 := (Ex.rf).trans hE
  have hh := hh.ex hE
  refine x_callS0 B hT htb (c_X5_asFormula l hst G A x1 (th i)) cy_X5_asFormula st_X5_asFormula wd_M_X5_63 (hA_up hA (eH1).1) hx1 (eH1) rfl hl.1 rfl (Nat.le_of_ble_eq_true rfl) ⟨by decide, by decide⟩ ⟨by decide, by decide⟩ dX5_sign_5 (fun _ h => nomatch h) ⟨by decide, by decide⟩ (fun E h => ⟨2, by rw [h.1]; decide, fun t => Or.inr ⟨i, hi, ei, Or.inl ⟨rfl, h.2⟩⟩⟩) (fun v H2 hE hv => ?_)
  obtain ⟨rfl, u, ti⟩ := hv
  have eH2 := (eH1).trans hE
  have hx1 := hx1.mv (hE.mv A)
  have hh := hh.ex hE
  have fx1 : Fo G A H2 x1 u := by rw [ti] at hx1; exact hx1
  have hsu := hB.1 i hi u ti
  refine x_callS0 B hT htb (c_X3_told l hst G A x1 u hsu) cy_X3_told st_X3_told wd_M_X5_110 (hA_up hA (eH2).1) fx1 (eH2) rfl hl.1 rfl (Nat.le_of_ble_eq_true rfl) ⟨by decide, by decide⟩ ⟨by decide, by decide⟩ dX5_sign_8 (fun _ h => nomatch h) ⟨by decide, by decide⟩ (fun E h => ⟨3, by rw [h.1]; decide, fun t => Or.inr ⟨i, hi, ei, Or.inr ⟨u, ti, Or.inl ⟨rfl, h.2⟩⟩⟩⟩) (fun v H3 hE hv => ?_)
  obtain ⟨y1, n, pt, sg, rfl, ht, hy1⟩ := hv
  have eH3 := (eH2).trans hE
  have hx1 := hx1.mv (hE.mv A)
  have fx1 := fx1.mv (hE.mv A)
  have hh := hh.ex hE
  have hn2 := tell_n ht
  obtain ⟨hbp, hcz⟩ := hB.2.2.2.2.1 i hi u ti n pt sg ht
  have has := hB.2.2.1
  obtain ⟨aa0, ob0, -, -, -, -, -, hs0⟩ := id hh
  have obf0 := obF ob0
  refine pb_blk B.hx B.hb (lv' := [(2, .ref y1), (0, .ref q), (1, .int f0)]) (st' := [.ref q]) hl bkX5_sign_11_13 rfl (fun ls hl => ?_)
  refine z_get B ciX5 2 (by decide) obf0 wd_F_X5_25 rfl dX5_sign_13 ?_
  obtain ⟨fs1, ho1⟩ := hy1.ob
  refine pb_blk B.hx B.hb (lv' := [(2, .ref y1), (0, .ref q), (1, .int f0)]) (st' := [.int 0, .ref y1, .ref aa0]) hl bkX5_sign_16_18 rfl (fun ls hl => ?_)
  refine z_callV B (c_X3_chosen l G A y1 n 0 pt sg hn2) cy_X3_chosen im_X3_chosen se_X3_chosen wd_M_X5_116 rfl ho1 (hA_up hA (eH3).1) hy1 rfl hl.1 rfl (Nat.le_of_ble_eq_true rfl) ⟨by decide, by decide⟩ ⟨by decide, by decide⟩ dX5_sign_18 (fun v H4 hE hv => ?_)
  obtain ⟨c0, rfl, hc0⟩ := hv
  have eH4 := (eH3).trans hE
  have hx1 := hx1.mv (hE.mv A)
  have fx1 := fx1.mv (hE.mv A)
  have hy1 := hy1.mv (hE.mv A)
  have hs0 := hs0.mv (hE.mv A)
  have hh := hh.ex hE
  have hc0 : Ls G A H4 c0 (whS 0 n pt sg).1 (whS 0 n pt sg).2.1 (whS 0 n pt sg).2.2 := hc0
  have hn5 : (whS 0 n pt sg).1 ≤ n := czn_le _ _
  obtain ⟨fs3, ho3⟩ := hs0.ob
  refine z_callV B (c_X2_met l G A aa0 c0 as.1 (whS 0 n pt sg).1 as.2.1 (whS 0 n pt sg).2.1 as.2.2 (whS 0 n pt sg).2.2 has.1 (by omega) (fun k hk => (has.2 k hk).bg) (fun k hk => czp_P hbp k hk) (fun J hJ => hcz _ (whS 0 n pt sg).2.2 J hJ)) cy_X2_met im_X2_met se_X2_met wd_M_X5_124 rfl ho3 (hA_up hA (eH4).1) ⟨hs0, hc0⟩ rfl hl.1 rfl (Nat.le_of_ble_eq_true rfl) ⟨by decide, by decide⟩ ⟨by decide, by decide⟩ dX5_sign_21 (fun v H5 hE hv => ?_)
  obtain ⟨m0, J0, rfl, hJ0, hm0⟩ := hv
  have eH5 := (eH4).trans hE
  have hx1 := hx1.mv (hE.mv A)
  have fx1 := fx1.mv (hE.mv A)
  have hy1 := hy1.mv (hE.mv A)
  have hs0 := hs0.mv (hE.mv A)
  have hc0 := hc0.mv (hE.mv A)
  have hh := hh.ex hE
  have hm0 : Ls G A H5 m0 (jn true as (whS 0 n pt sg) J0).1 (jn true as (whS 0 n pt sg) J0).2.1 (jn true as (whS 0 n pt sg) J0).2.2 := hm0
  obtain ⟨fs4, ho4⟩ := hm0.ob
  refine n_callV B (c_X2_isEmpty l G A m0 (jn true as (whS 0 n pt sg) J0).1 (jn true as (whS 0 n pt sg) J0).2.1 (jn true as (whS 0 n pt sg) J0).2.2 (Nat.lt_of_le_of_lt (hcz _ (whS 0 n pt sg).2.2 J0 hJ0) (by decide))) cy_X2_isEmpty im_X2_isEmpty se_X2_isEmpty wd_M_X5_174 rfl ho4 hm0 rfl hl.1 rfl (Nat.le_of_ble_eq_true rfl) ⟨by decide, by decide⟩ ⟨by decide, by decide⟩ dX5_sign_24 (fun v hv => ?_)
  have hv : v = some (.int (b2i (emZ (jn true as (whS 0 n pt sg) J0)))) := hv
  subst hv
  refine lv_if_ne (tgt := 34) B.hx B.hb dX5_sign_27 (by decide) (fun h1 => ?_) (fun h1 => ?_)
  · have z0 : (!emZ (jn true as (whS 0 n pt sg) J0)) = false := by rw [ts9 (fun q => h1 ((b2i_0 _).mpr q))]; rfl
    refine pb_blk B.hx B.hb (lv' := [(3, .int 0), (2, .ref y1), (0, .ref q), (1, .int f0)]) (st' := [.ref q]) hl bkX5_sign_34_37 rfl (fun ls hl => ?_)
    obtain ⟨aa1, ob1, -, -, -, -, -, hs1⟩ := id hh
    have obf1 := obF ob1
    refine z_get B ciX5 2 (by decide) obf1 wd_F_X5_25 rfl dX5_sign_37 ?_
    obtain ⟨fs1, ho1⟩ := hy1.ob
    refine pb_blk B.hx B.hb (lv' := [(3, .int 0), (2, .ref y1), (0, .ref q), (1, .int f0)]) (st' := [.int 1, .ref y1, .ref aa1]) hl bkX5_sign_40_42 rfl (fun ls hl => ?_)
    refine z_callV B (c_X3_chosen l G A y1 n 1 pt sg hn2) cy_X3_chosen im_X3_chosen se_X3_chosen wd_M_X5_116 rfl ho1 (hA_up hA (eH5).1) hy1 rfl hl.1 rfl (Nat.le_of_ble_eq_true rfl) ⟨by decide, by decide⟩ ⟨by decide, by decide⟩ dX5_sign_42 (fun v H6 hE hv => ?_)
    obtain ⟨c1, rfl, hc1⟩ := hv
    have eH6 := (eH5).trans hE
    have hx1 := hx1.mv (hE.mv A)
    have fx1 := fx1.mv (hE.mv A)
    have hy1 := hy1.mv (hE.mv A)
    have hs0 := hs0.mv (hE.mv A)
    have hc0 := hc0.mv (hE.mv A)
    have hs1 := hs1.mv (hE.mv A)
    have hh := hh.ex hE
    have hc1 : Ls G A H6 c1 (whS 1 n pt sg).1 (whS 1 n pt sg).2.1 (whS 1 n pt sg).2.2 := hc1
    have hn6 : (whS 1 n pt sg).1 ≤ n := czn_le _ _
    obtain ⟨fs3, ho3⟩ := hs1.ob
    refine z_callV B (c_X2_met l G A aa1 c1 as.1 (whS 1 n pt sg).1 as.2.1 (whS 1 n pt sg).2.1 as.2.2 (whS 1 n pt sg).2.2 has.1 (by omega) (fun k hk => (has.2 k hk).bg) (fun k hk => czp_P hbp k hk) (fun J hJ => hcz _ (whS 1 n pt sg).2.2 J hJ)) cy_X2_met im_X2_met se_X2_met wd_M_X5_124 rfl ho3 (hA_up hA (eH6).1) ⟨hs1, hc1⟩ rfl hl.1 rfl (Nat.le_of_ble_eq_true rfl) ⟨by decide, by decide⟩ ⟨by decide, by decide⟩ dX5_sign_45 (fun v H7 hE hv => ?_)
    obtain ⟨m1, J1, rfl, hJ1, hm1⟩ := hv
    have eH7 := (eH6).trans hE
    have hx1 := hx1.mv (hE.mv A)
    have fx1 := fx1.mv (hE.mv A)
    have hy1 := hy1.mv (hE.mv A)
    have hs0 := hs0.mv (hE.mv A)
    have hc0 := hc0.mv (hE.mv A)
    have hs1 := hs1.mv (hE.mv A)
    have hc1 := hc1.mv (hE.mv A)
    have hh := hh.ex hE
    have hm1 : Ls G A H7 m1 (jn true as (whS 1 n pt sg) J1).1 (jn true as (whS 1 n pt sg) J1).2.1 (jn true as (whS 1 n pt sg) J1).2.2 := hm1
    obtain ⟨fs4, ho4⟩ := hm1.ob
    refine n_callV B (c_X2_isEmpty l G A m1 (jn true as (whS 1 n pt sg) J1).1 (jn true as (whS 1 n pt sg) J1).2.1 (jn true as (whS 1 n pt sg) J1).2.2 (Nat.lt_of_le_of_lt (hcz _ (whS 1 n pt sg).2.2 J1 hJ1) (by decide))) cy_X2_isEmpty im_X2_isEmpty se_X2_isEmpty wd_M_X5_174 rfl ho4 hm1 rfl hl.1 rfl (Nat.le_of_ble_eq_true rfl) ⟨by decide, by decide⟩ ⟨by decide, by decide⟩ dX5_sign_48 (fun v hv => ?_)
    have hv : v = some (.int (b2i (emZ (jn true as (whS 1 n pt sg) J1)))) := hv
    subst hv
    refine lv_if_ne (tgt := 58) B.hx B.hb dX5_sign_51 (by decide) (fun h2 => ?_) (fun h2 => ?_)
    · have z1 : (!emZ (jn true as (whS 1 n pt sg) J1)) = false := by rw [ts9 (fun q => h2 ((b2i_0 _).mpr q))]; rfl
      refine pb_blk B.hx B.hb (lv' := [(4, .int 0), (3, .int 0), (2, .ref y1), (0, .ref q), (1, .int f0)]) (st' := [.ref q]) hl bkX5_sign_58_62 rfl (fun ls hl => ?_)
      obtain ⟨aa2, ob2, -, -, -, -, -, hs2⟩ := id hh
      have obf2 := obF ob2
      refine z_get B ciX5 2 (by decide) obf2 wd_F_X5_25 rfl dX5_sign_62 ?_
      obtain ⟨fs1, ho1⟩ := hy1.ob
      refine pb_blk B.hx B.hb (lv' := [(4, .int 0), (3, .int 0), (2, .ref y1), (0, .ref q), (1, .int f0)]) (st' := [.int 2, .ref y1, .ref aa2]) hl bkX5_sign_65_67 rfl (fun ls hl => ?_)
      refine z_callV B (c_X3_chosen l G A y1 n 2 pt sg hn2) cy_X3_chosen im_X3_chosen se_X3_chosen wd_M_X5_116 rfl ho1 (hA_up hA (eH7).1) hy1 rfl hl.1 rfl (Nat.le_of_ble_eq_true rfl) ⟨by decide, by decide⟩ ⟨by decide, by decide⟩ dX5_sign_67 (fun v H8 hE hv => ?_)
      obtain ⟨c2, rfl, hc2⟩ := hv
      have eH8 := (eH7).trans hE
      have hx1 := hx1.mv (hE.mv A)
      have fx1 := fx1.mv (hE.mv A)
      have hy1 := hy1.mv (hE.mv A)
      have hs0 := hs0.mv (hE.mv A)
      have hc0 := hc0.mv (hE.mv A)
      have hs1 := hs1.mv (hE.mv A)
      have hc1 := hc1.mv (hE.mv A)
      have hs2 := hs2.mv (hE.mv A)
      have hh := hh.ex hE
      have hc2 : Ls G A H8 c2 (whS 2 n pt sg).1 (whS 2 n pt sg).2.1 (whS 2 n pt sg).2.2 := hc2
      have hn7 : (whS 2 n pt sg).1 ≤ n := czn_le _ _
      obtain ⟨fs2, ho2⟩ := hc2.ob
      refine z_callV B (c_X2_rest l G A c2 (whS 2 n pt sg).1 (whS 2 n pt sg).2.1 (whS 2 n pt sg).2.2 (by omega)) cy_X2_rest im_X2_rest se_X2_rest wd_M_X5_131 rfl ho2 (hA_up hA (eH8).1) hc2 rfl hl.1 rfl (Nat.le_of_ble_eq_true rfl) ⟨by decide, by decide⟩ ⟨by decide, by decide⟩ dX5_sign_70 (fun v H9 hE hv => ?_)
      obtain ⟨c3, rfl, hc3⟩ := hv
      have eH9 := (eH8).trans hE
      have hx1 := hx1.mv (hE.mv A)
      have fx1 := fx1.mv (hE.mv A)
      have hy1 := hy1.mv (hE.mv A)
      have hs0 := hs0.mv (hE.mv A)
      have hc0 := hc0.mv (hE.mv A)
      have hs1 := hs1.mv (hE.mv A)
      have hc1 := hc1.mv (hE.mv A)
      have hs2 := hs2.mv (hE.mv A)
      have hc2 := hc2.mv (hE.mv A)
      have hh := hh.ex hE
      obtain ⟨fs3, ho3⟩ := hs2.ob
      refine z_callV B (c_X2_met l G A aa2 c3 as.1 (whS 2 n pt sg).1 as.2.1 (whS 2 n pt sg).2.1 as.2.2 ((whS 2 n pt sg).1, (whS 2 n pt sg).2.1, fun j => !(whS 2 n pt sg).2.2 j).2.2 has.1 (by omega) (fun k hk => (has.2 k hk).bg) (fun k hk => czp_P hbp k hk) (fun J hJ => hcz _ ((whS 2 n pt sg).1, (whS 2 n pt sg).2.1, fun j => !(whS 2 n pt sg).2.2 j).2.2 J hJ)) cy_X2_met im_X2_met se_X2_met wd_M_X5_124 rfl ho3 (hA_up hA (eH9).1) ⟨hs2, hc3⟩ rfl hl.1 rfl (Nat.le_of_ble_eq_true rfl) ⟨by decide, by decide⟩ ⟨by decide, by decide⟩ dX5_sign_73 (fun v H10 hE hv => ?_)
      obtain ⟨m2, J2, rfl, hJ2, hm2⟩ := hv
      have eH10 := (eH9).trans hE
      have hx1 := hx1.mv (hE.mv A)
      have fx1 := fx1.mv (hE.mv A)
      have hy1 := hy1.mv (hE.mv A)
      have hs0 := hs0.mv (hE.mv A)
      have hc0 := hc0.mv (hE.mv A)
      have hs1 := hs1.mv (hE.mv A)
      have hc1 := hc1.mv (hE.mv A)
      have hs2 := hs2.mv (hE.mv A)
      have hc2 := hc2.mv (hE.mv A)
      have hc3 := hc3.mv (hE.mv A)
      have hh := hh.ex hE
      have hm2 : Ls G A H10 m2 (jn true as ((whS 2 n pt sg).1, (whS 2 n pt sg).2.1, fun j => !(whS 2 n pt sg).2.2 j) J2).1 (jn true as ((whS 2 n pt sg).1, (whS 2 n pt sg).2.1, fun j => !(whS 2 n pt sg).2.2 j) J2).2.1 (jn true as ((whS 2 n pt sg).1, (whS 2 n pt sg).2.1, fun j => !(whS 2 n pt sg).2.2 j) J2).2.2 := hm2
      obtain ⟨fs4, ho4⟩ := hm2.ob
      refine n_callV B (c_X2_isEmpty l G A m2 (jn true as ((whS 2 n pt sg).1, (whS 2 n pt sg).2.1, fun j => !(whS 2 n pt sg).2.2 j) J2).1 (jn true as ((whS 2 n pt sg).1, (whS 2 n pt sg).2.1, fun j => !(whS 2 n pt sg).2.2 j) J2).2.1 (jn true as ((whS 2 n pt sg).1, (whS 2 n pt sg).2.1, fun j => !(whS 2 n pt sg).2.2 j) J2).2.2 (Nat.lt_of_le_of_lt (hcz _ ((whS 2 n pt sg).1, (whS 2 n pt sg).2.1, fun j => !(whS 2 n pt sg).2.2 j).2.2 J2 hJ2) (by decide))) cy_X2_isEmpty im_X2_isEmpty se_X2_isEmpty wd_M_X5_174 rfl ho4 hm2 rfl hl.1 rfl (Nat.le_of_ble_eq_true rfl) ⟨by decide, by decide⟩ ⟨by decide, by decide⟩ dX5_sign_76 (fun v hv => ?_)
      have hv : v = some (.int (b2i (emZ (jn true as ((whS 2 n pt sg).1, (whS 2 n pt sg).2.1, fun j => !(whS 2 n pt sg).2.2 j) J2)))) := hv
      subst hv
      refine lv_if_ne (tgt := 86) B.hx B.hb dX5_sign_79 (by decide) (fun h3 => ?_) (fun h3 => ?_)
      · have z2 : (!emZ (jn true as ((whS 2 n pt sg).1, (whS 2 n pt sg).2.1, fun j => !(whS 2 n pt sg).2.2 j) J2)) = false := by rw [ts9 (fun q => h3 ((b2i_0 _).mpr q))]; rfl
        refine pb_blk B.hx B.hb (lv' := [(5, .int 0), (4, .int 0), (3, .int 0), (2, .ref y1), (0, .ref q), (1, .int f0)]) (st' := [.int 0]) hl bkX5_sign_86_90 rfl (fun ls hl => ?_)
        refine lv_if_eq (tgt := 109) B.hx B.hb dX5_sign_90 (by decide) (fun _ => ?_) (fun h => absurd h (by decide))
        refine pb_blk B.hx B.hb (lv' := [(5, .int 0), (4, .int 0), (3, .int 0), (2, .ref y1), (0, .ref q), (1, .int f0)]) (st' := [.int 0]) hl bkX5_sign_109_111 rfl (fun ls hl => ?_)
        refine lv_if_eq (tgt := 125) B.hx B.hb dX5_sign_111 (by decide) (fun _ => ?_) (fun h => absurd h (by decide))
        refine pb_blk B.hx B.hb (lv' := [(5, .int 0), (4, .int 0), (3, .int 0), (2, .ref y1), (0, .ref q), (1, .int f0)]) (st' := [.int 1]) hl bkX5_sign_125_126 rfl (fun ls hl => ?_)
        exact x_iret B dX5_sign_126 ((eH10).mv _) ⟨_, rfl, Or.inr ⟨i, hi, ei, Or.inr ⟨u, ti, Or.inr ⟨n, pt, sg, ht, rfl, _, _, _, ⟨J0, hJ0, rfl⟩, ⟨J1, hJ1, rfl⟩, ⟨J2, hJ2, rfl⟩, by rw [z0, z1, z2]; rfl⟩⟩⟩⟩ (fun _ h => nomatch h) (Nat.le_of_ble_eq_true rfl) (Nat.le_of_ble_eq_true rfl)
      · have z2 : (!emZ (jn true as ((whS 2 n pt sg).1, (whS 2 n pt sg).2.1, fun j => !(whS 2 n pt sg).2.2 j) J2)) = true := by rw [(b2i_0 _).mp h3]; rfl
        refine pb_blk B.hx B.hb (lv' := [(5, .int 1), (4, .int 0), (3, .int 0), (2, .ref y1), (0, .ref q), (1, .int f0)]) (st' := [.int 0]) hl bkX5_sign_82_90 rfl (fun ls hl => ?_)
        refine lv_if_eq (tgt := 109) B.hx B.hb dX5_sign_90 (by decide) (fun _ => ?_) (fun h => absurd h (by decide))
        refine pb_blk B.hx B.hb (lv' := [(5, .int 1), (4, .int 0), (3, .int 0), (2, .ref y1), (0, .ref q), (1, .int f0)]) (st' := [.int 0]) hl bkX5_sign_109_111 rfl (fun ls hl => ?_)
        refine lv_if_eq (tgt := 125) B.hx B.hb dX5_sign_111 (by decide) (fun _ => ?_) (fun h => absurd h (by decide))
        refine pb_blk B.hx B.hb (lv' := [(5, .int 1), (4, .int 0), (3, .int 0), (2, .ref y1), (0, .ref q), (1, .int f0)]) (st' := [.int 1]) hl bkX5_sign_125_126 rfl (fun ls hl => ?_)
        exact x_iret B dX5_sign_126 ((eH10).mv _) ⟨_, rfl, Or.inr ⟨i, hi, ei, Or.inr ⟨u, ti, Or.inr ⟨n, pt, sg, ht, rfl, _, _, _, ⟨J0, hJ0, rfl⟩, ⟨J1, hJ1, rfl⟩, ⟨J2, hJ2, rfl⟩, by rw [z0, z1, z2]; rfl⟩⟩⟩⟩ (fun _ h => nomatch h) (Nat.le_of_ble_eq_true rfl) (Nat.le_of_ble_eq_true rfl)
    · have z1 : (!emZ (jn true as (whS 1 n pt sg) J1)) = true := by rw [(b2i_0 _).mp h2]; rfl
      refine pb_blk B.hx B.hb (lv' := [(4, .int 1), (3, .int 0), (2, .ref y1), (0, .ref q), (1, .int f0)]) (st' := [.ref q]) hl bkX5_sign_54_62 rfl (fun ls hl => ?_)
      obtain ⟨aa2, ob2, -, -, -, -, -, hs2⟩ := id hh
      have obf2 := obF ob2
      refine z_get B ciX5 2 (by decide) obf2 wd_F_X5_25 rfl dX5_sign_62 ?_
      obtain ⟨fs1, ho1⟩ := hy1.ob
      refine pb_blk B.hx B.hb (lv' := [(4, .int 1), (3, .int 0), (2, .ref y1), (0, .ref q), (1, .int f0)]) (st' := [.int 2, .ref y1, .ref aa2]) hl bkX5_sign_65_67 rfl (fun ls hl => ?_)
      refine z_callV B (c_X3_chosen l G A y1 n 2 pt sg hn2) cy_X3_chosen im_X3_chosen se_X3_chosen wd_M_X5_116 rfl ho1 (hA_up hA (eH7).1) hy1 rfl hl.1 rfl (Nat.le_of_ble_eq_true rfl) ⟨by decide, by decide⟩ ⟨by decide, by decide⟩ dX5_sign_67 (fun v H8 hE hv => ?_)
      obtain ⟨c2, rfl, hc2⟩ := hv
      have eH8 := (eH7).trans hE
      have hx1 := hx1.mv (hE.mv A)
      have fx1 := fx1.mv (hE.mv A)
      have hy1 := hy1.mv (hE.mv A)
      have hs0 := hs0.mv (hE.mv A)
      have hc0 := hc0.mv (hE.mv A)
      have hs1 := hs1.mv (hE.mv A)
      have hc1 := hc1.mv (hE.mv A)
      have hs2 := hs2.mv (hE.mv A)
      have hh := hh.ex hE
      have hc2 : Ls G A H8 c2 (whS 2 n pt sg).1 (whS 2 n pt sg).2.1 (whS 2 n pt sg).2.2 := hc2
      have hn7 : (whS 2 n pt sg).1 ≤ n := czn_le _ _
      obtain ⟨fs2, ho2⟩ := hc2.ob
      refine z_callV B (c_X2_rest l G A c2 (whS 2 n pt sg).1 (whS 2 n pt sg).2.1 (whS 2 n pt sg).2.2 (by omega)) cy_X2_rest im_X2_rest se_X2_rest wd_M_X5_131 rfl ho2 (hA_up hA (eH8).1) hc2 rfl hl.1 rfl (Nat.le_of_ble_eq_true rfl) ⟨by decide, by decide⟩ ⟨by decide, by decide⟩ dX5_sign_70 (fun v H9 hE hv => ?_)
      obtain ⟨c3, rfl, hc3⟩ := hv
      have eH9 := (eH8).trans hE
      have hx1 := hx1.mv (hE.mv A)
      have fx1 := fx1.mv (hE.mv A)
      have hy1 := hy1.mv (hE.mv A)
      have hs0 := hs0.mv (hE.mv A)
      have hc0 := hc0.mv (hE.mv A)
      have hs1 := hs1.mv (hE.mv A)
      have hc1 := hc1.mv (hE.mv A)
      have hs2 := hs2.mv (hE.mv A)
      have hc2 := hc2.mv (hE.mv A)
      have hh := hh.ex hE
      obtain ⟨fs3, ho3⟩ := hs2.ob
      refine z_callV B (c_X2_met l G A aa2 c3 as.1 (whS 2 n pt sg).1 as.2.1 (whS 2 n pt sg).2.1 as.2.2 ((whS 2 n pt sg).1, (whS 2 n pt sg).2.1, fun j => !(whS 2 n pt sg).2.2 j).2.2 has.1 (by omega) (fun k hk => (has.2 k hk).bg) (fun k hk => czp_P hbp k hk) (fun J hJ => hcz _ ((whS 2 n pt sg).1, (whS 2 n pt sg).2.1, fun j => !(whS 2 n pt sg).2.2 j).2.2 J hJ)) cy_X2_met im_X2_met se_X2_met wd_M_X5_124 rfl ho3 (hA_up hA (eH9).1) ⟨hs2, hc3⟩ rfl hl.1 rfl (Nat.le_of_ble_eq_true rfl) ⟨by decide, by decide⟩ ⟨by decide, by decide⟩ dX5_sign_73 (fun v H10 hE hv => ?_)
      obtain ⟨m2, J2, rfl, hJ2, hm2⟩ := hv
      have eH10 := (eH9).trans hE
      have hx1 := hx1.mv (hE.mv A)
      have fx1 := fx1.mv (hE.mv A)
      have hy1 := hy1.mv (hE.mv A)
      have hs0 := hs0.mv (hE.mv A)
      have hc0 := hc0.mv (hE.mv A)
      have hs1 := hs1.mv (hE.mv A)
      have hc1 := hc1.mv (hE.mv A)
      have hs2 := hs2.mv (hE.mv A)
      have hc2 := hc2.mv (hE.mv A)
      have hc3 := hc3.mv (hE.mv A)
      have hh := hh.ex hE
      have hm2 : Ls G A H10 m2 (jn true as ((whS 2 n pt sg).1, (whS 2 n pt sg).2.1, fun j => !(whS 2 n pt sg).2.2 j) J2).1 (jn true as ((whS 2 n pt sg).1, (whS 2 n pt sg).2.1, fun j => !(whS 2 n pt sg).2.2 j) J2).2.1 (jn true as ((whS 2 n pt sg).1, (whS 2 n pt sg).2.1, fun j => !(whS 2 n pt sg).2.2 j) J2).2.2 := hm2
      obtain ⟨fs4, ho4⟩ := hm2.ob
      refine n_callV B (c_X2_isEmpty l G A m2 (jn true as ((whS 2 n pt sg).1, (whS 2 n pt sg).2.1, fun j => !(whS 2 n pt sg).2.2 j) J2).1 (jn true as ((whS 2 n pt sg).1, (whS 2 n pt sg).2.1, fun j => !(whS 2 n pt sg).2.2 j) J2).2.1 (jn true as ((whS 2 n pt sg).1, (whS 2 n pt sg).2.1, fun j => !(whS 2 n pt sg).2.2 j) J2).2.2 (Nat.lt_of_le_of_lt (hcz _ ((whS 2 n pt sg).1, (whS 2 n pt sg).2.1, fun j => !(whS 2 n pt sg).2.2 j).2.2 J2 hJ2) (by decide))) cy_X2_isEmpty im_X2_isEmpty se_X2_isEmpty wd_M_X5_174 rfl ho4 hm2 rfl hl.1 rfl (Nat.le_of_ble_eq_true rfl) ⟨by decide, by decide⟩ ⟨by decide, by decide⟩ dX5_sign_76 (fun v hv => ?_)
      have hv : v = some (.int (b2i (emZ (jn true as ((whS 2 n pt sg).1, (whS 2 n pt sg).2.1, fun j => !(whS 2 n pt sg).2.2 j) J2)))) := hv
      subst hv
      refine lv_if_ne (tgt := 86) B.hx B.hb dX5_sign_79 (by decide) (fun h3 => ?_) (fun h3 => ?_)
      · have z2 : (!emZ (jn true as ((whS 2 n pt sg).1, (whS 2 n pt sg).2.1, fun j => !(whS 2 n pt sg).2.2 j) J2)) = false := by rw [ts9 (fun q => h3 ((b2i_0 _).mpr q))]; rfl
        refine pb_blk B.hx B.hb (lv' := [(5, .int 0), (4, .int 1), (3, .int 0), (2, .ref y1), (0, .ref q), (1, .int f0)]) (st' := [.int 0]) hl bkX5_sign_86_90 rfl (fun ls hl => ?_)
        refine lv_if_eq (tgt := 109) B.hx B.hb dX5_sign_90 (by decide) (fun _ => ?_) (fun h => absurd h (by decide))
        refine pb_blk B.hx B.hb (lv' := [(5, .int 0), (4, .int 1), (3, .int 0), (2, .ref y1), (0, .ref q), (1, .int f0)]) (st' := [.int 1]) hl bkX5_sign_109_111 rfl (fun ls hl => ?_)
        refine lv_if_eq (tgt := 125) B.hx B.hb dX5_sign_111 (by decide) (fun h => absurd h (by decide)) (fun _ => ?_)
        refine pb_blk B.hx B.hb (lv' := [(5, .int 0), (4, .int 1), (3, .int 0), (2, .ref y1), (0, .ref q), (1, .int f0)]) (st' := [.int 0]) hl bkX5_sign_114_116 rfl (fun ls hl => ?_)
        refine lv_if_eq (tgt := 123) B.hx B.hb dX5_sign_116 (by decide) (fun _ => ?_) (fun h => absurd h (by decide))
        refine pb_blk B.hx B.hb (lv' := [(5, .int 0), (4, .int 1), (3, .int 0), (2, .ref y1), (0, .ref q), (1, .int f0)]) (st' := [.int (-1)]) hl bkX5_sign_123_124 rfl (fun ls hl => ?_)
        exact x_iret B dX5_sign_124 ((eH10).mv _) ⟨_, rfl, Or.inr ⟨i, hi, ei, Or.inr ⟨u, ti, Or.inr ⟨n, pt, sg, ht, rfl, _, _, _, ⟨J0, hJ0, rfl⟩, ⟨J1, hJ1, rfl⟩, ⟨J2, hJ2, rfl⟩, by rw [z0, z1, z2]; rfl⟩⟩⟩⟩ (fun _ h => nomatch h) (Nat.le_of_ble_eq_true rfl) (Nat.le_of_ble_eq_true rfl)
      · have z2 : (!emZ (jn true as ((whS 2 n pt sg).1, (whS 2 n pt sg).2.1, fun j => !(whS 2 n pt sg).2.2 j) J2)) = true := by rw [(b2i_0 _).mp h3]; rfl
        refine pb_blk B.hx B.hb (lv' := [(5, .int 1), (4, .int 1), (3, .int 0), (2, .ref y1), (0, .ref q), (1, .int f0)]) (st' := [.int 0]) hl bkX5_sign_82_90 rfl (fun ls hl => ?_)
        refine lv_if_eq (tgt := 109) B.hx B.hb dX5_sign_90 (by decide) (fun _ => ?_) (fun h => absurd h (by decide))
        refine pb_blk B.hx B.hb (lv' := [(5, .int 1), (4, .int 1), (3, .int 0), (2, .ref y1), (0, .ref q), (1, .int f0)]) (st' := [.int 1]) hl bkX5_sign_109_111 rfl (fun ls hl => ?_)
        refine lv_if_eq (tgt := 125) B.hx B.hb dX5_sign_111 (by decide) (fun h => absurd h (by decide)) (fun _ => ?_)
        refine pb_blk B.hx B.hb (lv' := [(5, .int 1), (4, .int 1), (3, .int 0), (2, .ref y1), (0, .ref q), (1, .int f0)]) (st' := [.int 1]) hl bkX5_sign_114_116 rfl (fun ls hl => ?_)
        refine lv_if_eq (tgt := 123) B.hx B.hb dX5_sign_116 (by decide) (fun h => absurd h (by decide)) (fun _ => ?_)
        refine pb_blk B.hx B.hb (lv' := [(5, .int 1), (4, .int 1), (3, .int 0), (2, .ref y1), (0, .ref q), (1, .int f0)]) (st' := [.int 2]) hl bkX5_sign_119_124 rfl (fun ls hl => ?_)
        exact x_iret B dX5_sign_124 ((eH10).mv _) ⟨_, rfl, Or.inr ⟨i, hi, ei, Or.inr ⟨u, ti, Or.inr ⟨n, pt, sg, ht, rfl, _, _, _, ⟨J0, hJ0, rfl⟩, ⟨J1, hJ1, rfl⟩, ⟨J2, hJ2, rfl⟩, by rw [z0, z1, z2]; rfl⟩⟩⟩⟩ (fun _ h => nomatch h) (Nat.le_of_ble_eq_true rfl) (Nat.le_of_ble_eq_true rfl)
  · have z0 : (!emZ (jn true as (whS 0 n pt sg) J0)) = true := by rw [(b2i_0 _).mp h1]; rfl
    refine pb_blk B.hx B.hb (lv' := [(3, .int 1), (2, .ref y1), (0, .ref q), (1, .int f0)]) (st' := [.ref q]) hl bkX5_sign_30_37 rfl (fun ls hl => ?_)
    obtain ⟨aa1, ob1, -, -, -, -, -, hs1⟩ := id hh
    have obf1 := obF ob1
    refine z_get B ciX5 2 (by decide) obf1 wd_F_X5_25 rfl dX5_sign_37 ?_
    obtain ⟨fs1, ho1⟩ := hy1.ob
    refine pb_blk B.hx B.hb (lv' := [(3, .int 1), (2, .ref y1), (0, .ref q), (1, .int f0)]) (st' := [.int 1, .ref y1, .ref aa1]) hl bkX5_sign_40_42 rfl (fun ls hl => ?_)
    refine z_callV B (c_X3_chosen l G A y1 n 1 pt sg hn2) cy_X3_chosen im_X3_chosen se_X3_chosen wd_M_X5_116 rfl ho1 (hA_up hA (eH5).1) hy1 rfl hl.1 rfl (Nat.le_of_ble_eq_true rfl) ⟨by decide, by decide⟩ ⟨by decide, by decide⟩ dX5_sign_42 (fun v H6 hE hv => ?_)
    obtain ⟨c1, rfl, hc1⟩ := hv
    have eH6 := (eH5).trans hE
    have hx1 := hx1.mv (hE.mv A)
    have fx1 := fx1.mv (hE.mv A)
    have hy1 := hy1.mv (hE.mv A)
    have hs0 := hs0.mv (hE.mv A)
    have hc0 := hc0.mv (hE.mv A)
    have hs1 := hs1.mv (hE.mv A)
    have hh := hh.ex hE
    have hc1 : Ls G A H6 c1 (whS 1 n pt sg).1 (whS 1 n pt sg).2.1 (whS 1 n pt sg).2.2 := hc1
    have hn6 : (whS 1 n pt sg).1 ≤ n := czn_le _ _
    obtain ⟨fs3, ho3⟩ := hs1.ob
    refine z_callV B (c_X2_met l G A aa1 c1 as.1 (whS 1 n pt sg).1 as.2.1 (whS 1 n pt sg).2.1 as.2.2 (whS 1 n pt sg).2.2 has.1 (by omega) (fun k hk => (has.2 k hk).bg) (fun k hk => czp_P hbp k hk) (fun J hJ => hcz _ (whS 1 n pt sg).2.2 J hJ)) cy_X2_met im_X2_met se_X2_met wd_M_X5_124 rfl ho3 (hA_up hA (eH6).1) ⟨hs1, hc1⟩ rfl hl.1 rfl (Nat.le_of_ble_eq_true rfl) ⟨by decide, by decide⟩ ⟨by decide, by decide⟩ dX5_sign_45 (fun v H7 hE hv => ?_)
    obtain ⟨m1, J1, rfl, hJ1, hm1⟩ := hv
    have eH7 := (eH6).trans hE
    have hx1 := hx1.mv (hE.mv A)
    have fx1 := fx1.mv (hE.mv A)
    have hy1 := hy1.mv (hE.mv A)
    have hs0 := hs0.mv (hE.mv A)
    have hc0 := hc0.mv (hE.mv A)
    have hs1 := hs1.mv (hE.mv A)
    have hc1 := hc1.mv (hE.mv A)
    have hh := hh.ex hE
    have hm1 : Ls G A H7 m1 (jn true as (whS 1 n pt sg) J1).1 (jn true as (whS 1 n pt sg) J1).2.1 (jn true as (whS 1 n pt sg) J1).2.2 := hm1
    obtain ⟨fs4, ho4⟩ := hm1.ob
    refine n_callV B (c_X2_isEmpty l G A m1 (jn true as (whS 1 n pt sg) J1).1 (jn true as (whS 1 n pt sg) J1).2.1 (jn true as (whS 1 n pt sg) J1).2.2 (Nat.lt_of_le_of_lt (hcz _ (whS 1 n pt sg).2.2 J1 hJ1) (by decide))) cy_X2_isEmpty im_X2_isEmpty se_X2_isEmpty wd_M_X5_174 rfl ho4 hm1 rfl hl.1 rfl (Nat.le_of_ble_eq_true rfl) ⟨by decide, by decide⟩ ⟨by decide, by decide⟩ dX5_sign_48 (fun v hv => ?_)
    have hv : v = some (.int (b2i (emZ (jn true as (whS 1 n pt sg) J1)))) := hv
    subst hv
    refine lv_if_ne (tgt := 58) B.hx B.hb dX5_sign_51 (by decide) (fun h2 => ?_) (fun h2 => ?_)
    · have z1 : (!emZ (jn true as (whS 1 n pt sg) J1)) = false := by rw [ts9 (fun q => h2 ((b2i_0 _).mpr q))]; rfl
      refine pb_blk B.hx B.hb (lv' := [(4, .int 0), (3, .int 1), (2, .ref y1), (0, .ref q), (1, .int f0)]) (st' := [.ref q]) hl bkX5_sign_58_62 rfl (fun ls hl => ?_)
      obtain ⟨aa2, ob2, -, -, -, -, -, hs2⟩ := id hh
      have obf2 := obF ob2
      refine z_get B ciX5 2 (by decide) obf2 wd_F_X5_25 rfl dX5_sign_62 ?_
      obtain ⟨fs1, ho1⟩ := hy1.ob
      refine pb_blk B.hx B.hb (lv' := [(4, .int 0), (3, .int 1), (2, .ref y1), (0, .ref q), (1, .int f0)]) (st' := [.int 2, .ref y1, .ref aa2]) hl bkX5_sign_65_67 rfl (fun ls hl => ?_)
      refine z_callV B (c_X3_chosen l G A y1 n 2 pt sg hn2) cy_X3_chosen im_X3_chosen se_X3_chosen wd_M_X5_116 rfl ho1 (hA_up hA (eH7).1) hy1 rfl hl.1 rfl (Nat.le_of_ble_eq_true rfl) ⟨by decide, by decide⟩ ⟨by decide, by decide⟩ dX5_sign_67 (fun v H8 hE hv => ?_)
      obtain ⟨c2, rfl, hc2⟩ := hv
      have eH8 := (eH7).trans hE
      have hx1 := hx1.mv (hE.mv A)
      have fx1 := fx1.mv (hE.mv A)
      have hy1 := hy1.mv (hE.mv A)
      have hs0 := hs0.mv (hE.mv A)
      have hc0 := hc0.mv (hE.mv A)
      have hs1 := hs1.mv (hE.mv A)
      have hc1 := hc1.mv (hE.mv A)
      have hs2 := hs2.mv (hE.mv A)
      have hh := hh.ex hE
      have hc2 : Ls G A H8 c2 (whS 2 n pt sg).1 (whS 2 n pt sg).2.1 (whS 2 n pt sg).2.2 := hc2
      have hn7 : (whS 2 n pt sg).1 ≤ n := czn_le _ _
      obtain ⟨fs2, ho2⟩ := hc2.ob
      refine z_callV B (c_X2_rest l G A c2 (whS 2 n pt sg).1 (whS 2 n pt sg).2.1 (whS 2 n pt sg).2.2 (by omega)) cy_X2_rest im_X2_rest se_X2_rest wd_M_X5_131 rfl ho2 (hA_up hA (eH8).1) hc2 rfl hl.1 rfl (Nat.le_of_ble_eq_true rfl) ⟨by decide, by decide⟩ ⟨by decide, by decide⟩ dX5_sign_70 (fun v H9 hE hv => ?_)
      obtain ⟨c3, rfl, hc3⟩ := hv
      have eH9 := (eH8).trans hE
      have hx1 := hx1.mv (hE.mv A)
      have fx1 := fx1.mv (hE.mv A)
      have hy1 := hy1.mv (hE.mv A)
      have hs0 := hs0.mv (hE.mv A)
      have hc0 := hc0.mv (hE.mv A)
      have hs1 := hs1.mv (hE.mv A)
      have hc1 := hc1.mv (hE.mv A)
      have hs2 := hs2.mv (hE.mv A)
      have hc2 := hc2.mv (hE.mv A)
      have hh := hh.ex hE
      obtain ⟨fs3, ho3⟩ := hs2.ob
      refine z_callV B (c_X2_met l G A aa2 c3 as.1 (whS 2 n pt sg).1 as.2.1 (whS 2 n pt sg).2.1 as.2.2 ((whS 2 n pt sg).1, (whS 2 n pt sg).2.1, fun j => !(whS 2 n pt sg).2.2 j).2.2 has.1 (by omega) (fun k hk => (has.2 k hk).bg) (fun k hk => czp_P hbp k hk) (fun J hJ => hcz _ ((whS 2 n pt sg).1, (whS 2 n pt sg).2.1, fun j => !(whS 2 n pt sg).2.2 j).2.2 J hJ)) cy_X2_met im_X2_met se_X2_met wd_M_X5_124 rfl ho3 (hA_up hA (eH9).1) ⟨hs2, hc3⟩ rfl hl.1 rfl (Nat.le_of_ble_eq_true rfl) ⟨by decide, by decide⟩ ⟨by decide, by decide⟩ dX5_sign_73 (fun v H10 hE hv => ?_)
      obtain ⟨m2, J2, rfl, hJ2, hm2⟩ := hv
      have eH10 := (eH9).trans hE
      have hx1 := hx1.mv (hE.mv A)
      have fx1 := fx1.mv (hE.mv A)
      have hy1 := hy1.mv (hE.mv A)
      have hs0 := hs0.mv (hE.mv A)
      have hc0 := hc0.mv (hE.mv A)
      have hs1 := hs1.mv (hE.mv A)
      have hc1 := hc1.mv (hE.mv A)
      have hs2 := hs2.mv (hE.mv A)
      have hc2 := hc2.mv (hE.mv A)
      have hc3 := hc3.mv (hE.mv A)
      have hh := hh.ex hE
      have hm2 : Ls G A H10 m2 (jn true as ((whS 2 n pt sg).1, (whS 2 n pt sg).2.1, fun j => !(whS 2 n pt sg).2.2 j) J2).1 (jn true as ((whS 2 n pt sg).1, (whS 2 n pt sg).2.1, fun j => !(whS 2 n pt sg).2.2 j) J2).2.1 (jn true as ((whS 2 n pt sg).1, (whS 2 n pt sg).2.1, fun j => !(whS 2 n pt sg).2.2 j) J2).2.2 := hm2
      obtain ⟨fs4, ho4⟩ := hm2.ob
      refine n_callV B (c_X2_isEmpty l G A m2 (jn true as ((whS 2 n pt sg).1, (whS 2 n pt sg).2.1, fun j => !(whS 2 n pt sg).2.2 j) J2).1 (jn true as ((whS 2 n pt sg).1, (whS 2 n pt sg).2.1, fun j => !(whS 2 n pt sg).2.2 j) J2).2.1 (jn true as ((whS 2 n pt sg).1, (whS 2 n pt sg).2.1, fun j => !(whS 2 n pt sg).2.2 j) J2).2.2 (Nat.lt_of_le_of_lt (hcz _ ((whS 2 n pt sg).1, (whS 2 n pt sg).2.1, fun j => !(whS 2 n pt sg).2.2 j).2.2 J2 hJ2) (by decide))) cy_X2_isEmpty im_X2_isEmpty se_X2_isEmpty wd_M_X5_174 rfl ho4 hm2 rfl hl.1 rfl (Nat.le_of_ble_eq_true rfl) ⟨by decide, by decide⟩ ⟨by decide, by decide⟩ dX5_sign_76 (fun v hv => ?_)
      have hv : v = some (.int (b2i (emZ (jn true as ((whS 2 n pt sg).1, (whS 2 n pt sg).2.1, fun j => !(whS 2 n pt sg).2.2 j) J2)))) := hv
      subst hv
      refine lv_if_ne (tgt := 86) B.hx B.hb dX5_sign_79 (by decide) (fun h3 => ?_) (fun h3 => ?_)
      · have z2 : (!emZ (jn true as ((whS 2 n pt sg).1, (whS 2 n pt sg).2.1, fun j => !(whS 2 n pt sg).2.2 j) J2)) = false := by rw [ts9 (fun q => h3 ((b2i_0 _).mpr q))]; rfl
        refine pb_blk B.hx B.hb (lv' := [(5, .int 0), (4, .int 0), (3, .int 1), (2, .ref y1), (0, .ref q), (1, .int f0)]) (st' := [.int 1]) hl bkX5_sign_86_90 rfl (fun ls hl => ?_)
        refine lv_if_eq (tgt := 109) B.hx B.hb dX5_sign_90 (by decide) (fun h => absurd h (by decide)) (fun _ => ?_)
        refine pb_blk B.hx B.hb (lv' := [(5, .int 0), (4, .int 0), (3, .int 1), (2, .ref y1), (0, .ref q), (1, .int f0)]) (st' := [.int 0]) hl bkX5_sign_93_95 rfl (fun ls hl => ?_)
        refine lv_if_ne (tgt := 103) B.hx B.hb dX5_sign_95 (by decide) (fun h => absurd h (by decide)) (fun _ => ?_)
        refine pb_blk B.hx B.hb (lv' := [(5, .int 0), (4, .int 0), (3, .int 1), (2, .ref y1), (0, .ref q), (1, .int f0)]) (st' := [.int 0]) hl bkX5_sign_98_100 rfl (fun ls hl => ?_)
        refine lv_if_eq (tgt := 107) B.hx B.hb dX5_sign_100 (by decide) (fun _ => ?_) (fun h => absurd h (by decide))
        refine pb_blk B.hx B.hb (lv' := [(5, .int 0), (4, .int 0), (3, .int 1), (2, .ref y1), (0, .ref q), (1, .int f0)]) (st' := [.int 0]) hl bkX5_sign_107_108 rfl (fun ls hl => ?_)
        exact x_iret B dX5_sign_108 ((eH10).mv _) ⟨_, rfl, Or.inr ⟨i, hi, ei, Or.inr ⟨u, ti, Or.inr ⟨n, pt, sg, ht, rfl, _, _, _, ⟨J0, hJ0, rfl⟩, ⟨J1, hJ1, rfl⟩, ⟨J2, hJ2, rfl⟩, by rw [z0, z1, z2]; rfl⟩⟩⟩⟩ (fun _ h => nomatch h) (Nat.le_of_ble_eq_true rfl) (Nat.le_of_ble_eq_true rfl)
      · have z2 : (!emZ (jn true as ((whS 2 n pt sg).1, (whS 2 n pt sg).2.1, fun j => !(whS 2 n pt sg).2.2 j) J2)) = true := by rw [(b2i_0 _).mp h3]; rfl
        refine pb_blk B.hx B.hb (lv' := [(5, .int 1), (4, .int 0), (3, .int 1), (2, .ref y1), (0, .ref q), (1, .int f0)]) (st' := [.int 1]) hl bkX5_sign_82_90 rfl (fun ls hl => ?_)
        refine lv_if_eq (tgt := 109) B.hx B.hb dX5_sign_90 (by decide) (fun h => absurd h (by decide)) (fun _ => ?_)
        refine pb_blk B.hx B.hb (lv' := [(5, .int 1), (4, .int 0), (3, .int 1), (2, .ref y1), (0, .ref q), (1, .int f0)]) (st' := [.int 0]) hl bkX5_sign_93_95 rfl (fun ls hl => ?_)
        refine lv_if_ne (tgt := 103) B.hx B.hb dX5_sign_95 (by decide) (fun h => absurd h (by decide)) (fun _ => ?_)
        refine pb_blk B.hx B.hb (lv' := [(5, .int 1), (4, .int 0), (3, .int 1), (2, .ref y1), (0, .ref q), (1, .int f0)]) (st' := [.int 1]) hl bkX5_sign_98_100 rfl (fun ls hl => ?_)
        refine lv_if_eq (tgt := 107) B.hx B.hb dX5_sign_100 (by decide) (fun h => absurd h (by decide)) (fun _ => ?_)
        refine pb_blk B.hx B.hb (lv' := [(5, .int 1), (4, .int 0), (3, .int 1), (2, .ref y1), (0, .ref q), (1, .int f0)]) (st' := [.int 2]) hl bkX5_sign_103_108 rfl (fun ls hl => ?_)
        exact x_iret B dX5_sign_108 ((eH10).mv _) ⟨_, rfl, Or.inr ⟨i, hi, ei, Or.inr ⟨u, ti, Or.inr ⟨n, pt, sg, ht, rfl, _, _, _, ⟨J0, hJ0, rfl⟩, ⟨J1, hJ1, rfl⟩, ⟨J2, hJ2, rfl⟩, by rw [z0, z1, z2]; rfl⟩⟩⟩⟩ (fun _ h => nomatch h) (Nat.le_of_ble_eq_true rfl) (Nat.le_of_ble_eq_true rfl)
    · have z1 : (!emZ (jn true as (whS 1 n pt sg) J1)) = true := by rw [(b2i_0 _).mp h2]; rfl
      refine pb_blk B.hx B.hb (lv' := [(4, .int 1), (3, .int 1), (2, .ref y1), (0, .ref q), (1, .int f0)]) (st' := [.ref q]) hl bkX5_sign_54_62 rfl (fun ls hl => ?_)
      obtain ⟨aa2, ob2, -, -, -, -, -, hs2⟩ := id hh
      have obf2 := obF ob2
      refine z_get B ciX5 2 (by decide) obf2 wd_F_X5_25 rfl dX5_sign_62 ?_
      obtain ⟨fs1, ho1⟩ := hy1.ob
      refine pb_blk B.hx B.hb (lv' := [(4, .int 1), (3, .int 1), (2, .ref y1), (0, .ref q), (1, .int f0)]) (st' := [.int 2, .ref y1, .ref aa2]) hl bkX5_sign_65_67 rfl (fun ls hl => ?_)
      refine z_callV B (c_X3_chosen l G A y1 n 2 pt sg hn2) cy_X3_chosen im_X3_chosen se_X3_chosen wd_M_X5_116 rfl ho1 (hA_up hA (eH7).1) hy1 rfl hl.1 rfl (Nat.le_of_ble_eq_true rfl) ⟨by decide, by decide⟩ ⟨by decide, by decide⟩ dX5_sign_67 (fun v H8 hE hv => ?_)
      obtain ⟨c2, rfl, hc2⟩ := hv
      have eH8 := (eH7).trans hE
      have hx1 := hx1.mv (hE.mv A)
      have fx1 := fx1.mv (hE.mv A)
      have hy1 := hy1.mv (hE.mv A)
      have hs0 := hs0.mv (hE.mv A)
      have hc0 := hc0.mv (hE.mv A)
      have hs1 := hs1.mv (hE.mv A)
      have hc1 := hc1.mv (hE.mv A)
      have hs2 := hs2.mv (hE.mv A)
      have hh := hh.ex hE
      have hc2 : Ls G A H8 c2 (whS 2 n pt sg).1 (whS 2 n pt sg).2.1 (whS 2 n pt sg).2.2 := hc2
      have hn7 : (whS 2 n pt sg).1 ≤ n := czn_le _ _
      obtain ⟨fs2, ho2⟩ := hc2.ob
      refine z_callV B (c_X2_rest l G A c2 (whS 2 n pt sg).1 (whS 2 n pt sg).2.1 (whS 2 n pt sg).2.2 (by omega)) cy_X2_rest im_X2_rest se_X2_rest wd_M_X5_131 rfl ho2 (hA_up hA (eH8).1) hc2 rfl hl.1 rfl (Nat.le_of_ble_eq_true rfl) ⟨by decide, by decide⟩ ⟨by decide, by decide⟩ dX5_sign_70 (fun v H9 hE hv => ?_)
      obtain ⟨c3, rfl, hc3⟩ := hv
      have eH9 := (eH8).trans hE
      have hx1 := hx1.mv (hE.mv A)
      have fx1 := fx1.mv (hE.mv A)
      have hy1 := hy1.mv (hE.mv A)
      have hs0 := hs0.mv (hE.mv A)
      have hc0 := hc0.mv (hE.mv A)
      have hs1 := hs1.mv (hE.mv A)
      have hc1 := hc1.mv (hE.mv A)
      have hs2 := hs2.mv (hE.mv A)
      have hc2 := hc2.mv (hE.mv A)
      have hh := hh.ex hE
      obtain ⟨fs3, ho3⟩ := hs2.ob
      refine z_callV B (c_X2_met l G A aa2 c3 as.1 (whS 2 n pt sg).1 as.2.1 (whS 2 n pt sg).2.1 as.2.2 ((whS 2 n pt sg).1, (whS 2 n pt sg).2.1, fun j => !(whS 2 n pt sg).2.2 j).2.2 has.1 (by omega) (fun k hk => (has.2 k hk).bg) (fun k hk => czp_P hbp k hk) (fun J hJ => hcz _ ((whS 2 n pt sg).1, (whS 2 n pt sg).2.1, fun j => !(whS 2 n pt sg).2.2 j).2.2 J hJ)) cy_X2_met im_X2_met se_X2_met wd_M_X5_124 rfl ho3 (hA_up hA (eH9).1) ⟨hs2, hc3⟩ rfl hl.1 rfl (Nat.le_of_ble_eq_true rfl) ⟨by decide, by decide⟩ ⟨by decide, by decide⟩ dX5_sign_73 (fun v H10 hE hv => ?_)
      obtain ⟨m2, J2, rfl, hJ2, hm2⟩ := hv
      have eH10 := (eH9).trans hE
      have hx1 := hx1.mv (hE.mv A)
      have fx1 := fx1.mv (hE.mv A)
      have hy1 := hy1.mv (hE.mv A)
      have hs0 := hs0.mv (hE.mv A)
      have hc0 := hc0.mv (hE.mv A)
      have hs1 := hs1.mv (hE.mv A)
      have hc1 := hc1.mv (hE.mv A)
      have hs2 := hs2.mv (hE.mv A)
      have hc2 := hc2.mv (hE.mv A)
      have hc3 := hc3.mv (hE.mv A)
      have hh := hh.ex hE
      have hm2 : Ls G A H10 m2 (jn true as ((whS 2 n pt sg).1, (whS 2 n pt sg).2.1, fun j => !(whS 2 n pt sg).2.2 j) J2).1 (jn true as ((whS 2 n pt sg).1, (whS 2 n pt sg).2.1, fun j => !(whS 2 n pt sg).2.2 j) J2).2.1 (jn true as ((whS 2 n pt sg).1, (whS 2 n pt sg).2.1, fun j => !(whS 2 n pt sg).2.2 j) J2).2.2 := hm2
      obtain ⟨fs4, ho4⟩ := hm2.ob
      refine n_callV B (c_X2_isEmpty l G A m2 (jn true as ((whS 2 n pt sg).1, (whS 2 n pt sg).2.1, fun j => !(whS 2 n pt sg).2.2 j) J2).1 (jn true as ((whS 2 n pt sg).1, (whS 2 n pt sg).2.1, fun j => !(whS 2 n pt sg).2.2 j) J2).2.1 (jn true as ((whS 2 n pt sg).1, (whS 2 n pt sg).2.1, fun j => !(whS 2 n pt sg).2.2 j) J2).2.2 (Nat.lt_of_le_of_lt (hcz _ ((whS 2 n pt sg).1, (whS 2 n pt sg).2.1, fun j => !(whS 2 n pt sg).2.2 j).2.2 J2 hJ2) (by decide))) cy_X2_isEmpty im_X2_isEmpty se_X2_isEmpty wd_M_X5_174 rfl ho4 hm2 rfl hl.1 rfl (Nat.le_of_ble_eq_true rfl) ⟨by decide, by decide⟩ ⟨by decide, by decide⟩ dX5_sign_76 (fun v hv => ?_)
      have hv : v = some (.int (b2i (emZ (jn true as ((whS 2 n pt sg).1, (whS 2 n pt sg).2.1, fun j => !(whS 2 n pt sg).2.2 j) J2)))) := hv
      subst hv
      refine lv_if_ne (tgt := 86) B.hx B.hb dX5_sign_79 (by decide) (fun h3 => ?_) (fun h3 => ?_)
      · have z2 : (!emZ (jn true as ((whS 2 n pt sg).1, (whS 2 n pt sg).2.1, fun j => !(whS 2 n pt sg).2.2 j) J2)) = false := by rw [ts9 (fun q => h3 ((b2i_0 _).mpr q))]; rfl
        refine pb_blk B.hx B.hb (lv' := [(5, .int 0), (4, .int 1), (3, .int 1), (2, .ref y1), (0, .ref q), (1, .int f0)]) (st' := [.int 1]) hl bkX5_sign_86_90 rfl (fun ls hl => ?_)
        refine lv_if_eq (tgt := 109) B.hx B.hb dX5_sign_90 (by decide) (fun h => absurd h (by decide)) (fun _ => ?_)
        refine pb_blk B.hx B.hb (lv' := [(5, .int 0), (4, .int 1), (3, .int 1), (2, .ref y1), (0, .ref q), (1, .int f0)]) (st' := [.int 1]) hl bkX5_sign_93_95 rfl (fun ls hl => ?_)
        refine lv_if_ne (tgt := 103) B.hx B.hb dX5_sign_95 (by decide) (fun _ => ?_) (fun h => absurd h (by decide))
        refine pb_blk B.hx B.hb (lv' := [(5, .int 0), (4, .int 1), (3, .int 1), (2, .ref y1), (0, .ref q), (1, .int f0)]) (st' := [.int 2]) hl bkX5_sign_103_108 rfl (fun ls hl => ?_)
        exact x_iret B dX5_sign_108 ((eH10).mv _) ⟨_, rfl, Or.inr ⟨i, hi, ei, Or.inr ⟨u, ti, Or.inr ⟨n, pt, sg, ht, rfl, _, _, _, ⟨J0, hJ0, rfl⟩, ⟨J1, hJ1, rfl⟩, ⟨J2, hJ2, rfl⟩, by rw [z0, z1, z2]; rfl⟩⟩⟩⟩ (fun _ h => nomatch h) (Nat.le_of_ble_eq_true rfl) (Nat.le_of_ble_eq_true rfl)
      · have z2 : (!emZ (jn true as ((whS 2 n pt sg).1, (whS 2 n pt sg).2.1, fun j => !(whS 2 n pt sg).2.2 j) J2)) = true := by rw [(b2i_0 _).mp h3]; rfl
        refine pb_blk B.hx B.hb (lv' := [(5, .int 1), (4, .int 1), (3, .int 1), (2, .ref y1), (0, .ref q), (1, .int f0)]) (st' := [.int 1]) hl bkX5_sign_82_90 rfl (fun ls hl => ?_)
        refine lv_if_eq (tgt := 109) B.hx B.hb dX5_sign_90 (by decide) (fun h => absurd h (by decide)) (fun _ => ?_)
        refine pb_blk B.hx B.hb (lv' := [(5, .int 1), (4, .int 1), (3, .int 1), (2, .ref y1), (0, .ref q), (1, .int f0)]) (st' := [.int 1]) hl bkX5_sign_93_95 rfl (fun ls hl => ?_)
        refine lv_if_ne (tgt := 103) B.hx B.hb dX5_sign_95 (by decide) (fun _ => ?_) (fun h => absurd h (by decide))
        refine pb_blk B.hx B.hb (lv' := [(5, .int 1), (4, .int 1), (3, .int 1), (2, .ref y1), (0, .ref q), (1, .int f0)]) (st' := [.int 2]) hl bkX5_sign_103_108 rfl (fun ls hl => ?_)
        exact x_iret B dX5_sign_108 ((eH10).mv _) ⟨_, rfl, Or.inr ⟨i, hi, ei, Or.inr ⟨u, ti, Or.inr ⟨n, pt, sg, ht, rfl, _, _, _, ⟨J0, hJ0, rfl⟩, ⟨J1, hJ1, rfl⟩, ⟨J2, hJ2, rfl⟩, by rw [z0, z1, z2]; rfl⟩⟩⟩⟩ (fun _ h => nomatch h) (Nat.le_of_ble_eq_true rfl) (Nat.le_of_ble_eq_true rfl)

