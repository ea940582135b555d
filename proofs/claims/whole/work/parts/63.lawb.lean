theorem bkL_law_528_534 : pb_chk cL_law 528 [.aload_n 1, .aload_n 0, .iload 4, .iconst 1, .iadd] = some 534 := by decide +kernel
theorem dL_law_534 : decode cL_law 534 = .ok (.iaload, 1) := by decide +kernel
theorem bkL_law_535_536 : pb_chk cL_law 535 [.aload_n 3] = some 536 := by decide +kernel
theorem dL_law_536 : decode cL_law 536 = .ok (.invokestatic 119, 3) := by decide +kernel
theorem bkL_law_539_547 : pb_chk cL_law 539 [.istore 5, .aload_n 2, .aload_n 0, .iload 4, .iconst 1, .iadd] = some 547 := by decide +kernel
theorem dL_law_547 : decode cL_law 547 = .ok (.iaload, 1) := by decide +kernel
theorem dL_law_548 : decode cL_law 548 = .ok (.invokevirtual 122, 3) := by decide +kernel
theorem bkL_law_551_554 : pb_chk cL_law 551 [.istore 6, .aload_n 2] = some 554 := by decide +kernel
theorem dL_law_554 : decode cL_law 554 = .ok (.invokevirtual 100, 3) := by decide +kernel
theorem bkL_law_557_559 : pb_chk cL_law 557 [.iload 5] = some 559 := by decide +kernel
theorem dL_law_559 : decode cL_law 559 = .ok (.if_icmp .eq 5, 3) := by decide +kernel
theorem bkL_law_564_566 : pb_chk cL_law 564 [.iload 5] = some 566 := by decide +kernel
theorem dL_law_566 : decode cL_law 566 = .ok (.ifCond .ne 15, 3) := by decide +kernel
theorem bkL_law_569_571 : pb_chk cL_law 569 [.aload_n 3, .iconst 0] = some 571 := by decide +kernel
theorem dL_law_571 : decode cL_law 571 = .ok (.laload, 1) := by decide +kernel
theorem bkL_law_572_576 : pb_chk cL_law 572 [.iload 6, .i2l, .lcmp] = some 576 := by decide +kernel
theorem dL_law_576 : decode cL_law 576 = .ok (.ifCond .eq 5, 3) := by decide +kernel
theorem bkL_law_581_1590 : pb_chk cL_law 581 [.goto 1009] = some 1590 := by decide +kernel
set_option maxHeartbeats 4000000 in
set_option maxRecDepth 100000 in
theorem lc_derive {p : Program} {l : Launch} {e : Env} {s : State} {m : MethodId} {args : Array Value} {below : List Frame} {meth : Method} {c : Code} {G : Gm} {b L q ta out mo N i cells slots : Nat} {xs : Nat → Int32} {th : Nat → Th} {as : St3} {S : Sc} {ct : Ct} {H : Heap} {ls : Array Slot} {Q : State → Prop} (C : LC p l s m args meth c G b L xs) (hW : Lw G s.heap H q ta out mo N th as S ct) (hi : i + 5 ≤ L) (hl : LL ls b q mo out i) (hcs : cells + 300 ≤ 717796 ∧ slots + 10000 ≤ 6942715) (kk : LK p l e s m args below meth c G b q ta out mo i cells slots Q) : W p l e room_1 s m args below meth c H [] cells slots Q (F0 m 528 ls []) := by
  obtain ⟨B, hKT, hst, hX, hbl, hL5⟩ := C
  have hlw := hW
  obtain ⟨hH, hms, hP, ⟨y0, hO⟩, hE, D, hI⟩ := hlw
  have hA := hW.A
  have hB := hI.bds
  have hN := hI.1
  have hmo := D.2.2.2.1
  have hl : lv_has ls 7 [(4, .int (nI i)), (0, .ref b), (1, .ref q), (2, .ref mo), (3, .ref out)] := hl
  refine pb_blk B.hx B.hb (lv' := [(4, .int (nI i)), (0, .ref b), (1, .ref q), (2, .ref mo), (3, .ref out)]) (st' := [.int ((nI i) + 1), .ref b, .ref q]) hl bkL_law_528_534 rfl (fun ls hl => ?_)
  rw [show nI i + 1 = nI (i + 1) from nI_add i 1]
  refine l_scr B hX hbl hE (k := i + 1) (by omega) (by omega) (by omega) dL_law_534 ?_
  refine pb_blk B.hx B.hb (lv' := [(4, .int (nI i)), (0, .ref b), (1, .ref q), (2, .ref mo), (3, .ref out)]) (st' := [.ref out, .int (xs (i + 1)), .ref q]) hl bkL_law_535_536 rfl (fun ls hl => ?_)
  refine l_callS B hKT (c_L_derive l hst G (Al q ta out mo) q ta out N th as (xs (i + 1)) hB (Or.inl (Or.inr (Or.inr rfl))) D.2.2.2.2.1 D.2.2.2.2.2.1) ch_L_derive wd_M_L_119 hA ⟨hH, y0, hO⟩ hE rfl hl.1 rfl (Nat.le_of_ble_eq_true rfl) ⟨by decide, by decide⟩ ⟨by show cells + 300 ≤ 717796; omega, by show slots + 10000 ≤ 6942715; omega⟩ dL_law_536 (fw_ge D) (fun v H1 hmv hv => ?_)
  obtain ⟨hms1, hE1⟩ := lw_mid hW hmv
  have hD : Dt (R_derive N th (xs (i + 1))) := dt_derive hN
  obtain ⟨c1, rfl, hv⟩ := hv
  rcases hv with ⟨rfl, t, hR, hH1, hO1⟩ | ⟨hc0, hc4, hR, hH1, y1, hO1⟩
  · have hE := hE1
    refine pb_blk B.hx B.hb (lv' := [(5, .int (nI 0)), (4, .int (nI i)), (0, .ref b), (1, .ref q), (2, .ref mo), (3, .ref out)]) (st' := [.int ((nI i) + 1), .ref b, .ref mo]) hl bkL_law_539_547 rfl (fun ls hl => ?_)
    rw [show nI i + 1 = nI (i + 1) from nI_add i 1]
    refine l_scr B hX hbl hE (k := i + 1) (by omega) (by omega) (by omega) dL_law_547 ?_
    refine l_callM B (c_X6_derive l G mo S ct N th as (xs (i + 1)) hP hB) cy_X6_derive im_X6_derive se_X6_derive wd_M_L_122 hms1 hmo rfl hl.1 rfl (Nat.le_of_ble_eq_true rfl) ⟨by decide, by decide⟩ ⟨rfl, rfl⟩ ⟨by show cells + 300 ≤ 717796; omega, by show slots + 10000 ≤ 6942715; omega⟩ dL_law_548 (fun v H2 S2 ct2 hz he hms2 hv => ?_)
    obtain ⟨c2, t2, hR2, hS2, g3⟩ := hv
    have hcc := hD 0 t c2 t2 hR hR2
    obtain ⟨hc, ht⟩ := hcc
    subst hc
    obtain rfl := ht rfl
    rcases g3 with ⟨_, rfl, hP2⟩ | ⟨h9, _⟩
    · refine pb_blk B.hx B.hb (lv' := [(6, .int (nI N)), (5, .int (nI 0)), (4, .int (nI i)), (0, .ref b), (1, .ref q), (2, .ref mo), (3, .ref out)]) (st' := [.ref mo]) hl bkL_law_551_554 rfl (fun ls hl => ?_)
      refine n_callV (ci := 5) B (c_X6_thrown l G (fun _ => False) mo S2 ct2 (nI 0) hS2) cy_X6_thrown im_X6_thrown se_X6_thrown wd_M_L_100 rfl hms2.1 hms2 rfl hl.1 rfl (Nat.le_of_ble_eq_true rfl) ⟨by decide, by decide⟩ ⟨by show cells + 300 + 0 ≤ 717796; omega, by show slots + 10000 + 0 ≤ 6942715; omega⟩ dL_law_554 (fun v hv => ?_)
      rw [po_X6_thrown] at hv
      subst hv
      refine pb_blk B.hx B.hb (lv' := [(6, .int (nI N)), (5, .int (nI 0)), (4, .int (nI i)), (0, .ref b), (1, .ref q), (2, .ref mo), (3, .ref out)]) (st' := [.int (nI 0), .int (nI 0)]) hl bkL_law_557_559 rfl (fun ls hl => ?_)
      refine lv_icmp_eq (tgt := 564) B.hx B.hb dL_law_559 (by decide) (fun h1 => ?_) (fun h1 => absurd h1 (not_not_intro rfl))
      refine pb_blk B.hx B.hb (lv' := [(6, .int (nI N)), (5, .int (nI 0)), (4, .int (nI i)), (0, .ref b), (1, .ref q), (2, .ref mo), (3, .ref out)]) (st' := [.int (nI 0)]) hl bkL_law_564_566 rfl (fun ls hl => ?_)
      refine lv_if_ne (tgt := 581) B.hx B.hb dL_law_566 (by decide) (fun h2 => absurd h2 (not_not_intro rfl)) (fun h2 => ?_)
      refine pb_blk B.hx B.hb (lv' := [(6, .int (nI N)), (5, .int (nI 0)), (4, .int (nI i)), (0, .ref b), (1, .ref q), (2, .ref mo), (3, .ref out)]) (st' := [.int 0, .ref out]) hl bkL_law_569_571 rfl (fun ls hl => ?_)
      obtain ⟨fo, ho1, ho2⟩ := hO1.kept (he out D.2.2.2.2.2.2.2.2)
      refine z_lald B ho1 (show vp_in (nI 0) 1 from vp_in_nI (by decide) (by decide)) (v := .long (nI N).toInt64) ho2 dL_law_571 ?_
      refine pb_blk B.hx B.hb (lv' := [(6, .int (nI N)), (5, .int (nI 0)), (4, .int (nI i)), (0, .ref b), (1, .ref q), (2, .ref mo), (3, .ref out)]) (st' := [.int (lg_cmp ((nI N).toInt64) (((nI N)).toInt64))]) hl bkL_law_572_576 rfl (fun ls hl => ?_)
      refine lv_if_eq (tgt := 581) B.hx B.hb dL_law_576 (by decide) (fun h3 => ?_) (fun h3 => absurd h3 (not_not_intro ((lg_cmp_eq _ _).mpr rfl)))
      refine pb_blk B.hx B.hb (lv' := [(6, .int (nI N)), (5, .int (nI 0)), (4, .int (nI i)), (0, .ref b), (1, .ref q), (2, .ref mo), (3, .ref out)]) (st' := []) hl bkL_law_581_1590 rfl (fun ls hl => ?_)
      exact kk H2 (N + 1) (upT th N _) as S2 ct2 ls (lw_fin D hE1 hz he hH1 hO1 hms2 hP2 (iv_derive hI hR2)) (lv_sub hl [2, 3, 4, 5, 6] rfl)
    · exact absurd rfl h9
  · have hE := hE1
    refine pb_blk B.hx B.hb (lv' := [(5, .int (nI c1)), (4, .int (nI i)), (0, .ref b), (1, .ref q), (2, .ref mo), (3, .ref out)]) (st' := [.int ((nI i) + 1), .ref b, .ref mo]) hl bkL_law_539_547 rfl (fun ls hl => ?_)
    rw [show nI i + 1 = nI (i + 1) from nI_add i 1]
    refine l_scr B hX hbl hE (k := i + 1) (by omega) (by omega) (by omega) dL_law_547 ?_
    refine l_callM B (c_X6_derive l G mo S ct N th as (xs (i + 1)) hP hB) cy_X6_derive im_X6_derive se_X6_derive wd_M_L_122 hms1 hmo rfl hl.1 rfl (Nat.le_of_ble_eq_true rfl) ⟨by decide, by decide⟩ ⟨rfl, rfl⟩ ⟨by show cells + 300 ≤ 717796; omega, by show slots + 10000 ≤ 6942715; omega⟩ dL_law_548 (fun v H2 S2 ct2 hz he hms2 hv => ?_)
    obtain ⟨c2, t2, hR2, hS2, g3⟩ := hv
    have hcc := hD c1 t2 c2 t2 (hR t2) hR2
    obtain ⟨hc, ht⟩ := hcc
    subst hc
    rcases g3 with ⟨h9, _⟩ | ⟨_, ⟨r9, rfl⟩, hP2⟩
    · exact absurd h9 hc0
    · refine pb_blk B.hx B.hb (lv' := [(6, .int r9), (5, .int (nI c1)), (4, .int (nI i)), (0, .ref b), (1, .ref q), (2, .ref mo), (3, .ref out)]) (st' := [.ref mo]) hl bkL_law_551_554 rfl (fun ls hl => ?_)
      refine n_callV (ci := 5) B (c_X6_thrown l G (fun _ => False) mo S2 ct2 (nI c1) hS2) cy_X6_thrown im_X6_thrown se_X6_thrown wd_M_L_100 rfl hms2.1 hms2 rfl hl.1 rfl (Nat.le_of_ble_eq_true rfl) ⟨by decide, by decide⟩ ⟨by show cells + 300 + 0 ≤ 717796; omega, by show slots + 10000 + 0 ≤ 6942715; omega⟩ dL_law_554 (fun v hv => ?_)
      rw [po_X6_thrown] at hv
      subst hv
      refine pb_blk B.hx B.hb (lv' := [(6, .int r9), (5, .int (nI c1)), (4, .int (nI i)), (0, .ref b), (1, .ref q), (2, .ref mo), (3, .ref out)]) (st' := [.int (nI c1), .int (nI c1)]) hl bkL_law_557_559 rfl (fun ls hl => ?_)
      refine lv_icmp_eq (tgt := 564) B.hx B.hb dL_law_559 (by decide) (fun h1 => ?_) (fun h1 => absurd h1 (not_not_intro rfl))
      refine pb_blk B.hx B.hb (lv' := [(6, .int r9), (5, .int (nI c1)), (4, .int (nI i)), (0, .ref b), (1, .ref q), (2, .ref mo), (3, .ref out)]) (st' := [.int (nI c1)]) hl bkL_law_564_566 rfl (fun ls hl => ?_)
      refine lv_if_ne (tgt := 581) B.hx B.hb dL_law_566 (by decide) (fun h2 => ?_) (fun h2 => absurd h2 (ni_ne hc0 hc4))
      refine pb_blk B.hx B.hb (lv' := [(6, .int r9), (5, .int (nI c1)), (4, .int (nI i)), (0, .ref b), (1, .ref q), (2, .ref mo), (3, .ref out)]) (st' := []) hl bkL_law_581_1590 rfl (fun ls hl => ?_)
      exact kk H2 N th as S2 ct2 ls (lw_fin D hE1 hz he hH1 hO1 hms2 hP2 hI) (lv_sub hl [2, 3, 4, 5, 6] rfl)

theorem bkL_law_584_590 : pb_chk cL_law 584 [.aload_n 1, .aload_n 0, .iload 4, .iconst 1, .iadd] = some 590 := by decide +kernel
theorem dL_law_590 : decode cL_law 590 = .ok (.iaload, 1) := by decide +kernel
theorem bkL_law_591_592 : pb_chk cL_law 591 [.aload_n 3] = some 592 := by decide +kernel
theorem dL_law_592 : decode cL_law 592 = .ok (.invokestatic 123, 3) := by decide +kernel
theorem bkL_law_595_603 : pb_chk cL_law 595 [.istore 5, .aload_n 2, .aload_n 0, .iload 4, .iconst 1, .iadd] = some 603 := by decide +kernel
theorem dL_law_603 : decode cL_law 603 = .ok (.iaload, 1) := by decide +kernel
theorem dL_law_604 : decode cL_law 604 = .ok (.invokevirtual 125, 3) := by decide +kernel
theorem bkL_law_607_610 : pb_chk cL_law 607 [.istore 6, .aload_n 2] = some 610 := by decide +kernel
theorem dL_law_610 : decode cL_law 610 = .ok (.invokevirtual 100, 3) := by decide +kernel
theorem bkL_law_613_615 : pb_chk cL_law 613 [.iload 5] = some 615 := by decide +kernel
theorem dL_law_615 : decode cL_law 615 = .ok (.if_icmp .eq 5, 3) := by decide +kernel
theorem bkL_law_620_622 : pb_chk cL_law 620 [.iload 5] = some 622 := by decide +kernel
theorem dL_law_622 : decode cL_law 622 = .ok (.ifCond .ne 15, 3) := by decide +kernel
theorem bkL_law_625_627 : pb_chk cL_law 625 [.aload_n 3, .iconst 0] = some 627 := by decide +kernel
theorem dL_law_627 : decode cL_law 627 = .ok (.laload, 1) := by decide +kernel
theorem bkL_law_628_632 : pb_chk cL_law 628 [.iload 6, .i2l, .lcmp] = some 632 := by decide +kernel
theorem dL_law_632 : decode cL_law 632 = .ok (.ifCond .eq 5, 3) := by decide +kernel
theorem bkL_law_637_1590 : pb_chk cL_law 637 [.goto 953] = some 1590 := by decide +kernel
set_option maxHeartbeats 4000000 in
set_option maxRecDepth 100000 in
theorem lc_integral {p : Program} {l : Launch} {e : Env} {s : State} {m : MethodId} {args : Array Value} {below : List Frame} {meth : Method} {c : Code} {G : Gm} {b L q ta out mo N i cells slots : Nat} {xs : Nat → Int32} {th : Nat → Th} {as : St3} {S : Sc} {ct : Ct} {H : Heap} {ls : Array Slot} {Q : State → Prop} (C : LC p l s m args meth c G b L xs) (hW : Lw G s.heap H q ta out mo N th as S ct) (hi : i + 5 ≤ L) (hl : LL ls b q mo out i) (hcs : cells + 300 ≤ 717796 ∧ slots + 10000 ≤ 6942715) (kk : LK p l e s m args below meth c G b q ta out mo i cells slots Q) : W p l e room_1 s m args below meth c H [] cells slots Q (F0 m 584 ls []) := by
  obtain ⟨B, hKT, hst, hX, hbl, hL5⟩ := C
  have hlw := hW
  obtain ⟨hH, hms, hP, ⟨y0, hO⟩, hE, D, hI⟩ := hlw
  have hA := hW.A
  have hB := hI.bds
  have hN := hI.1
  have hmo := D.2.2.2.1
  have hl : lv_has ls 7 [(4, .int (nI i)), (0, .ref b), (1, .ref q), (2, .ref mo), (3, .ref out)] := hl
  refine pb_blk B.hx B.hb (lv' := [(4, .int (nI i)), (0, .ref b), (1, .ref q), (2, .ref mo), (3, .ref out)]) (st' := [.int ((nI i) + 1), .ref b, .ref q]) hl bkL_law_584_590 rfl (fun ls hl => ?_)
  rw [show nI i + 1 = nI (i + 1) from nI_add i 1]
  refine l_scr B hX hbl hE (k := i + 1) (by omega) (by omega) (by omega) dL_law_590 ?_
  refine pb_blk B.hx B.hb (lv' := [(4, .int (nI i)), (0, .ref b), (1, .ref q), (2, .ref mo), (3, .ref out)]) (st' := [.ref out, .int (xs (i + 1)), .ref q]) hl bkL_law_591_592 rfl (fun ls hl => ?_)
  refine l_callS B hKT (c_L_integral l hst G (Al q ta out mo) q ta out N th as (xs (i + 1)) hB (Or.inl (Or.inr (Or.inr rfl))) D.2.2.2.2.1 D.2.2.2.2.2.1) ch_L_integral wd_M_L_123 hA ⟨hH, y0, hO⟩ hE rfl hl.1 rfl (Nat.le_of_ble_eq_true rfl) ⟨by decide, by decide⟩ ⟨by show cells + 300 ≤ 717796; omega, by show slots + 10000 ≤ 6942715; omega⟩ dL_law_592 (fw_ge D) (fun v H1 hmv hv => ?_)
  obtain ⟨hms1, hE1⟩ := lw_mid hW hmv
  have hD : Dt (R_integral N th (xs (i + 1))) := dt_integral hN
  obtain ⟨c1, rfl, hv⟩ := hv
  rcases hv with ⟨rfl, t, hR, hH1, hO1⟩ | ⟨hc0, hc4, hR, hH1, y1, hO1⟩
  · have hE := hE1
    refine pb_blk B.hx B.hb (lv' := [(5, .int (nI 0)), (4, .int (nI i)), (0, .ref b), (1, .ref q), (2, .ref mo), (3, .ref out)]) (st' := [.int ((nI i) + 1), .ref b, .ref mo]) hl bkL_law_595_603 rfl (fun ls hl => ?_)
    rw [show nI i + 1 = nI (i + 1) from nI_add i 1]
    refine l_scr B hX hbl hE (k := i + 1) (by omega) (by omega) (by omega) dL_law_603 ?_
    refine l_callM B (c_X6_integral l G mo S ct N th as (xs (i + 1)) hP hB) cy_X6_integral im_X6_integral se_X6_integral wd_M_L_125 hms1 hmo rfl hl.1 rfl (Nat.le_of_ble_eq_true rfl) ⟨by decide, by decide⟩ ⟨rfl, rfl⟩ ⟨by show cells + 300 ≤ 717796; omega, by show slots + 10000 ≤ 6942715; omega⟩ dL_law_604 (fun v H2 S2 ct2 hz he hms2 hv => ?_)
    obtain ⟨c2, t2, hR2, hS2, g3⟩ := hv
    have hcc := hD 0 t c2 t2 hR hR2
    obtain ⟨hc, ht⟩ := hcc
    subst hc
    obtain rfl := ht rfl
    rcases g3 with ⟨_, rfl, hP2⟩ | ⟨h9, _⟩
    · refine pb_blk B.hx B.hb (lv' := [(6, .int (nI N)), (5, .int (nI 0)), (4, .int (nI i)), (0, .ref b), (1, .ref q), (2, .ref mo), (3, .ref out)]) (st' := [.ref mo]) hl bkL_law_607_610 rfl (fun ls hl => ?_)
      refine n_callV (ci := 5) B (c_X6_thrown l G (fun _ => False) mo S2 ct2 (nI 0) hS2) cy_X6_thrown im_X6_thrown se_X6_thrown wd_M_L_100 rfl hms2.1 hms2 rfl hl.1 rfl (Nat.le_of_ble_eq_true rfl) ⟨by decide, by decide⟩ ⟨by show cells + 300 + 0 ≤ 717796; omega, by show slots + 10000 + 0 ≤ 6942715; omega⟩ dL_law_610 (fun v hv => ?_)
      rw [po_X6_thrown] at hv
      subst hv
      refine pb_blk B.hx B.hb (lv' := [(6, .int (nI N)), (5, .int (nI 0)), (4, .int (nI i)), (0, .ref b), (1, .ref q), (2, .ref mo), (3, .ref out)]) (st' := [.int (nI 0), .int (nI 0)]) hl bkL_law_613_615 rfl (fun ls hl => ?_)
      refine lv_icmp_eq (tgt := 620) B.hx B.hb dL_law_615 (by decide) (fun h1 => ?_) (fun h1 => absurd h1 (not_not_intro rfl))
      refine pb_blk B.hx B.hb (lv' := [(6, .int (nI N)), (5, .int (nI 0)), (4, .int (nI i)), (0, .ref b), (1, .ref q), (2, .ref mo), (3, .ref out)]) (st' := [.int (nI 0)]) hl bkL_law_620_622 rfl (fun ls hl => ?_)
      refine lv_if_ne (tgt := 637) B.hx B.hb dL_law_622 (by decide) (fun h2 => absurd h2 (not_not_intro rfl)) (fun h2 => ?_)
      refine pb_blk B.hx B.hb (lv' := [(6, .int (nI N)), (5, .int (nI 0)), (4, .int (nI i)), (0, .ref b), (1, .ref q), (2, .ref mo), (3, .ref out)]) (st' := [.int 0, .ref out]) hl bkL_law_625_627 rfl (fun ls hl => ?_)
      obtain ⟨fo, ho1, ho2⟩ := hO1.kept (he out D.2.2.2.2.2.2.2.2)
      refine z_lald B ho1 (show vp_in (nI 0) 1 from vp_in_nI (by decide) (by decide)) (v := .long (nI N).toInt64) ho2 dL_law_627 ?_
      refine pb_blk B.hx B.hb (lv' := [(6, .int (nI N)), (5, .int (nI 0)), (4, .int (nI i)), (0, .ref b), (1, .ref q), (2, .ref mo), (3, .ref out)]) (st' := [.int (lg_cmp ((nI N).toInt64) (((nI N)).toInt64))]) hl bkL_law_628_632 rfl (fun ls hl => ?_)
      refine lv_if_eq (tgt := 637) B.hx B.hb dL_law_632 (by decide) (fun h3 => ?_) (fun h3 => absurd h3 (not_not_intro ((lg_cmp_eq _ _).mpr rfl)))
      refine pb_blk B.hx B.hb (lv' := [(6, .int (nI N)), (5, .int (nI 0)), (4, .int (nI i)), (0, .ref b), (1, .ref q), (2, .ref mo), (3, .ref out)]) (st' := []) hl bkL_law_637_1590 rfl (fun ls hl => ?_)
      exact kk H2 (N + 1) (upT th N _) as S2 ct2 ls (lw_fin D hE1 hz he hH1 hO1 hms2 hP2 (iv_integral hI hR2)) (lv_sub hl [2, 3, 4, 5, 6] rfl)
    · exact absurd rfl h9
  · have hE := hE1
    refine pb_blk B.hx B.hb (lv' := [(5, .int (nI c1)), (4, .int (nI i)), (0, .ref b), (1, .ref q), (2, .ref mo), (3, .ref out)]) (st' := [.int ((nI i) + 1), .ref b, .ref mo]) hl bkL_law_595_603 rfl (fun ls hl => ?_)
    rw [show nI i + 1 = nI (i + 1) from nI_add i 1]
    refine l_scr B hX hbl hE (k := i + 1) (by omega) (by omega) (by omega) dL_law_603 ?_
    refine l_callM B (c_X6_integral l G mo S ct N th as (xs (i + 1)) hP hB) cy_X6_integral im_X6_integral se_X6_integral wd_M_L_125 hms1 hmo rfl hl.1 rfl (Nat.le_of_ble_eq_true rfl) ⟨by decide, by decide⟩ ⟨rfl, rfl⟩ ⟨by show cells + 300 ≤ 717796; omega, by show slots + 10000 ≤ 6942715; omega⟩ dL_law_604 (fun v H2 S2 ct2 hz he hms2 hv => ?_)
    obtain ⟨c2, t2, hR2, hS2, g3⟩ := hv
    have hcc := hD c1 t2 c2 t2 (hR t2) hR2
    obtain ⟨hc, ht⟩ := hcc
    subst hc
    rcases g3 with ⟨h9, _⟩ | ⟨_, ⟨r9, rfl⟩, hP2⟩
    · exact absurd h9 hc0
    · refine pb_blk B.hx B.hb (lv' := [(6, .int r9), (5, .int (nI c1)), (4, .int (nI i)), (0, .ref b), (1, .ref q), (2, .ref mo), (3, .ref out)]) (st' := [.ref mo]) hl bkL_law_607_610 rfl (fun ls hl => ?_)
      refine n_callV (ci := 5) B (c_X6_thrown l G (fun _ => False) mo S2 ct2 (nI c1) hS2) cy_X6_thrown im_X6_thrown se_X6_thrown wd_M_L_100 rfl hms2.1 hms2 rfl hl.1 rfl (Nat.le_of_ble_eq_true rfl) ⟨by decide, by decide⟩ ⟨by show cells + 300 + 0 ≤ 717796; omega, by show slots + 10000 + 0 ≤ 6942715; omega⟩ dL_law_610 (fun v hv => ?_)
      rw [po_X6_thrown] at hv
      subst hv
      refine pb_blk B.hx B.hb (lv' := [(6, .int r9), (5, .int (nI c1)), (4, .int (nI i)), (0, .ref b), (1, .ref q), (2, .ref mo), (3, .ref out)]) (st' := [.int (nI c1), .int (nI c1)]) hl bkL_law_613_615 rfl (fun ls hl => ?_)
      refine lv_icmp_eq (tgt := 620) B.hx B.hb dL_law_615 (by decide) (fun h1 => ?_) (fun h1 => absurd h1 (not_not_intro rfl))
      refine pb_blk B.hx B.hb (lv' := [(6, .int r9), (5, .int (nI c1)), (4, .int (nI i)), (0, .ref b), (1, .ref q), (2, .ref mo), (3, .ref out)]) (st' := [.int (nI c1)]) hl bkL_law_620_622 rfl (fun ls hl => ?_)
      refine lv_if_ne (tgt := 637) B.hx B.hb dL_law_622 (by decide) (fun h2 => ?_) (fun h2 => absurd h2 (ni_ne hc0 hc4))
      refine pb_blk B.hx B.hb (lv' := [(6, .int r9), (5, .int (nI c1)), (4, .int (nI i)), (0, .ref b), (1, .ref q), (2, .ref mo), (3, .ref out)]) (st' := []) hl bkL_law_637_1590 rfl (fun ls hl => ?_)
      exact kk H2 N th as S2 ct2 ls (lw_fin D hE1 hz he hH1 hO1 hms2 hP2 hI) (lv_sub hl [2, 3, 4, 5, 6] rfl)

theorem bkL_law_640_646 : pb_chk cL_law 640 [.aload_n 1, .aload_n 0, .iload 4, .iconst 1, .iadd] = some 646 := by decide +kernel
theorem dL_law_646 : decode cL_law 646 = .ok (.iaload, 1) := by decide +kernel
theorem bkL_law_647_652 : pb_chk cL_law 647 [.aload_n 0, .iload 4, .iconst 2, .iadd] = some 652 := by decide +kernel
theorem dL_law_652 : decode cL_law 652 = .ok (.iaload, 1) := by decide +kernel
theorem bkL_law_653_654 : pb_chk cL_law 653 [.aload_n 3] = some 654 := by decide +kernel
theorem dL_law_654 : decode cL_law 654 = .ok (.invokestatic 126, 3) := by decide +kernel
theorem bkL_law_657_665 : pb_chk cL_law 657 [.istore 5, .aload_n 2, .aload_n 0, .iload 4, .iconst 1, .iadd] = some 665 := by decide +kernel
theorem dL_law_665 : decode cL_law 665 = .ok (.iaload, 1) := by decide +kernel
theorem bkL_law_666_671 : pb_chk cL_law 666 [.aload_n 0, .iload 4, .iconst 2, .iadd] = some 671 := by decide +kernel
theorem dL_law_671 : decode cL_law 671 = .ok (.iaload, 1) := by decide +kernel
theorem dL_law_672 : decode cL_law 672 = .ok (.invokevirtual 128, 3) := by decide +kernel
theorem bkL_law_675_678 : pb_chk cL_law 675 [.istore 6, .aload_n 2] = some 678 := by decide +kernel
theorem dL_law_678 : decode cL_law 678 = .ok (.invokevirtual 100, 3) := by decide +kernel
theorem bkL_law_681_683 : pb_chk cL_law 681 [.iload 5] = some 683 := by decide +kernel
theorem dL_law_683 : decode cL_law 683 = .ok (.if_icmp .eq 5, 3) := by decide +kernel
theorem bkL_law_688_690 : pb_chk cL_law 688 [.iload 5] = some 690 := by decide +kernel
theorem dL_law_690 : decode cL_law 690 = .ok (.ifCond .ne 15, 3) := by decide +kernel
theorem bkL_law_693_695 : pb_chk cL_law 693 [.aload_n 3, .iconst 0] = some 695 := by decide +kernel
theorem dL_law_695 : decode cL_law 695 = .ok (.laload, 1) := by decide +kernel
theorem bkL_law_696_700 : pb_chk cL_law 696 [.iload 6, .i2l, .lcmp] = some 700 := by decide +kernel
theorem dL_law_700 : decode cL_law 700 = .ok (.ifCond .eq 5, 3) := by decide +kernel
theorem bkL_law_705_1590 : pb_chk cL_law 705 [.goto 885] = some 1590 := by decide +kernel
set_option maxHeartbeats 4000000 in
set_option maxRecDepth 100000 in
theorem lc_put {p : Program} {l : Launch} {e : Env} {s : State} {m : MethodId} {args : Array Value} {below : List Frame} {meth : Method} {c : Code} {G : Gm} {b L q ta out mo N i cells slots : Nat} {xs : Nat → Int32} {th : Nat → Th} {as : St3} {S : Sc} {ct : Ct} {H : Heap} {ls : Array Slot} {Q : State → Prop} (C : LC p l s m args meth c G b L xs) (hW : Lw G s.heap H q ta out mo N th as S ct) (hi : i + 5 ≤ L) (hl : LL ls b q mo out i) (hcs : cells + 300 ≤ 717796 ∧ slots + 10000 ≤ 6942715) (kk : LK p l e s m args below meth c G b q ta out mo i cells slots Q) : W p l e room_1 s m args below meth c H [] cells slots Q (F0 m 640 ls []) := by
  obtain ⟨B, hKT, hst, hX, hbl, hL5⟩ := C
  have hlw := hW
  obtain ⟨hH, hms, hP, ⟨y0, hO⟩, hE, D, hI⟩ := hlw
  have hA := hW.A
  have hB := hI.bds
  have hN := hI.1
  have hmo := D.2.2.2.1
  have hl : lv_has ls 7 [(4, .int (nI i)), (0, .ref b), (1, .ref q), (2, .ref mo), (3, .ref out)] := hl
  refine pb_blk B.hx B.hb (lv' := [(4, .int (nI i)), (0, .ref b), (1, .ref q), (2, .ref mo), (3, .ref out)]) (st' := [.int ((nI i) + 1), .ref b, .ref q]) hl bkL_law_640_646 rfl (fun ls hl => ?_)
  rw [show nI i + 1 = nI (i + 1) from nI_add i 1]
  refine l_scr B hX hbl hE (k := i + 1) (by omega) (by omega) (by omega) dL_law_646 ?_
  refine pb_blk B.hx B.hb (lv' := [(4, .int (nI i)), (0, .ref b), (1, .ref q), (2, .ref mo), (3, .ref out)]) (st' := [.int ((nI i) + 2), .ref b, .int (xs (i + 1)), .ref q]) hl bkL_law_647_652 rfl (fun ls hl => ?_)
  rw [show nI i + 2 = nI (i + 2) from nI_add i 2]
  refine l_scr B hX hbl hE (k := i + 2) (by omega) (by omega) (by omega) dL_law_652 ?_
  refine pb_blk B.hx B.hb (lv' := [(4, .int (nI i)), (0, .ref b), (1, .ref q), (2, .ref mo), (3, .ref out)]) (st' := [.ref out, .int (xs (i + 2)), .int (xs (i + 1)), .ref q]) hl bkL_law_653_654 rfl (fun ls hl => ?_)
  refine l_callS B hKT (c_L_put l hst G (Al q ta out mo) q ta out N th as (xs (i + 1)) (xs (i + 2)) hB (Or.inl (Or.inr (Or.inr rfl))) D.2.2.2.2.1 D.2.2.2.2.2.1) ch_L_put wd_M_L_126 hA ⟨hH, y0, hO⟩ hE rfl hl.1 rfl (Nat.le_of_ble_eq_true rfl) ⟨by decide, by decide⟩ ⟨by show cells + 300 ≤ 717796; omega, by show slots + 10000 ≤ 6942715; omega⟩ dL_law_654 (fw_ge D) (fun v H1 hmv hv => ?_)
  obtain ⟨hms1, hE1⟩ := lw_mid hW hmv
  have hD : Dt (R_put N th (xs (i + 1)) (xs (i + 2))) := dt_put hN
  obtain ⟨c1, rfl, hv⟩ := hv
  rcases hv with ⟨rfl, t, hR, hH1, hO1⟩ | ⟨hc0, hc4, hR, hH1, y1, hO1⟩
  · have hE := hE1
    refine pb_blk B.hx B.hb (lv' := [(5, .int (nI 0)), (4, .int (nI i)), (0, .ref b), (1, .ref q), (2, .ref mo), (3, .ref out)]) (st' := [.int ((nI i) + 1), .ref b, .ref mo]) hl bkL_law_657_665 rfl (fun ls hl => ?_)
    rw [show nI i + 1 = nI (i + 1) from nI_add i 1]
    refine l_scr B hX hbl hE (k := i + 1) (by omega) (by omega) (by omega) dL_law_665 ?_
    refine pb_blk B.hx B.hb (lv' := [(5, .int (nI 0)), (4, .int (nI i)), (0, .ref b), (1, .ref q), (2, .ref mo), (3, .ref out)]) (st' := [.int ((nI i) + 2), .ref b, .int (xs (i + 1)), .ref mo]) hl bkL_law_666_671 rfl (fun ls hl => ?_)
    rw [show nI i + 2 = nI (i + 2) from nI_add i 2]
    refine l_scr B hX hbl hE (k := i + 2) (by omega) (by omega) (by omega) dL_law_671 ?_
    refine l_callM B (c_X6_put l G mo S ct N th as (xs (i + 1)) (xs (i + 2)) hP hB hI.bdm) cy_X6_put im_X6_put se_X6_put wd_M_L_128 hms1 hmo rfl hl.1 rfl (Nat.le_of_ble_eq_true rfl) ⟨by decide, by decide⟩ ⟨rfl, rfl⟩ ⟨by show cells + 300 ≤ 717796; omega, by show slots + 10000 ≤ 6942715; omega⟩ dL_law_672 (fun v H2 S2 ct2 hz he hms2 hv => ?_)
    obtain ⟨c2, t2, hR2, hS2, g3⟩ := hv
    have hcc := hD 0 t c2 t2 hR hR2
    obtain ⟨hc, ht⟩ := hcc
    subst hc
    obtain rfl := ht rfl
    rcases g3 with ⟨_, rfl, hP2⟩ | ⟨h9, _⟩
    · refine pb_blk B.hx B.hb (lv' := [(6, .int (nI N)), (5, .int (nI 0)), (4, .int (nI i)), (0, .ref b), (1, .ref q), (2, .ref mo), (3, .ref out)]) (st' := [.ref mo]) hl bkL_law_675_678 rfl (fun ls hl => ?_)
      refine n_callV (ci := 5) B (c_X6_thrown l G (fun _ => False) mo S2 ct2 (nI 0) hS2) cy_X6_thrown im_X6_thrown se_X6_thrown wd_M_L_100 rfl hms2.1 hms2 rfl hl.1 rfl (Nat.le_of_ble_eq_true rfl) ⟨by decide, by decide⟩ ⟨by show cells + 300 + 0 ≤ 717796; omega, by show slots + 10000 + 0 ≤ 6942715; omega⟩ dL_law_678 (fun v hv => ?_)
      rw [po_X6_thrown] at hv
      subst hv
      refine pb_blk B.hx B.hb (lv' := [(6, .int (nI N)), (5, .int (nI 0)), (4, .int (nI i)), (0, .ref b), (1, .ref q), (2, .ref mo), (3, .ref out)]) (st' := [.int (nI 0), .int (nI 0)]) hl bkL_law_681_683 rfl (fun ls hl => ?_)
      refine lv_icmp_eq (tgt := 688) B.hx B.hb dL_law_683 (by decide) (fun h1 => ?_) (fun h1 => absurd h1 (not_not_intro rfl))
      refine pb_blk B.hx B.hb (lv' := [(6, .int (nI N)), (5, .int (nI 0)), (4, .int (nI i)), (0, .ref b), (1, .ref q), (2, .ref mo), (3, .ref out)]) (st' := [.int (nI 0)]) hl bkL_law_688_690 rfl (fun ls hl => ?_)
      refine lv_if_ne (tgt := 705) B.hx B.hb dL_law_690 (by decide) (fun h2 => absurd h2 (not_not_intro rfl)) (fun h2 => ?_)
      refine pb_blk B.hx B.hb (lv' := [(6, .int (nI N)), (5, .int (nI 0)), (4, .int (nI i)), (0, .ref b), (1, .ref q), (2, .ref mo), (3, .ref out)]) (st' := [.int 0, .ref out]) hl bkL_law_693_695 rfl (fun ls hl => ?_)
      obtain ⟨fo, ho1, ho2⟩ := hO1.kept (he out D.2.2.2.2.2.2.2.2)
      refine z_lald B ho1 (show vp_in (nI 0) 1 from vp_in_nI (by decide) (by decide)) (v := .long (nI N).toInt64) ho2 dL_law_695 ?_
      refine pb_blk B.hx B.hb (lv' := [(6, .int (nI N)), (5, .int (nI 0)), (4, .int (nI i)), (0, .ref b), (1, .ref q), (2, .ref mo), (3, .ref out)]) (st' := [.int (lg_cmp ((nI N).toInt64) (((nI N)).toInt64))]) hl bkL_law_696_700 rfl (fun ls hl => ?_)
      refine lv_if_eq (tgt := 705) B.hx B.hb dL_law_700 (by decide) (fun h3 => ?_) (fun h3 => absurd h3 (not_not_intro ((lg_cmp_eq _ _).mpr rfl)))
      refine pb_blk B.hx B.hb (lv' := [(6, .int (nI N)), (5, .int (nI 0)), (4, .int (nI i)), (0, .ref b), (1, .ref q), (2, .ref mo), (3, .ref out)]) (st' := []) hl bkL_law_705_1590 rfl (fun ls hl => ?_)
      exact kk H2 (N + 1) (upT th N _) as S2 ct2 ls (lw_fin D hE1 hz he hH1 hO1 hms2 hP2 (iv_put hI hR2)) (lv_sub hl [2, 3, 4, 5, 6] rfl)
    · exact absurd rfl h9
  · have hE := hE1
    refine pb_blk B.hx B.hb (lv' := [(5, .int (nI c1)), (4, .int (nI i)), (0, .ref b), (1, .ref q), (2, .ref mo), (3, .ref out)]) (st' := [.int ((nI i) + 1), .ref b, .ref mo]) hl bkL_law_657_665 rfl (fun ls hl => ?_)
    rw [show nI i + 1 = nI (i + 1) from nI_add i 1]
    refine l_scr B hX hbl hE (k := i + 1) (by omega) (by omega) (by omega) dL_law_665 ?_
    refine pb_blk B.hx B.hb (lv' := [(5, .int (nI c1)), (4, .int (nI i)), (0, .ref b), (1, .ref q), (2, .ref mo), (3, .ref out)]) (st' := [.int ((nI i) + 2), .ref b, .int (xs (i + 1)), .ref mo]) hl bkL_law_666_671 rfl (fun ls hl => ?_)
    rw [show nI i + 2 = nI (i + 2) from nI_add i 2]
    refine l_scr B hX hbl hE (k := i + 2) (by omega) (by omega) (by omega) dL_law_671 ?_
    refine l_callM B (c_X6_put l G mo S ct N th as (xs (i + 1)) (xs (i + 2)) hP hB hI.bdm) cy_X6_put im_X6_put se_X6_put wd_M_L_128 hms1 hmo rfl hl.1 rfl (Nat.le_of_ble_eq_true rfl) ⟨by decide, by decide⟩ ⟨rfl, rfl⟩ ⟨by show cells + 300 ≤ 717796; omega, by show slots + 10000 ≤ 6942715; omega⟩ dL_law_672 (fun v H2 S2 ct2 hz he hms2 hv => ?_)
    obtain ⟨c2, t2, hR2, hS2, g3⟩ := hv
    have hcc := hD c1 t2 c2 t2 (hR t2) hR2
    obtain ⟨hc, ht⟩ := hcc
    subst hc
    rcases g3 with ⟨h9, _⟩ | ⟨_, ⟨r9, rfl⟩, hP2⟩
    · exact absurd h9 hc0
    · refine pb_blk B.hx B.hb (lv' := [(6, .int r9), (5, .int (nI c1)), (4, .int (nI i)), (0, .ref b), (1, .ref q), (2, .ref mo), (3, .ref out)]) (st' := [.ref mo]) hl bkL_law_675_678 rfl (fun ls hl => ?_)
      refine n_callV (ci := 5) B (c_X6_thrown l G (fun _ => False) mo S2 ct2 (nI c1) hS2) cy_X6_thrown im_X6_thrown se_X6_thrown wd_M_L_100 rfl hms2.1 hms2 rfl hl.1 rfl (Nat.le_of_ble_eq_true rfl) ⟨by decide, by decide⟩ ⟨by show cells + 300 + 0 ≤ 717796; omega, by show slots + 10000 + 0 ≤ 6942715; omega⟩ dL_law_678 (fun v hv => ?_)
      rw [po_X6_thrown] at hv
      subst hv
      refine pb_blk B.hx B.hb (lv' := [(6, .int r9), (5, .int (nI c1)), (4, .int (nI i)), (0, .ref b), (1, .ref q), (2, .ref mo), (3, .ref out)]) (st' := [.int (nI c1), .int (nI c1)]) hl bkL_law_681_683 rfl (fun ls hl => ?_)
      refine lv_icmp_eq (tgt := 688) B.hx B.hb dL_law_683 (by decide) (fun h1 => ?_) (fun h1 => absurd h1 (not_not_intro rfl))
      refine pb_blk B.hx B.hb (lv' := [(6, .int r9), (5, .int (nI c1)), (4, .int (nI i)), (0, .ref b), (1, .ref q), (2, .ref mo), (3, .ref out)]) (st' := [.int (nI c1)]) hl bkL_law_688_690 rfl (fun ls hl => ?_)
      refine lv_if_ne (tgt := 705) B.hx B.hb dL_law_690 (by decide) (fun h2 => ?_) (fun h2 => absurd h2 (ni_ne hc0 hc4))
      refine pb_blk B.hx B.hb (lv' := [(6, .int r9), (5, .int (nI c1)), (4, .int (nI i)), (0, .ref b), (1, .ref q), (2, .ref mo), (3, .ref out)]) (st' := []) hl bkL_law_705_1590 rfl (fun ls hl => ?_)
      exact kk H2 N th as S2 ct2 ls (lw_fin D hE1 hz he hH1 hO1 hms2 hP2 hI) (lv_sub hl [2, 3, 4, 5, 6] rfl)

theorem bkL_law_708_714 : pb_chk cL_law 708 [.aload_n 1, .aload_n 0, .iload 4, .iconst 1, .iadd] = some 714 := by decide +kernel
theorem dL_law_714 : decode cL_law 714 = .ok (.iaload, 1) := by decide +kernel
theorem bkL_law_715_720 : pb_chk cL_law 715 [.aload_n 0, .iload 4, .iconst 2, .iadd] = some 720 := by decide +kernel
theorem dL_law_720 : decode cL_law 720 = .ok (.iaload, 1) := by decide +kernel
theorem bkL_law_721_722 : pb_chk cL_law 721 [.aload_n 3] = some 722 := by decide +kernel
theorem dL_law_722 : decode cL_law 722 = .ok (.invokestatic 129, 3) := by decide +kernel
theorem bkL_law_725_733 : pb_chk cL_law 725 [.istore 5, .aload_n 2, .aload_n 0, .iload 4, .iconst 1, .iadd] = some 733 := by decide +kernel
theorem dL_law_733 : decode cL_law 733 = .ok (.iaload, 1) := by decide +kernel
theorem bkL_law_734_739 : pb_chk cL_law 734 [.aload_n 0, .iload 4, .iconst 2, .iadd] = some 739 := by decide +kernel
theorem dL_law_739 : decode cL_law 739 = .ok (.iaload, 1) := by decide +kernel
theorem dL_law_740 : decode cL_law 740 = .ok (.invokevirtual 131, 3) := by decide +kernel
theorem bkL_law_743_746 : pb_chk cL_law 743 [.istore 6, .aload_n 2] = some 746 := by decide +kernel
theorem dL_law_746 : decode cL_law 746 = .ok (.invokevirtual 100, 3) := by decide +kernel
theorem bkL_law_749_751 : pb_chk cL_law 749 [.iload 5] = some 751 := by decide +kernel
theorem dL_law_751 : decode cL_law 751 = .ok (.if_icmp .eq 5, 3) := by decide +kernel
theorem bkL_law_756_758 : pb_chk cL_law 756 [.iload 5] = some 758 := by decide +kernel
theorem dL_law_758 : decode cL_law 758 = .ok (.ifCond .ne 15, 3) := by decide +kernel
theorem bkL_law_761_763 : pb_chk cL_law 761 [.aload_n 3, .iconst 0] = some 763 := by decide +kernel
theorem dL_law_763 : decode cL_law 763 = .ok (.laload, 1) := by decide +kernel
theorem bkL_law_764_768 : pb_chk cL_law 764 [.iload 6, .i2l, .lcmp] = some 768 := by decide +kernel
theorem dL_law_768 : decode cL_law 768 = .ok (.ifCond .eq 5, 3) := by decide +kernel
theorem bkL_law_773_1590 : pb_chk cL_law 773 [.goto 817] = some 1590 := by decide +kernel
set_option maxHeartbeats 4000000 in
set_option maxRecDepth 100000 in
theorem lc_where {p : Program} {l : Launch} {e : Env} {s : State} {m : MethodId} {args : Array Value} {below : List Frame} {meth : Method} {c : Code} {G : Gm} {b L q ta out mo N i cells slots : Nat} {xs : Nat → Int32} {th : Nat → Th} {as : St3} {S : Sc} {ct : Ct} {H : Heap} {ls : Array Slot} {Q : State → Prop} (C : LC p l s m args meth c G b L xs) (hW : Lw G s.heap H q ta out mo N th as S ct) (hi : i + 5 ≤ L) (hl : LL ls b q mo out i) (hcs : cells + 300 ≤ 717796 ∧ slots + 10000 ≤ 6942715) (kk : LK p l e s m args below meth c G b q ta out mo i cells slots Q) : W p l e room_1 s m args below meth c H [] cells slots Q (F0 m 708 ls []) := by
  obtain ⟨B, hKT, hst, hX, hbl, hL5⟩ := C
  have hlw := hW
  obtain ⟨hH, hms, hP, ⟨y0, hO⟩, hE, D, hI⟩ := hlw
  have hA := hW.A
  have hB := hI.bds
  have hN := hI.1
  have hmo := D.2.2.2.1
  have hl : lv_has ls 7 [(4, .int (nI i)), (0, .ref b), (1, .ref q), (2, .ref mo), (3, .ref out)] := hl
  refine pb_blk B.hx B.hb (lv' := [(4, .int (nI i)), (0, .ref b), (1, .ref q), (2, .ref mo), (3, .ref out)]) (st' := [.int ((nI i) + 1), .ref b, .ref q]) hl bkL_law_708_714 rfl (fun ls hl => ?_)
  rw [show nI i + 1 = nI (i + 1) from nI_add i 1]
  refine l_scr B hX hbl hE (k := i + 1) (by omega) (by omega) (by omega) dL_law_714 ?_
  refine pb_blk B.hx B.hb (lv' := [(4, .int (nI i)), (0, .ref b), (1, .ref q), (2, .ref mo), (3, .ref out)]) (st' := [.int ((nI i) + 2), .ref b, .int (xs (i + 1)), .ref q]) hl bkL_law_715_720 rfl (fun ls hl => ?_)
  rw [show nI i + 2 = nI (i + 2) from nI_add i 2]
  refine l_scr B hX hbl hE (k := i + 2) (by omega) (by omega) (by omega) dL_law_720 ?_
  refine pb_blk B.hx B.hb (lv' := [(4, .int (nI i)), (0, .ref b), (1, .ref q), (2, .ref mo), (3, .ref out)]) (st' := [.ref out, .int (xs (i + 2)), .int (xs (i + 1)), .ref q]) hl bkL_law_721_722 rfl (fun ls hl => ?_)
  refine l_callS B hKT (c_L_where l hst G (Al q ta out mo) q ta out N th as (xs (i + 1)) (xs (i + 2)) hB (Or.inl (Or.inr (Or.inr rfl))) D.2.2.2.2.1 D.2.2.2.2.2.1) ch_L_where wd_M_L_129 hA ⟨hH, y0, hO⟩ hE rfl hl.1 rfl (Nat.le_of_ble_eq_true rfl) ⟨by decide, by decide⟩ ⟨by show cells + 300 ≤ 717796; omega, by show slots + 10000 ≤ 6942715; omega⟩ dL_law_722 (fw_ge D) (fun v H1 hmv hv => ?_)
  obtain ⟨hms1, hE1⟩ := lw_mid hW hmv
  have hD : Dt (R_where N th (xs (i + 1)) (xs (i + 2))) := dt_where hN
  obtain ⟨c1, rfl, hv⟩ := hv
  rcases hv with ⟨rfl, t, hR, hH1, hO1⟩ | ⟨hc0, hc4, hR, hH1, y1, hO1⟩
  · have hE := hE1
    refine pb_blk B.hx B.hb (lv' := [(5, .int (nI 0)), (4, .int (nI i)), (0, .ref b), (1, .ref q), (2, .ref mo), (3, .ref out)]) (st' := [.int ((nI i) + 1), .ref b, .ref mo]) hl bkL_law_725_733 rfl (fun ls hl => ?_)
    rw [show nI i + 1 = nI (i + 1) from nI_add i 1]
    refine l_scr B hX hbl hE (k := i + 1) (by omega) (by omega) (by omega) dL_law_733 ?_
    refine pb_blk B.hx B.hb (lv' := [(5, .int (nI 0)), (4, .int (nI i)), (0, .ref b), (1, .ref q), (2, .ref mo), (3, .ref out)]) (st' := [.int ((nI i) + 2), .ref b, .int (xs (i + 1)), .ref mo]) hl bkL_law_734_739 rfl (fun ls hl => ?_)
    rw [show nI i + 2 = nI (i + 2) from nI_add i 2]
    refine l_scr B hX hbl hE (k := i + 2) (by omega) (by omega) (by omega) dL_law_739 ?_
    refine l_callM B (c_X6_where l G mo S ct N th as (xs (i + 1)) (xs (i + 2)) hP hB) cy_X6_where im_X6_where se_X6_where wd_M_L_131 hms1 hmo rfl hl.1 rfl (Nat.le_of_ble_eq_true rfl) ⟨by decide, by decide⟩ ⟨rfl, rfl⟩ ⟨by show cells + 300 ≤ 717796; omega, by show slots + 10000 ≤ 6942715; omega⟩ dL_law_740 (fun v H2 S2 ct2 hz he hms2 hv => ?_)
    obtain ⟨c2, t2, hR2, hS2, g3⟩ := hv
    have hcc := hD 0 t c2 t2 hR hR2
    obtain ⟨hc, ht⟩ := hcc
    subst hc
    obtain rfl := ht rfl
    rcases g3 with ⟨_, rfl, hP2⟩ | ⟨h9, _⟩
    · refine pb_blk B.hx B.hb (lv' := [(6, .int (nI N)), (5, .int (nI 0)), (4, .int (nI i)), (0, .ref b), (1, .ref q), (2, .ref mo), (3, .ref out)]) (st' := [.ref mo]) hl bkL_law_743_746 rfl (fun ls hl => ?_)
      refine n_callV (ci := 5) B (c_X6_thrown l G (fun _ => False) mo S2 ct2 (nI 0) hS2) cy_X6_thrown im_X6_thrown se_X6_thrown wd_M_L_100 rfl hms2.1 hms2 rfl hl.1 rfl (Nat.le_of_ble_eq_true rfl) ⟨by decide, by decide⟩ ⟨by show cells + 300 + 0 ≤ 717796; omega, by show slots + 10000 + 0 ≤ 6942715; omega⟩ dL_law_746 (fun v hv => ?_)
      rw [po_X6_thrown] at hv
      subst hv
      refine pb_blk B.hx B.hb (lv' := [(6, .int (nI N)), (5, .int (nI 0)), (4, .int (nI i)), (0, .ref b), (1, .ref q), (2, .ref mo), (3, .ref out)]) (st' := [.int (nI 0), .int (nI 0)]) hl bkL_law_749_751 rfl (fun ls hl => ?_)
      refine lv_icmp_eq (tgt := 756) B.hx B.hb dL_law_751 (by decide) (fun h1 => ?_) (fun h1 => absurd h1 (not_not_intro rfl))
      refine pb_blk B.hx B.hb (lv' := [(6, .int (nI N)), (5, .int (nI 0)), (4, .int (nI i)), (0, .ref b), (1, .ref q), (2, .ref mo), (3, .ref out)]) (st' := [.int (nI 0)]) hl bkL_law_756_758 rfl (fun ls hl => ?_)
      refine lv_if_ne (tgt := 773) B.hx B.hb dL_law_758 (by decide) (fun h2 => absurd h2 (not_not_intro rfl)) (fun h2 => ?_)
      refine pb_blk B.hx B.hb (lv' := [(6, .int (nI N)), (5, .int (nI 0)), (4, .int (nI i)), (0, .ref b), (1, .ref q), (2, .ref mo), (3, .ref out)]) (st' := [.int 0, .ref out]) hl bkL_law_761_763 rfl (fun ls hl => ?_)
      obtain ⟨fo, ho1, ho2⟩ := hO1.kept (he out D.2.2.2.2.2.2.2.2)
      refine z_lald B ho1 (show vp_in (nI 0) 1 from vp_in_nI (by decide) (by decide)) (v := .long (nI N).toInt64) ho2 dL_law_763 ?_
      refine pb_blk B.hx B.hb (lv' := [(6, .int (nI N)), (5, .int (nI 0)), (4, .int (nI i)), (0, .ref b), (1, .ref q), (2, .ref mo), (3, .ref out)]) (st' := [.int (lg_cmp ((nI N).toInt64) (((nI N)).toInt64))]) hl bkL_law_764_768 rfl (fun ls hl => ?_)
      refine lv_if_eq (tgt := 773) B.hx B.hb dL_law_768 (by decide) (fun h3 => ?_) (fun h3 => absurd h3 (not_not_intro ((lg_cmp_eq _ _).mpr rfl)))
      refine pb_blk B.hx B.hb (lv' := [(6, .int (nI N)), (5, .int (nI 0)), (4, .int (nI i)), (0, .ref b), (1, .ref q), (2, .ref mo), (3, .ref out)]) (st' := []) hl bkL_law_773_1590 rfl (fun ls hl => ?_)
      exact kk H2 (N + 1) (upT th N _) as S2 ct2 ls (lw_fin D hE1 hz he hH1 hO1 hms2 hP2 (iv_where hI hR2)) (lv_sub hl [2, 3, 4, 5, 6] rfl)
    · exact absurd rfl h9
  · have hE := hE1
    refine pb_blk B.hx B.hb (lv' := [(5, .int (nI c1)), (4, .int (nI i)), (0, .ref b), (1, .ref q), (2, .ref mo), (3, .ref out)]) (st' := [.int ((nI i) + 1), .ref b, .ref mo]) hl bkL_law_725_733 rfl (fun ls hl => ?_)
    rw [show nI i + 1 = nI (i + 1) from nI_add i 1]
    refine l_scr B hX hbl hE (k := i + 1) (by omega) (by omega) (by omega) dL_law_733 ?_
    refine pb_blk B.hx B.hb (lv' := [(5, .int (nI c1)), (4, .int (nI i)), (0, .ref b), (1, .ref q), (2, .ref mo), (3, .ref out)]) (st' := [.int ((nI i) + 2), .ref b, .int (xs (i + 1)), .ref mo]) hl bkL_law_734_739 rfl (fun ls hl => ?_)
    rw [show nI i + 2 = nI (i + 2) from nI_add i 2]
    refine l_scr B hX hbl hE (k := i + 2) (by omega) (by omega) (by omega) dL_law_739 ?_
    refine l_callM B (c_X6_where l G mo S ct N th as (xs (i + 1)) (xs (i + 2)) hP hB) cy_X6_where im_X6_where se_X6_where wd_M_L_131 hms1 hmo rfl hl.1 rfl (Nat.le_of_ble_eq_true rfl) ⟨by decide, by decide⟩ ⟨rfl, rfl⟩ ⟨by show cells + 300 ≤ 717796; omega, by show slots + 10000 ≤ 6942715; omega⟩ dL_law_740 (fun v H2 S2 ct2 hz he hms2 hv => ?_)
    obtain ⟨c2, t2, hR2, hS2, g3⟩ := hv
    have hcc := hD c1 t2 c2 t2 (hR t2) hR2
    obtain ⟨hc, ht⟩ := hcc
    subst hc
    rcases g3 with ⟨h9, _⟩ | ⟨_, ⟨r9, rfl⟩, hP2⟩
    · exact absurd h9 hc0
    · refine pb_blk B.hx B.hb (lv' := [(6, .int r9), (5, .int (nI c1)), (4, .int (nI i)), (0, .ref b), (1, .ref q), (2, .ref mo), (3, .ref out)]) (st' := [.ref mo]) hl bkL_law_743_746 rfl (fun ls hl => ?_)
      refine n_callV (ci := 5) B (c_X6_thrown l G (fun _ => False) mo S2 ct2 (nI c1) hS2) cy_X6_thrown im_X6_thrown se_X6_thrown wd_M_L_100 rfl hms2.1 hms2 rfl hl.1 rfl (Nat.le_of_ble_eq_true rfl) ⟨by decide, by decide⟩ ⟨by show cells + 300 + 0 ≤ 717796; omega, by show slots + 10000 + 0 ≤ 6942715; omega⟩ dL_law_746 (fun v hv => ?_)
      rw [po_X6_thrown] at hv
      subst hv
      refine pb_blk B.hx B.hb (lv' := [(6, .int r9), (5, .int (nI c1)), (4, .int (nI i)), (0, .ref b), (1, .ref q), (2, .ref mo), (3, .ref out)]) (st' := [.int (nI c1), .int (nI c1)]) hl bkL_law_749_751 rfl (fun ls hl => ?_)
      refine lv_icmp_eq (tgt := 756) B.hx B.hb dL_law_751 (by decide) (fun h1 => ?_) (fun h1 => absurd h1 (not_not_intro rfl))
      refine pb_blk B.hx B.hb (lv' := [(6, .int r9), (5, .int (nI c1)), (4, .int (nI i)), (0, .ref b), (1, .ref q), (2, .ref mo), (3, .ref out)]) (st' := [.int (nI c1)]) hl bkL_law_756_758 rfl (fun ls hl => ?_)
      refine lv_if_ne (tgt := 773) B.hx B.hb dL_law_758 (by decide) (fun h2 => ?_) (fun h2 => absurd h2 (ni_ne hc0 hc4))
      refine pb_blk B.hx B.hb (lv' := [(6, .int r9), (5, .int (nI c1)), (4, .int (nI i)), (0, .ref b), (1, .ref q), (2, .ref mo), (3, .ref out)]) (st' := []) hl bkL_law_773_1590 rfl (fun ls hl => ?_)
      exact kk H2 N th as S2 ct2 ls (lw_fin D hE1 hz he hH1 hO1 hms2 hP2 hI) (lv_sub hl [2, 3, 4, 5, 6] rfl)

theorem bkL_law_776_782 : pb_chk cL_law 776 [.aload_n 1, .aload_n 0, .iload 4, .iconst 1, .iadd] = some 782 := by decide +kernel
theorem dL_law_782 : decode cL_law 782 = .ok (.iaload, 1) := by decide +kernel
theorem bkL_law_783_788 : pb_chk cL_law 783 [.aload_n 0, .iload 4, .iconst 2, .iadd] = some 788 := by decide +kernel
theorem dL_law_788 : decode cL_law 788 = .ok (.iaload, 1) := by decide +kernel
theorem bkL_law_789_790 : pb_chk cL_law 789 [.aload_n 3] = some 790 := by decide +kernel
theorem dL_law_790 : decode cL_law 790 = .ok (.invokestatic 132, 3) := by decide +kernel
theorem bkL_law_793_801 : pb_chk cL_law 793 [.istore 5, .aload_n 2, .aload_n 0, .iload 4, .iconst 1, .iadd] = some 801 := by decide +kernel
theorem dL_law_801 : decode cL_law 801 = .ok (.iaload, 1) := by decide +kernel
theorem bkL_law_802_807 : pb_chk cL_law 802 [.aload_n 0, .iload 4, .iconst 2, .iadd] = some 807 := by decide +kernel
theorem dL_law_807 : decode cL_law 807 = .ok (.iaload, 1) := by decide +kernel
theorem dL_law_808 : decode cL_law 808 = .ok (.invokevirtual 134, 3) := by decide +kernel
theorem bkL_law_811_814 : pb_chk cL_law 811 [.istore 6, .aload_n 2] = some 814 := by decide +kernel
theorem dL_law_814 : decode cL_law 814 = .ok (.invokevirtual 100, 3) := by decide +kernel
theorem bkL_law_817_819 : pb_chk cL_law 817 [.iload 5] = some 819 := by decide +kernel
theorem dL_law_819 : decode cL_law 819 = .ok (.if_icmp .eq 5, 3) := by decide +kernel
theorem bkL_law_824_826 : pb_chk cL_law 824 [.iload 5] = some 826 := by decide +kernel
theorem dL_law_826 : decode cL_law 826 = .ok (.ifCond .ne 15, 3) := by decide +kernel
theorem bkL_law_829_831 : pb_chk cL_law 829 [.aload_n 3, .iconst 0] = some 831 := by decide +kernel
theorem dL_law_831 : decode cL_law 831 = .ok (.laload, 1) := by decide +kernel
theorem bkL_law_832_836 : pb_chk cL_law 832 [.iload 6, .i2l, .lcmp] = some 836 := by decide +kernel
theorem dL_law_836 : decode cL_law 836 = .ok (.ifCond .eq 5, 3) := by decide +kernel
theorem bkL_law_841_1590 : pb_chk cL_law 841 [.goto 749] = some 1590 := by decide +kernel
set_option maxHeartbeats 4000000 in
set_option maxRecDepth 100000 in
theorem lc_both {p : Program} {l : Launch} {e : Env} {s : State} {m : MethodId} {args : Array Value} {below : List Frame} {meth : Method} {c : Code} {G : Gm} {b L q ta out mo N i cells slots : Nat} {xs : Nat → Int32} {th : Nat → Th} {as : St3} {S : Sc} {ct : Ct} {H : Heap} {ls : Array Slot} {Q : State → Prop} (C : LC p l s m args meth c G b L xs) (hW : Lw G s.heap H q ta out mo N th as S ct) (hi : i + 5 ≤ L) (hl : LL ls b q mo out i) (hcs : cells + 300 ≤ 717796 ∧ slots + 10000 ≤ 6942715) (kk : LK p l e s m args below meth c G b q ta out mo i cells slots Q) : W p l e room_1 s m args below meth c H [] cells slots Q (F0 m 776 ls []) := by
  obtain ⟨B, hKT, hst, hX, hbl, hL5⟩ := C
  have hlw := hW
  obtain ⟨hH, hms, hP, ⟨y0, hO⟩, hE, D, hI⟩ := hlw
  have hA := hW.A
  have hB := hI.bds
  have hN := hI.1
  have hmo := D.2.2.2.1
  have hl : lv_has ls 7 [(4, .int (nI i)), (0, .ref b), (1, .ref q), (2, .ref mo), (3, .ref out)] := hl
  refine pb_blk B.hx B.hb (lv' := [(4, .int (nI i)), (0, .ref b), (1, .ref q), (2, .ref mo), (3, .ref out)]) (st' := [.int ((nI i) + 1), .ref b, .ref q]) hl bkL_law_776_782 rfl (fun ls hl => ?_)
  rw [show nI i + 1 = nI (i + 1) from nI_add i 1]
  refine l_scr B hX hbl hE (k := i + 1) (by omega) (by omega) (by omega) dL_law_782 ?_
  refine pb_blk B.hx B.hb (lv' := [(4, .int (nI i)), (0, .ref b), (1, .ref q), (2, .ref mo), (3, .ref out)]) (st' := [.int ((nI i) + 2), .ref b, .int (xs (i + 1)), .ref q]) hl bkL_law_783_788 rfl (fun ls hl => ?_)
  rw [show nI i + 2 = nI (i + 2) from nI_add i 2]
  refine l_scr B hX hbl hE (k := i + 2) (by omega) (by omega) (by omega) dL_law_788 ?_
  refine pb_blk B.hx B.hb (lv' := [(4, .int (nI i)), (0, .ref b), (1, .ref q), (2, .ref mo), (3, .ref out)]) (st' := [.ref out, .int (xs (i + 2)), .int (xs (i + 1)), .ref q]) hl bkL_law_789_790 rfl (fun ls hl => ?_)
  refine l_callS B hKT (c_L_both l hst G (Al q ta out mo) q ta out N th as (xs (i + 1)) (xs (i + 2)) hB (Or.inl (Or.inr (Or.inr rfl))) D.2.2.2.2.1 D.2.2.2.2.2.1) ch_L_both wd_M_L_132 hA ⟨hH, y0, hO⟩ hE rfl hl.1 rfl (Nat.le_of_ble_eq_true rfl) ⟨by decide, by decide⟩ ⟨by show cells + 300 ≤ 717796; omega, by show slots + 10000 ≤ 6942715; omega⟩ dL_law_790 (fw_ge D) (fun v H1 hmv hv => ?_)
  obtain ⟨hms1, hE1⟩ := lw_mid hW hmv
  have hD : Dt (R_join true N th (xs (i + 1)) (xs (i + 2))) := dt_join hN
  obtain ⟨c1, rfl, hv⟩ := hv
  rcases hv with ⟨rfl, t, hR, hH1, hO1⟩ | ⟨hc0, hc4, hR, hH1, y1, hO1⟩
  · have hE := hE1
    refine pb_blk B.hx B.hb (lv' := [(5, .int (nI 0)), (4, .int (nI i)), (0, .ref b), (1, .ref q), (2, .ref mo), (3, .ref out)]) (st' := [.int ((nI i) + 1), .ref b, .ref mo]) hl bkL_law_793_801 rfl (fun ls hl => ?_)
    rw [show nI i + 1 = nI (i + 1) from nI_add i 1]
    refine l_scr B hX hbl hE (k := i + 1) (by omega) (by omega) (by omega) dL_law_801 ?_
    refine pb_blk B.hx B.hb (lv' := [(5, .int (nI 0)), (4, .int (nI i)), (0, .ref b), (1, .ref q), (2, .ref mo), (3, .ref out)]) (st' := [.int ((nI i) + 2), .ref b, .int (xs (i + 1)), .ref mo]) hl bkL_law_802_807 rfl (fun ls hl => ?_)
    rw [show nI i + 2 = nI (i + 2) from nI_add i 2]
    refine l_scr B hX hbl hE (k := i + 2) (by omega) (by omega) (by omega) dL_law_807 ?_
    refine l_callM B (c_X6_both l G mo S ct N th as (xs (i + 1)) (xs (i + 2)) hP hB) cy_X6_both im_X6_both se_X6_both wd_M_L_134 hms1 hmo rfl hl.1 rfl (Nat.le_of_ble_eq_true rfl) ⟨by decide, by decide⟩ ⟨rfl, rfl⟩ ⟨by show cells + 300 ≤ 717796; omega, by show slots + 10000 ≤ 6942715; omega⟩ dL_law_808 (fun v H2 S2 ct2 hz he hms2 hv => ?_)
    obtain ⟨c2, t2, hR2, hS2, g3⟩ := hv
    have hcc := hD 0 t c2 t2 hR hR2
    obtain ⟨hc, ht⟩ := hcc
    subst hc
    obtain rfl := ht rfl
    rcases g3 with ⟨_, rfl, hP2⟩ | ⟨h9, _⟩
    · refine pb_blk B.hx B.hb (lv' := [(6, .int (nI N)), (5, .int (nI 0)), (4, .int (nI i)), (0, .ref b), (1, .ref q), (2, .ref mo), (3, .ref out)]) (st' := [.ref mo]) hl bkL_law_811_814 rfl (fun ls hl => ?_)
      refine n_callV (ci := 5) B (c_X6_thrown l G (fun _ => False) mo S2 ct2 (nI 0) hS2) cy_X6_thrown im_X6_thrown se_X6_thrown wd_M_L_100 rfl hms2.1 hms2 rfl hl.1 rfl (Nat.le_of_ble_eq_true rfl) ⟨by decide, by decide⟩ ⟨by show cells + 300 + 0 ≤ 717796; omega, by show slots + 10000 + 0 ≤ 6942715; omega⟩ dL_law_814 (fun v hv => ?_)
      rw [po_X6_thrown] at hv
      subst hv
      refine pb_blk B.hx B.hb (lv' := [(6, .int (nI N)), (5, .int (nI 0)), (4, .int (nI i)), (0, .ref b), (1, .ref q), (2, .ref mo), (3, .ref out)]) (st' := [.int (nI 0), .int (nI 0)]) hl bkL_law_817_819 rfl (fun ls hl => ?_)
      refine lv_icmp_eq (tgt := 824) B.hx B.hb dL_law_819 (by decide) (fun h1 => ?_) (fun h1 => absurd h1 (not_not_intro rfl))
      refine pb_blk B.hx B.hb (lv' := [(6, .int (nI N)), (5, .int (nI 0)), (4, .int (nI i)), (0, .ref b), (1, .ref q), (2, .ref mo), (3, .ref out)]) (st' := [.int (nI 0)]) hl bkL_law_824_826 rfl (fun ls hl => ?_)
      refine lv_if_ne (tgt := 841) B.hx B.hb dL_law_826 (by decide) (fun h2 => absurd h2 (not_not_intro rfl)) (fun h2 => ?_)
      refine pb_blk B.hx B.hb (lv' := [(6, .int (nI N)), (5, .int (nI 0)), (4, .int (nI i)), (0, .ref b), (1, .ref q), (2, .ref mo), (3, .ref out)]) (st' := [.int 0, .ref out]) hl bkL_law_829_831 rfl (fun ls hl => ?_)
      obtain ⟨fo, ho1, ho2⟩ := hO1.kept (he out D.2.2.2.2.2.2.2.2)
      refine z_lald B ho1 (show vp_in (nI 0) 1 from vp_in_nI (by decide) (by decide)) (v := .long (nI N).toInt64) ho2 dL_law_831 ?_
      refine pb_blk B.hx B.hb (lv' := [(6, .int (nI N)), (5, .int (nI 0)), (4, .int (nI i)), (0, .ref b), (1, .ref q), (2, .ref mo), (3, .ref out)]) (st' := [.int (lg_cmp ((nI N).toInt64) (((nI N)).toInt64))]) hl bkL_law_832_836 rfl (fun ls hl => ?_)
      refine lv_if_eq (tgt := 841) B.hx B.hb dL_law_836 (by decide) (fun h3 => ?_) (fun h3 => absurd h3 (not_not_intro ((lg_cmp_eq _ _).mpr rfl)))
      refine pb_blk B.hx B.hb (lv' := [(6, .int (nI N)), (5, .int (nI 0)), (4, .int (nI i)), (0, .ref b), (1, .ref q), (2, .ref mo), (3, .ref out)]) (st' := []) hl bkL_law_841_1590 rfl (fun ls hl => ?_)
      exact kk H2 (N + 1) (upT th N _) as S2 ct2 ls (lw_fin D hE1 hz he hH1 hO1 hms2 hP2 (iv_join hI hR2)) (lv_sub hl [2, 3, 4, 5, 6] rfl)
    · exact absurd rfl h9
  · have hE := hE1
    refine pb_blk B.hx B.hb (lv' := [(5, .int (nI c1)), (4, .int (nI i)), (0, .ref b), (1, .ref q), (2, .ref mo), (3, .ref out)]) (st' := [.int ((nI i) + 1), .ref b, .ref mo]) hl bkL_law_793_801 rfl (fun ls hl => ?_)
    rw [show nI i + 1 = nI (i + 1) from nI_add i 1]
    refine l_scr B hX hbl hE (k := i + 1) (by omega) (by omega) (by omega) dL_law_801 ?_
    refine pb_blk B.hx B.hb (lv' := [(5, .int (nI c1)), (4, .int (nI i)), (0, .ref b), (1, .ref q), (2, .ref mo), (3, .ref out)]) (st' := [.int ((nI i) + 2), .ref b, .int (xs (i + 1)), .ref mo]) hl bkL_law_802_807 rfl (fun ls hl => ?_)
    rw [show nI i + 2 = nI (i + 2) from nI_add i 2]
    refine l_scr B hX hbl hE (k := i + 2) (by omega) (by omega) (by omega) dL_law_807 ?_
    refine l_callM B (c_X6_both l G mo S ct N th as (xs (i + 1)) (xs (i + 2)) hP hB) cy_X6_both im_X6_both se_X6_both wd_M_L_134 hms1 hmo rfl hl.1 rfl (Nat.le_of_ble_eq_true rfl) ⟨by decide, by decide⟩ ⟨rfl, rfl⟩ ⟨by show cells + 300 ≤ 717796; omega, by show slots + 10000 ≤ 6942715; omega⟩ dL_law_808 (fun v H2 S2 ct2 hz he hms2 hv => ?_)
    obtain ⟨c2, t2, hR2, hS2, g3⟩ := hv
    have hcc := hD c1 t2 c2 t2 (hR t2) hR2
    obtain ⟨hc, ht⟩ := hcc
    subst hc
    rcases g3 with ⟨h9, _⟩ | ⟨_, ⟨r9, rfl⟩, hP2⟩
    · exact absurd h9 hc0
    · refine pb_blk B.hx B.hb (lv' := [(6, .int r9), (5, .int (nI c1)), (4, .int (nI i)), (0, .ref b), (1, .ref q), (2, .ref mo), (3, .ref out)]) (st' := [.ref mo]) hl bkL_law_811_814 rfl (fun ls hl => ?_)
      refine n_callV (ci := 5) B (c_X6_thrown l G (fun _ => False) mo S2 ct2 (nI c1) hS2) cy_X6_thrown im_X6_thrown se_X6_thrown wd_M_L_100 rfl hms2.1 hms2 rfl hl.1 rfl (Nat.le_of_ble_eq_true rfl) ⟨by decide, by decide⟩ ⟨by show cells + 300 + 0 ≤ 717796; omega, by show slots + 10000 + 0 ≤ 6942715; omega⟩ dL_law_814 (fun v hv => ?_)
      rw [po_X6_thrown] at hv
      subst hv
      refine pb_blk B.hx B.hb (lv' := [(6, .int r9), (5, .int (nI c1)), (4, .int (nI i)), (0, .ref b), (1, .ref q), (2, .ref mo), (3, .ref out)]) (st' := [.int (nI c1), .int (nI c1)]) hl bkL_law_817_819 rfl (fun ls hl => ?_)
      refine lv_icmp_eq (tgt := 824) B.hx B.hb dL_law_819 (by decide) (fun h1 => ?_) (fun h1 => absurd h1 (not_not_intro rfl))
      refine pb_blk B.hx B.hb (lv' := [(6, .int r9), (5, .int (nI c1)), (4, .int (nI i)), (0, .ref b), (1, .ref q), (2, .ref mo), (3, .ref out)]) (st' := [.int (nI c1)]) hl bkL_law_824_826 rfl (fun ls hl => ?_)
      refine lv_if_ne (tgt := 841) B.hx B.hb dL_law_826 (by decide) (fun h2 => ?_) (fun h2 => absurd h2 (ni_ne hc0 hc4))
      refine pb_blk B.hx B.hb (lv' := [(6, .int r9), (5, .int (nI c1)), (4, .int (nI i)), (0, .ref b), (1, .ref q), (2, .ref mo), (3, .ref out)]) (st' := []) hl bkL_law_841_1590 rfl (fun ls hl => ?_)
      exact kk H2 N th as S2 ct2 ls (lw_fin D hE1 hz he hH1 hO1 hms2 hP2 hI) (lv_sub hl [2, 3, 4, 5, 6] rfl)

theorem bkL_law_844_850 : pb_chk cL_law 844 [.aload_n 1, .aload_n 0, .iload 4, .iconst 1, .iadd] = some 850 := by decide +kernel
theorem dL_law_850 : decode cL_law 850 = .ok (.iaload, 1) := by decide +kernel
theorem bkL_law_851_856 : pb_chk cL_law 851 [.aload_n 0, .iload 4, .iconst 2, .iadd] = some 856 := by decide +kernel
theorem dL_law_856 : decode cL_law 856 = .ok (.iaload, 1) := by decide +kernel
theorem bkL_law_857_858 : pb_chk cL_law 857 [.aload_n 3] = some 858 := by decide +kernel
theorem dL_law_858 : decode cL_law 858 = .ok (.invokestatic 135, 3) := by decide +kernel
theorem bkL_law_861_869 : pb_chk cL_law 861 [.istore 5, .aload_n 2, .aload_n 0, .iload 4, .iconst 1, .iadd] = some 869 := by decide +kernel
theorem dL_law_869 : decode cL_law 869 = .ok (.iaload, 1) := by decide +kernel
theorem bkL_law_870_875 : pb_chk cL_law 870 [.aload_n 0, .iload 4, .iconst 2, .iadd] = some 875 := by decide +kernel
theorem dL_law_875 : decode cL_law 875 = .ok (.iaload, 1) := by decide +kernel
theorem dL_law_876 : decode cL_law 876 = .ok (.invokevirtual 137, 3) := by decide +kernel
theorem bkL_law_879_882 : pb_chk cL_law 879 [.istore 6, .aload_n 2] = some 882 := by decide +kernel
theorem dL_law_882 : decode cL_law 882 = .ok (.invokevirtual 100, 3) := by decide +kernel
theorem bkL_law_885_887 : pb_chk cL_law 885 [.iload 5] = some 887 := by decide +kernel
theorem dL_law_887 : decode cL_law 887 = .ok (.if_icmp .eq 5, 3) := by decide +kernel
theorem bkL_law_892_894 : pb_chk cL_law 892 [.iload 5] = some 894 := by decide +kernel
theorem dL_law_894 : decode cL_law 894 = .ok (.ifCond .ne 15, 3) := by decide +kernel
theorem bkL_law_897_899 : pb_chk cL_law 897 [.aload_n 3, .iconst 0] = some 899 := by decide +kernel
theorem dL_law_899 : decode cL_law 899 = .ok (.laload, 1) := by decide +kernel
theorem bkL_law_900_904 : pb_chk cL_law 900 [.iload 6, .i2l, .lcmp] = some 904 := by decide +kernel
theorem dL_law_904 : decode cL_law 904 = .ok (.ifCond .eq 5, 3) := by decide +kernel
theorem bkL_law_909_1590 : pb_chk cL_law 909 [.goto 681] = some 1590 := by decide +kernel
set_option maxHeartbeats 4000000 in
set_option maxRecDepth 100000 in
theorem lc_either {p : Program} {l : Launch} {e : Env} {s : State} {m : MethodId} {args : Array Value} {below : List Frame} {meth : Method} {c : Code} {G : Gm} {b L q ta out mo N i cells slots : Nat} {xs : Nat → Int32} {th : Nat → Th} {as : St3} {S : Sc} {ct : Ct} {H : Heap} {ls : Array Slot} {Q : State → Prop} (C : LC p l s m args meth c G b L xs) (hW : Lw G s.heap H q ta out mo N th as S ct) (hi : i + 5 ≤ L) (hl : LL ls b q mo out i) (hcs : cells + 300 ≤ 717796 ∧ slots + 10000 ≤ 6942715) (kk : LK p l e s m args below meth c G b q ta out mo i cells slots Q) : W p l e room_1 s m args below meth c H [] cells slots Q (F0 m 844 ls []) := by
  obtain ⟨B, hKT, hst, hX, hbl, hL5⟩ := C
  have hlw := hW
  obtain ⟨hH, hms, hP, ⟨y0, hO⟩, hE, D, hI⟩ := hlw
  have hA := hW.A
  have hB := hI.bds
  have hN := hI.1
  have hmo := D.2.2.2.1
  have hl : lv_has ls 7 [(4, .int (nI i)), (0, .ref b), (1, .ref q), (2, .ref mo), (3, .ref out)] := hl
  refine pb_blk B.hx B.hb (lv' := [(4, .int (nI i)), (0, .ref b), (1, .ref q), (2, .ref mo), (3, .ref out)]) (st' := [.int ((nI i) + 1), .ref b, .ref q]) hl bkL_law_844_850 rfl (fun ls hl => ?_)
  rw [show nI i + 1 = nI (i + 1) from nI_add i 1]
  refine l_scr B hX hbl hE (k := i + 1) (by omega) (by omega) (by omega) dL_law_850 ?_
  refine pb_blk B.hx B.hb (lv' := [(4, .int (nI i)), (0, .ref b), (1, .ref q), (2, .ref mo), (3, .ref out)]) (st' := [.int ((nI i) + 2), .ref b, .int (xs (i + 1)), .ref q]) hl bkL_law_851_856 rfl (fun ls hl => ?_)
  rw [show nI i + 2 = nI (i + 2) from nI_add i 2]
  refine l_scr B hX hbl hE (k := i + 2) (by omega) (by omega) (by omega) dL_law_856 ?_
  refine pb_blk B.hx B.hb (lv' := [(4, .int (nI i)), (0, .ref b), (1, .ref q), (2, .ref mo), (3, .ref out)]) (st' := [.ref out, .int (xs (i + 2)), .int (xs (i + 1)), .ref q]) hl bkL_law_857_858 rfl (fun ls hl => ?_)
  refine l_callS B hKT (c_L_either l hst G (Al q ta out mo) q ta out N th as (xs (i + 1)) (xs (i + 2)) hB (Or.inl (Or.inr (Or.inr rfl))) D.2.2.2.2.1 D.2.2.2.2.2.1) ch_L_either wd_M_L_135 hA ⟨hH, y0, hO⟩ hE rfl hl.1 rfl (Nat.le_of_ble_eq_true rfl) ⟨by decide, by decide⟩ ⟨by show cells + 300 ≤ 717796; omega, by show slots + 10000 ≤ 6942715; omega⟩ dL_law_858 (fw_ge D) (fun v H1 hmv hv => ?_)
  obtain ⟨hms1, hE1⟩ := lw_mid hW hmv
  have hD : Dt (R_join false N th (xs (i + 1)) (xs (i + 2))) := dt_join hN
  obtain ⟨c1, rfl, hv⟩ := hv
  rcases hv with ⟨rfl, t, hR, hH1, hO1⟩ | ⟨hc0, hc4, hR, hH1, y1, hO1⟩
  · have hE := hE1
    refine pb_blk B.hx B.hb (lv' := [(5, .int (nI 0)), (4, .int (nI i)), (0, .ref b), (1, .ref q), (2, .ref mo), (3, .ref out)]) (st' := [.int ((nI i) + 1), .ref b, .ref mo]) hl bkL_law_861_869 rfl (fun ls hl => ?_)
    rw [show nI i + 1 = nI (i + 1) from nI_add i 1]
    refine l_scr B hX hbl hE (k := i + 1) (by omega) (by omega) (by omega) dL_law_869 ?_
    refine pb_blk B.hx B.hb (lv' := [(5, .int (nI 0)), (4, .int (nI i)), (0, .ref b), (1, .ref q), (2, .ref mo), (3, .ref out)]) (st' := [.int ((nI i) + 2), .ref b, .int (xs (i + 1)), .ref mo]) hl bkL_law_870_875 rfl (fun ls hl => ?_)
    rw [show nI i + 2 = nI (i + 2) from nI_add i 2]
    refine l_scr B hX hbl hE (k := i + 2) (by omega) (by omega) (by omega) dL_law_875 ?_
    refine l_callM B (c_X6_either l G mo S ct N th as (xs (i + 1)) (xs (i + 2)) hP hB) cy_X6_either im_X6_either se_X6_either wd_M_L_137 hms1 hmo rfl hl.1 rfl (Nat.le_of_ble_eq_true rfl) ⟨by decide, by decide⟩ ⟨rfl, rfl⟩ ⟨by show cells + 300 ≤ 717796; omega, by show slots + 10000 ≤ 6942715; omega⟩ dL_law_876 (fun v H2 S2 ct2 hz he hms2 hv => ?_)
    obtain ⟨c2, t2, hR2, hS2, g3⟩ := hv
    have hcc := hD 0 t c2 t2 hR hR2
    obtain ⟨hc, ht⟩ := hcc
    subst hc
    obtain rfl := ht rfl
    rcases g3 with ⟨_, rfl, hP2⟩ | ⟨h9, _⟩
    · refine pb_blk B.hx B.hb (lv' := [(6, .int (nI N)), (5, .int (nI 0)), (4, .int (nI i)), (0, .ref b), (1, .ref q), (2, .ref mo), (3, .ref out)]) (st' := [.ref mo]) hl bkL_law_879_882 rfl (fun ls hl => ?_)
      refine n_callV (ci := 5) B (c_X6_thrown l G (fun _ => False) mo S2 ct2 (nI 0) hS2) cy_X6_thrown im_X6_thrown se_X6_thrown wd_M_L_100 rfl hms2.1 hms2 rfl hl.1 rfl (Nat.le_of_ble_eq_true rfl) ⟨by decide, by decide⟩ ⟨by show cells + 300 + 0 ≤ 717796; omega, by show slots + 10000 + 0 ≤ 6942715; omega⟩ dL_law_882 (fun v hv => ?_)
      rw [po_X6_thrown] at hv
      subst hv
      refine pb_blk B.hx B.hb (lv' := [(6, .int (nI N)), (5, .int (nI 0)), (4, .int (nI i)), (0, .ref b), (1, .ref q), (2, .ref mo), (3, .ref out)]) (st' := [.int (nI 0), .int (nI 0)]) hl bkL_law_885_887 rfl (fun ls hl => ?_)
      refine lv_icmp_eq (tgt := 892) B.hx B.hb dL_law_887 (by decide) (fun h1 => ?_) (fun h1 => absurd h1 (not_not_intro rfl))
      refine pb_blk B.hx B.hb (lv' := [(6, .int (nI N)), (5, .int (nI 0)), (4, .int (nI i)), (0, .ref b), (1, .ref q), (2, .ref mo), (3, .ref out)]) (st' := [.int (nI 0)]) hl bkL_law_892_894 rfl (fun ls hl => ?_)
      refine lv_if_ne (tgt := 909) B.hx B.hb dL_law_894 (by decide) (fun h2 => absurd h2 (not_not_intro rfl)) (fun h2 => ?_)
      refine pb_blk B.hx B.hb (lv' := [(6, .int (nI N)), (5, .int (nI 0)), (4, .int (nI i)), (0, .ref b), (1, .ref q), (2, .ref mo), (3, .ref out)]) (st' := [.int 0, .ref out]) hl bkL_law_897_899 rfl (fun ls hl => ?_)
      obtain ⟨fo, ho1, ho2⟩ := hO1.kept (he out D.2.2.2.2.2.2.2.2)
      refine z_lald B ho1 (show vp_in (nI 0) 1 from vp_in_nI (by decide) (by decide)) (v := .long (nI N).toInt64) ho2 dL_law_899 ?_
      refine pb_blk B.hx B.hb (lv' := [(6, .int (nI N)), (5, .int (nI 0)), (4, .int (nI i)), (0, .ref b), (1, .ref q), (2, .ref mo), (3, .ref out)]) (st' := [.int (lg_cmp ((nI N).toInt64) (((nI N)).toInt64))]) hl bkL_law_900_904 rfl (fun ls hl => ?_)
      refine lv_if_eq (tgt := 909) B.hx B.hb dL_law_904 (by decide) (fun h3 => ?_) (fun h3 => absurd h3 (not_not_intro ((lg_cmp_eq _ _).mpr rfl)))
      refine pb_blk B.hx B.hb (lv' := [(6, .int (nI N)), (5, .int (nI 0)), (4, .int (nI i)), (0, .ref b), (1, .ref q), (2, .ref mo), (3, .ref out)]) (st' := []) hl bkL_law_909_1590 rfl (fun ls hl => ?_)
      exact kk H2 (N + 1) (upT th N _) as S2 ct2 ls (lw_fin D hE1 hz he hH1 hO1 hms2 hP2 (iv_join hI hR2)) (lv_sub hl [2, 3, 4, 5, 6] rfl)
    · exact absurd rfl h9
  · have hE := hE1
    refine pb_blk B.hx B.hb (lv' := [(5, .int (nI c1)), (4, .int (nI i)), (0, .ref b), (1, .ref q), (2, .ref mo), (3, .ref out)]) (st' := [.int ((nI i) + 1), .ref b, .ref mo]) hl bkL_law_861_869 rfl (fun ls hl => ?_)
    rw [show nI i + 1 = nI (i + 1) from nI_add i 1]
    refine l_scr B hX hbl hE (k := i + 1) (by omega) (by omega) (by omega) dL_law_869 ?_
    refine pb_blk B.hx B.hb (lv' := [(5, .int (nI c1)), (4, .int (nI i)), (0, .ref b), (1, .ref q), (2, .ref mo), (3, .ref out)]) (st' := [.int ((nI i) + 2), .ref b, .int (xs (i + 1)), .ref mo]) hl bkL_law_870_875 rfl (fun ls hl => ?_)
    rw [show nI i + 2 = nI (i + 2) from nI_add i 2]
    refine l_scr B hX hbl hE (k := i + 2) (by omega) (by omega) (by omega) dL_law_875 ?_
    refine l_callM B (c_X6_either l G mo S ct N th as (xs (i + 1)) (xs (i + 2)) hP hB) cy_X6_either im_X6_either se_X6_either wd_M_L_137 hms1 hmo rfl hl.1 rfl (Nat.le_of_ble_eq_true rfl) ⟨by decide, by decide⟩ ⟨rfl, rfl⟩ ⟨by show cells + 300 ≤ 717796; omega, by show slots + 10000 ≤ 6942715; omega⟩ dL_law_876 (fun v H2 S2 ct2 hz he hms2 hv => ?_)
    obtain ⟨c2, t2, hR2, hS2, g3⟩ := hv
    have hcc := hD c1 t2 c2 t2 (hR t2) hR2
    obtain ⟨hc, ht⟩ := hcc
    subst hc
    rcases g3 with ⟨h9, _⟩ | ⟨_, ⟨r9, rfl⟩, hP2⟩
    · exact absurd h9 hc0
    · refine pb_blk B.hx B.hb (lv' := [(6, .int r9), (5, .int (nI c1)), (4, .int (nI i)), (0, .ref b), (1, .ref q), (2, .ref mo), (3, .ref out)]) (st' := [.ref mo]) hl bkL_law_879_882 rfl (fun ls hl => ?_)
      refine n_callV (ci := 5) B (c_X6_thrown l G (fun _ => False) mo S2 ct2 (nI c1) hS2) cy_X6_thrown im_X6_thrown se_X6_thrown wd_M_L_100 rfl hms2.1 hms2 rfl hl.1 rfl (Nat.le_of_ble_eq_true rfl) ⟨by decide, by decide⟩ ⟨by show cells + 300 + 0 ≤ 717796; omega, by show slots + 10000 + 0 ≤ 6942715; omega⟩ dL_law_882 (fun v hv => ?_)
      rw [po_X6_thrown] at hv
      subst hv
      refine pb_blk B.hx B.hb (lv' := [(6, .int r9), (5, .int (nI c1)), (4, .int (nI i)), (0, .ref b), (1, .ref q), (2, .ref mo), (3, .ref out)]) (st' := [.int (nI c1), .int (nI c1)]) hl bkL_law_885_887 rfl (fun ls hl => ?_)
      refine lv_icmp_eq (tgt := 892) B.hx B.hb dL_law_887 (by decide) (fun h1 => ?_) (fun h1 => absurd h1 (not_not_intro rfl))
      refine pb_blk B.hx B.hb (lv' := [(6, .int r9), (5, .int (nI c1)), (4, .int (nI i)), (0, .ref b), (1, .ref q), (2, .ref mo), (3, .ref out)]) (st' := [.int (nI c1)]) hl bkL_law_892_894 rfl (fun ls hl => ?_)
      refine lv_if_ne (tgt := 909) B.hx B.hb dL_law_894 (by decide) (fun h2 => ?_) (fun h2 => absurd h2 (ni_ne hc0 hc4))
      refine pb_blk B.hx B.hb (lv' := [(6, .int r9), (5, .int (nI c1)), (4, .int (nI i)), (0, .ref b), (1, .ref q), (2, .ref mo), (3, .ref out)]) (st' := []) hl bkL_law_909_1590 rfl (fun ls hl => ?_)
      exact kk H2 N th as S2 ct2 ls (lw_fin D hE1 hz he hH1 hO1 hms2 hP2 hI) (lv_sub hl [2, 3, 4, 5, 6] rfl)

theorem bkL_law_912_918 : pb_chk cL_law 912 [.aload_n 1, .aload_n 0, .iload 4, .iconst 1, .iadd] = some 918 := by decide +kernel
theorem dL_law_918 : decode cL_law 918 = .ok (.iaload, 1) := by decide +kernel
theorem bkL_law_919_920 : pb_chk cL_law 919 [.aload_n 3] = some 920 := by decide +kernel
theorem dL_law_920 : decode cL_law 920 = .ok (.invokestatic 138, 3) := by decide +kernel
theorem bkL_law_923_931 : pb_chk cL_law 923 [.istore 5, .aload_n 2, .aload_n 0, .iload 4, .iconst 1, .iadd] = some 931 := by decide +kernel
theorem dL_law_931 : decode cL_law 931 = .ok (.iaload, 1) := by decide +kernel
theorem dL_law_932 : decode cL_law 932 = .ok (.invokevirtual 140, 3) := by decide +kernel
theorem bkL_law_935_938 : pb_chk cL_law 935 [.istore 6, .aload_n 2] = some 938 := by decide +kernel
theorem dL_law_938 : decode cL_law 938 = .ok (.invokevirtual 100, 3) := by decide +kernel
theorem bkL_law_941_943 : pb_chk cL_law 941 [.iload 5] = some 943 := by decide +kernel
theorem dL_law_943 : decode cL_law 943 = .ok (.if_icmp .eq 5, 3) := by decide +kernel
theorem bkL_law_948_950 : pb_chk cL_law 948 [.iload 5] = some 950 := by decide +kernel
theorem dL_law_950 : decode cL_law 950 = .ok (.ifCond .ne 15, 3) := by decide +kernel
theorem bkL_law_953_955 : pb_chk cL_law 953 [.aload_n 3, .iconst 0] = some 955 := by decide +kernel
theorem dL_law_955 : decode cL_law 955 = .ok (.laload, 1) := by decide +kernel
theorem bkL_law_956_960 : pb_chk cL_law 956 [.iload 6, .i2l, .lcmp] = some 960 := by decide +kernel
theorem dL_law_960 : decode cL_law 960 = .ok (.ifCond .eq 5, 3) := by decide +kernel
theorem bkL_law_965_1590 : pb_chk cL_law 965 [.goto 625] = some 1590 := by decide +kernel
set_option maxHeartbeats 4000000 in
set_option maxRecDepth 100000 in
theorem lc_other {p : Program} {l : Launch} {e : Env} {s : State} {m : MethodId} {args : Array Value} {below : List Frame} {meth : Method} {c : Code} {G : Gm} {b L q ta out mo N i cells slots : Nat} {xs : Nat → Int32} {th : Nat → Th} {as : St3} {S : Sc} {ct : Ct} {H : Heap} {ls : Array Slot} {Q : State → Prop} (C : LC p l s m args meth c G b L xs) (hW : Lw G s.heap H q ta out mo N th as S ct) (hi : i + 5 ≤ L) (hl : LL ls b q mo out i) (hcs : cells + 300 ≤ 717796 ∧ slots + 10000 ≤ 6942715) (kk : LK p l e s m args below meth c G b q ta out mo i cells slots Q) : W p l e room_1 s m args below meth c H [] cells slots Q (F0 m 912 ls []) := by
  obtain ⟨B, hKT, hst, hX, hbl, hL5⟩ := C
  have hlw := hW
  obtain ⟨hH, hms, hP, ⟨y0, hO⟩, hE, D, hI⟩ := hlw
  have hA := hW.A
  have hB := hI.bds
  have hN := hI.1
  have hmo := D.2.2.2.1
  have hl : lv_has ls 7 [(4, .int (nI i)), (0, .ref b), (1, .ref q), (2, .ref mo), (3, .ref out)] := hl
  refine pb_blk B.hx B.hb (lv' := [(4, .int (nI i)), (0, .ref b), (1, .ref q), (2, .ref mo), (3, .ref out)]) (st' := [.int ((nI i) + 1), .ref b, .ref q]) hl bkL_law_912_918 rfl (fun ls hl => ?_)
  rw [show nI i + 1 = nI (i + 1) from nI_add i 1]
  refine l_scr B hX hbl hE (k := i + 1) (by omega) (by omega) (by omega) dL_law_918 ?_
  refine pb_blk B.hx B.hb (lv' := [(4, .int (nI i)), (0, .ref b), (1, .ref q), (2, .ref mo), (3, .ref out)]) (st' := [.ref out, .int (xs (i + 1)), .ref q]) hl bkL_law_919_920 rfl (fun ls hl => ?_)
  refine l_callS B hKT (c_L_other l hst G (Al q ta out mo) q ta out N th as (xs (i + 1)) hB (Or.inl (Or.inr (Or.inr rfl))) D.2.2.2.2.1 D.2.2.2.2.2.1) ch_L_other wd_M_L_138 hA ⟨hH, y0, hO⟩ hE rfl hl.1 rfl (Nat.le_of_ble_eq_true rfl) ⟨by decide, by decide⟩ ⟨by show cells + 300 ≤ 717796; omega, by show slots + 10000 ≤ 6942715; omega⟩ dL_law_920 (fw_ge D) (fun v H1 hmv hv => ?_)
  obtain ⟨hms1, hE1⟩ := lw_mid hW hmv
  have hD : Dt (R_other N th (xs (i + 1))) := dt_other hN
  obtain ⟨c1, rfl, hv⟩ := hv
  rcases hv with ⟨rfl, t, hR, hH1, hO1⟩ | ⟨hc0, hc4, hR, hH1, y1, hO1⟩
  · have hE := hE1
    refine pb_blk B.hx B.hb (lv' := [(5, .int (nI 0)), (4, .int (nI i)), (0, .ref b), (1, .ref q), (2, .ref mo), (3, .ref out)]) (st' := [.int ((nI i) + 1), .ref b, .ref mo]) hl bkL_law_923_931 rfl (fun ls hl => ?_)
    rw [show nI i + 1 = nI (i + 1) from nI_add i 1]
    refine l_scr B hX hbl hE (k := i + 1) (by omega) (by omega) (by omega) dL_law_931 ?_
    refine l_callM B (c_X6_other l G mo S ct N th as (xs (i + 1)) hP hB hI.cg) cy_X6_other im_X6_other se_X6_other wd_M_L_140 hms1 hmo rfl hl.1 rfl (Nat.le_of_ble_eq_true rfl) ⟨by decide, by decide⟩ ⟨rfl, rfl⟩ ⟨by show cells + 300 ≤ 717796; omega, by show slots + 10000 ≤ 6942715; omega⟩ dL_law_932 (fun v H2 S2 ct2 hz he hms2 hv => ?_)
    obtain ⟨c2, t2, hR2, hS2, g3⟩ := hv
    have hcc := hD 0 t c2 t2 hR hR2
    obtain ⟨hc, ht⟩ := hcc
    subst hc
    obtain rfl := ht rfl
    rcases g3 with ⟨_, rfl, hP2⟩ | ⟨h9, _⟩
    · refine pb_blk B.hx B.hb (lv' := [(6, .int (nI N)), (5, .int (nI 0)), (4, .int (nI i)), (0, .ref b), (1, .ref q), (2, .ref mo), (3, .ref out)]) (st' := [.ref mo]) hl bkL_law_935_938 rfl (fun ls hl => ?_)
      refine n_callV (ci := 5) B (c_X6_thrown l G (fun _ => False) mo S2 ct2 (nI 0) hS2) cy_X6_thrown im_X6_thrown se_X6_thrown wd_M_L_100 rfl hms2.1 hms2 rfl hl.1 rfl (Nat.le_of_ble_eq_true rfl) ⟨by decide, by decide⟩ ⟨by show cells + 300 + 0 ≤ 717796; omega, by show slots + 10000 + 0 ≤ 6942715; omega⟩ dL_law_938 (fun v hv => ?_)
      rw [po_X6_thrown] at hv
      subst hv
      refine pb_blk B.hx B.hb (lv' := [(6, .int (nI N)), (5, .int (nI 0)), (4, .int (nI i)), (0, .ref b), (1, .ref q), (2, .ref mo), (3, .ref out)]) (st' := [.int (nI 0), .int (nI 0)]) hl bkL_law_941_943 rfl (fun ls hl => ?_)
      refine lv_icmp_eq (tgt := 948) B.hx B.hb dL_law_943 (by decide) (fun h1 => ?_) (fun h1 => absurd h1 (not_not_intro rfl))
      refine pb_blk B.hx B.hb (lv' := [(6, .int (nI N)), (5, .int (nI 0)), (4, .int (nI i)), (0, .ref b), (1, .ref q), (2, .ref mo), (3, .ref out)]) (st' := [.int (nI 0)]) hl bkL_law_948_950 rfl (fun ls hl => ?_)
      refine lv_if_ne (tgt := 965) B.hx B.hb dL_law_950 (by decide) (fun h2 => absurd h2 (not_not_intro rfl)) (fun h2 => ?_)
      refine pb_blk B.hx B.hb (lv' := [(6, .int (nI N)), (5, .int (nI 0)), (4, .int (nI i)), (0, .ref b), (1, .ref q), (2, .ref mo), (3, .ref out)]) (st' := [.int 0, .ref out]) hl bkL_law_953_955 rfl (fun ls hl => ?_)
      obtain ⟨fo, ho1, ho2⟩ := hO1.kept (he out D.2.2.2.2.2.2.2.2)
      refine z_lald B ho1 (show vp_in (nI 0) 1 from vp_in_nI (by decide) (by decide)) (v := .long (nI N).toInt64) ho2 dL_law_955 ?_
      refine pb_blk B.hx B.hb (lv' := [(6, .int (nI N)), (5, .int (nI 0)), (4, .int (nI i)), (0, .ref b), (1, .ref q), (2, .ref mo), (3, .ref out)]) (st' := [.int (lg_cmp ((nI N).toInt64) (((nI N)).toInt64))]) hl bkL_law_956_960 rfl (fun ls hl => ?_)
      refine lv_if_eq (tgt := 965) B.hx B.hb dL_law_960 (by decide) (fun h3 => ?_) (fun h3 => absurd h3 (not_not_intro ((lg_cmp_eq _ _).mpr rfl)))
      refine pb_blk B.hx B.hb (lv' := [(6, .int (nI N)), (5, .int (nI 0)), (4, .int (nI i)), (0, .ref b), (1, .ref q), (2, .ref mo), (3, .ref out)]) (st' := []) hl bkL_law_965_1590 rfl (fun ls hl => ?_)
      exact kk H2 (N + 1) (upT th N _) as S2 ct2 ls (lw_fin D hE1 hz he hH1 hO1 hms2 hP2 (iv_other hI hR2)) (lv_sub hl [2, 3, 4, 5, 6] rfl)
    · exact absurd rfl h9
  · have hE := hE1
    refine pb_blk B.hx B.hb (lv' := [(5, .int (nI c1)), (4, .int (nI i)), (0, .ref b), (1, .ref q), (2, .ref mo), (3, .ref out)]) (st' := [.int ((nI i) + 1), .ref b, .ref mo]) hl bkL_law_923_931 rfl (fun ls hl => ?_)
    rw [show nI i + 1 = nI (i + 1) from nI_add i 1]
    refine l_scr B hX hbl hE (k := i + 1) (by omega) (by omega) (by omega) dL_law_931 ?_
    refine l_callM B (c_X6_other l G mo S ct N th as (xs (i + 1)) hP hB hI.cg) cy_X6_other im_X6_other se_X6_other wd_M_L_140 hms1 hmo rfl hl.1 rfl (Nat.le_of_ble_eq_true rfl) ⟨by decide, by decide⟩ ⟨rfl, rfl⟩ ⟨by show cells + 300 ≤ 717796; omega, by show slots + 10000 ≤ 6942715; omega⟩ dL_law_932 (fun v H2 S2 ct2 hz he hms2 hv => ?_)
    obtain ⟨c2, t2, hR2, hS2, g3⟩ := hv
    have hcc := hD c1 t2 c2 t2 (hR t2) hR2
    obtain ⟨hc, ht⟩ := hcc
    subst hc
    rcases g3 with ⟨h9, _⟩ | ⟨_, ⟨r9, rfl⟩, hP2⟩
    · exact absurd h9 hc0
    · refine pb_blk B.hx B.hb (lv' := [(6, .int r9), (5, .int (nI c1)), (4, .int (nI i)), (0, .ref b), (1, .ref q), (2, .ref mo), (3, .ref out)]) (st' := [.ref mo]) hl bkL_law_935_938 rfl (fun ls hl => ?_)
      refine n_callV (ci := 5) B (c_X6_thrown l G (fun _ => False) mo S2 ct2 (nI c1) hS2) cy_X6_thrown im_X6_thrown se_X6_thrown wd_M_L_100 rfl hms2.1 hms2 rfl hl.1 rfl (Nat.le_of_ble_eq_true rfl) ⟨by decide, by decide⟩ ⟨by show cells + 300 + 0 ≤ 717796; omega, by show slots + 10000 + 0 ≤ 6942715; omega⟩ dL_law_938 (fun v hv => ?_)
      rw [po_X6_thrown] at hv
      subst hv
      refine pb_blk B.hx B.hb (lv' := [(6, .int r9), (5, .int (nI c1)), (4, .int (nI i)), (0, .ref b), (1, .ref q), (2, .ref mo), (3, .ref out)]) (st' := [.int (nI c1), .int (nI c1)]) hl bkL_law_941_943 rfl (fun ls hl => ?_)
      refine lv_icmp_eq (tgt := 948) B.hx B.hb dL_law_943 (by decide) (fun h1 => ?_) (fun h1 => absurd h1 (not_not_intro rfl))
      refine pb_blk B.hx B.hb (lv' := [(6, .int r9), (5, .int (nI c1)), (4, .int (nI i)), (0, .ref b), (1, .ref q), (2, .ref mo), (3, .ref out)]) (st' := [.int (nI c1)]) hl bkL_law_948_950 rfl (fun ls hl => ?_)
      refine lv_if_ne (tgt := 965) B.hx B.hb dL_law_950 (by decide) (fun h2 => ?_) (fun h2 => absurd h2 (ni_ne hc0 hc4))
      refine pb_blk B.hx B.hb (lv' := [(6, .int r9), (5, .int (nI c1)), (4, .int (nI i)), (0, .ref b), (1, .ref q), (2, .ref mo), (3, .ref out)]) (st' := []) hl bkL_law_965_1590 rfl (fun ls hl => ?_)
      exact kk H2 N th as S2 ct2 ls (lw_fin D hE1 hz he hH1 hO1 hms2 hP2 hI) (lv_sub hl [2, 3, 4, 5, 6] rfl)

