theorem bkL_law_1308_1314 : pb_chk cL_law 1308 [.aload_n 1, .aload_n 0, .iload 4, .iconst 1, .iadd] = some 1314 := by decide +kernel
theorem dL_law_1314 : decode cL_law 1314 = .ok (.iaload, 1) := by decide +kernel
theorem bkL_law_1315_1320 : pb_chk cL_law 1315 [.aload_n 0, .iload 4, .iconst 2, .iadd] = some 1320 := by decide +kernel
theorem dL_law_1320 : decode cL_law 1320 = .ok (.iaload, 1) := by decide +kernel
theorem bkL_law_1321_1322 : pb_chk cL_law 1321 [.aload_n 3] = some 1322 := by decide +kernel
theorem dL_law_1322 : decode cL_law 1322 = .ok (.invokestatic 158, 3) := by decide +kernel
theorem bkL_law_1325_1333 : pb_chk cL_law 1325 [.istore 5, .aload_n 2, .aload_n 0, .iload 4, .iconst 1, .iadd] = some 1333 := by decide +kernel
theorem dL_law_1333 : decode cL_law 1333 = .ok (.iaload, 1) := by decide +kernel
theorem bkL_law_1334_1339 : pb_chk cL_law 1334 [.aload_n 0, .iload 4, .iconst 2, .iadd] = some 1339 := by decide +kernel
theorem dL_law_1339 : decode cL_law 1339 = .ok (.iaload, 1) := by decide +kernel
theorem dL_law_1340 : decode cL_law 1340 = .ok (.invokevirtual 160, 3) := by decide +kernel
theorem bkL_law_1343_1346 : pb_chk cL_law 1343 [.istore 6, .aload_n 2] = some 1346 := by decide +kernel
theorem dL_law_1346 : decode cL_law 1346 = .ok (.invokevirtual 100, 3) := by decide +kernel
theorem bkL_law_1349_1351 : pb_chk cL_law 1349 [.iload 5] = some 1351 := by decide +kernel
theorem dL_law_1351 : decode cL_law 1351 = .ok (.if_icmp .eq 5, 3) := by decide +kernel
theorem bkL_law_1356_1358 : pb_chk cL_law 1356 [.iload 5] = some 1358 := by decide +kernel
theorem dL_law_1358 : decode cL_law 1358 = .ok (.ifCond .ne 22, 3) := by decide +kernel
theorem bkL_law_1361_1363 : pb_chk cL_law 1361 [.aload_n 3, .iconst 0] = some 1363 := by decide +kernel
theorem dL_law_1363 : decode cL_law 1363 = .ok (.laload, 1) := by decide +kernel
theorem bkL_law_1364_1366 : pb_chk cL_law 1364 [.iload 6] = some 1366 := by decide +kernel
theorem dL_law_1366 : decode cL_law 1366 = .ok (.ifCond .eq 7, 3) := by decide +kernel
theorem bkL_law_1373_1375 : pb_chk cL_law 1373 [.lconst 0, .lcmp] = some 1375 := by decide +kernel
theorem dL_law_1375 : decode cL_law 1375 = .ok (.ifCond .eq 5, 3) := by decide +kernel
theorem bkL_law_1380_1590 : pb_chk cL_law 1380 [.goto 210] = some 1590 := by decide +kernel
theorem bkL_law_1369_1375 : pb_chk cL_law 1369 [.lconst 1, .goto 4, .lcmp] = some 1375 := by decide +kernel
set_option maxHeartbeats 4000000 in
set_option maxRecDepth 100000 in
theorem lc_holds {p : Program} {l : Launch} {e : Env} {s : State} {m : MethodId} {args : Array Value} {below : List Frame} {meth : Method} {c : Code} {G : Gm} {b L q ta out mo N i cells slots : Nat} {xs : Nat → Int32} {th : Nat → Th} {as : St3} {S : Sc} {ct : Ct} {H : Heap} {ls : Array Slot} {Q : State → Prop} (C : LC p l s m args meth c G b L xs) (hW : Lw G s.heap H q ta out mo N th as S ct) (hi : i + 5 ≤ L) (hl : LL ls b q mo out i) (hcs : cells + 300 ≤ 717796 ∧ slots + 10000 ≤ 6942715) (kk : LK p l e s m args below meth c G b q ta out mo i cells slots Q) : W p l e room_1 s m args below meth c H [] cells slots Q (F0 m 1308 ls []) := by
  obtain ⟨B, hKT, hst, hX, hbl, hL5⟩ := C
  have hlw := hW
  obtain ⟨hH, hms, hP, ⟨y0, hO⟩, hE, D, hI⟩ := hlw
  have hA := hW.A
  have hB := hI.bds
  have hN := hI.1
  have hmo := D.2.2.2.1
  have hl : lv_has ls 7 [(4, .int (nI i)), (0, .ref b), (1, .ref q), (2, .ref mo), (3, .ref out)] := hl
  refine pb_blk B.hx B.hb (lv' := [(4, .int (nI i)), (0, .ref b), (1, .ref q), (2, .ref mo), (3, .ref out)]) (st' := [.int ((nI i) + 1), .ref b, .ref q]) hl bkL_law_1308_1314 rfl (fun ls hl => ?_)
  rw [show nI i + 1 = nI (i + 1) from nI_add i 1]
  refine l_scr B hX hbl hE (k := i + 1) (by omega) (by omega) (by omega) dL_law_1314 ?_
  refine pb_blk B.hx B.hb (lv' := [(4, .int (nI i)), (0, .ref b), (1, .ref q), (2, .ref mo), (3, .ref out)]) (st' := [.int ((nI i) + 2), .ref b, .int (xs (i + 1)), .ref q]) hl bkL_law_1315_1320 rfl (fun ls hl => ?_)
  rw [show nI i + 2 = nI (i + 2) from nI_add i 2]
  refine l_scr B hX hbl hE (k := i + 2) (by omega) (by omega) (by omega) dL_law_1320 ?_
  refine pb_blk B.hx B.hb (lv' := [(4, .int (nI i)), (0, .ref b), (1, .ref q), (2, .ref mo), (3, .ref out)]) (st' := [.ref out, .int (xs (i + 2)), .int (xs (i + 1)), .ref q]) hl bkL_law_1321_1322 rfl (fun ls hl => ?_)
  refine l_callS B hKT (c_L_holds l hst G (Al q ta out mo) q ta out N th as (xs (i + 1)) (xs (i + 2)) hB (Or.inl (Or.inr (Or.inr rfl))) D.2.2.2.2.1 D.2.2.2.2.2.1) ch_L_holds wd_M_L_158 hA ⟨hH, y0, hO⟩ hE rfl hl.1 rfl (Nat.le_of_ble_eq_true rfl) ⟨by decide, by decide⟩ ⟨by show cells + 300 ≤ 717796; omega, by show slots + 10000 ≤ 6942715; omega⟩ dL_law_1322 (fw_ge D) (fun v H1 hmv hv => ?_)
  obtain ⟨hms1, hE1⟩ := lw_mid hW hmv
  have hD : Dt (R_holds N th (xs (i + 1)) (xs (i + 2))) := dt_holds hN
  obtain ⟨c1, rfl, hH1, hv⟩ := hv
  rcases hv with ⟨rfl, r, hR, hO1⟩ | ⟨hc0, hc4, hR, y1, hO1⟩
  · have hE := hE1
    refine pb_blk B.hx B.hb (lv' := [(5, .int (nI 0)), (4, .int (nI i)), (0, .ref b), (1, .ref q), (2, .ref mo), (3, .ref out)]) (st' := [.int ((nI i) + 1), .ref b, .ref mo]) hl bkL_law_1325_1333 rfl (fun ls hl => ?_)
    rw [show nI i + 1 = nI (i + 1) from nI_add i 1]
    refine l_scr B hX hbl hE (k := i + 1) (by omega) (by omega) (by omega) dL_law_1333 ?_
    refine pb_blk B.hx B.hb (lv' := [(5, .int (nI 0)), (4, .int (nI i)), (0, .ref b), (1, .ref q), (2, .ref mo), (3, .ref out)]) (st' := [.int ((nI i) + 2), .ref b, .int (xs (i + 1)), .ref mo]) hl bkL_law_1334_1339 rfl (fun ls hl => ?_)
    rw [show nI i + 2 = nI (i + 2) from nI_add i 2]
    refine l_scr B hX hbl hE (k := i + 2) (by omega) (by omega) (by omega) dL_law_1339 ?_
    refine l_callM B (c_X6_holds l G mo S ct N th as (xs (i + 1)) (xs (i + 2)) hP hB) cy_X6_holds im_X6_holds se_X6_holds wd_M_L_160 hms1 hmo rfl hl.1 rfl (Nat.le_of_ble_eq_true rfl) ⟨by decide, by decide⟩ ⟨rfl, rfl⟩ ⟨by show cells + 300 ≤ 717796; omega, by show slots + 10000 ≤ 6942715; omega⟩ dL_law_1340 (fun v H2 S2 ct2 hz he hms2 hv => ?_)
    obtain ⟨c2, r2, r3, hR2, hS2, rfl, g3, hP2⟩ := hv
    have hcc := hD 0 r c2 r2 hR hR2
    obtain ⟨hc, ht⟩ := hcc
    subst hc
    have er : r = r3 := (ht rfl).trans (g3 rfl).symm
    subst er
    refine pb_blk B.hx B.hb (lv' := [(6, .int r), (5, .int (nI 0)), (4, .int (nI i)), (0, .ref b), (1, .ref q), (2, .ref mo), (3, .ref out)]) (st' := [.ref mo]) hl bkL_law_1343_1346 rfl (fun ls hl => ?_)
    refine n_callV (ci := 5) B (c_X6_thrown l G (fun _ => False) mo S2 ct2 (nI 0) hS2) cy_X6_thrown im_X6_thrown se_X6_thrown wd_M_L_100 rfl hms2.1 hms2 rfl hl.1 rfl (Nat.le_of_ble_eq_true rfl) ⟨by decide, by decide⟩ ⟨by show cells + 300 + 0 ≤ 717796; omega, by show slots + 10000 + 0 ≤ 6942715; omega⟩ dL_law_1346 (fun v hv => ?_)
    rw [po_X6_thrown] at hv
    subst hv
    refine pb_blk B.hx B.hb (lv' := [(6, .int r), (5, .int (nI 0)), (4, .int (nI i)), (0, .ref b), (1, .ref q), (2, .ref mo), (3, .ref out)]) (st' := [.int (nI 0), .int (nI 0)]) hl bkL_law_1349_1351 rfl (fun ls hl => ?_)
    refine lv_icmp_eq (tgt := 1356) B.hx B.hb dL_law_1351 (by decide) (fun h1 => ?_) (fun h1 => absurd h1 (not_not_intro rfl))
    refine pb_blk B.hx B.hb (lv' := [(6, .int r), (5, .int (nI 0)), (4, .int (nI i)), (0, .ref b), (1, .ref q), (2, .ref mo), (3, .ref out)]) (st' := [.int (nI 0)]) hl bkL_law_1356_1358 rfl (fun ls hl => ?_)
    refine lv_if_ne (tgt := 1380) B.hx B.hb dL_law_1358 (by decide) (fun h2 => absurd h2 (not_not_intro rfl)) (fun h2 => ?_)
    refine pb_blk B.hx B.hb (lv' := [(6, .int r), (5, .int (nI 0)), (4, .int (nI i)), (0, .ref b), (1, .ref q), (2, .ref mo), (3, .ref out)]) (st' := [.int 0, .ref out]) hl bkL_law_1361_1363 rfl (fun ls hl => ?_)
    obtain ⟨fo, ho1, ho2⟩ := hO1.kept (he out D.2.2.2.2.2.2.2.2)
    refine z_lald B ho1 (show vp_in (nI 0) 1 from vp_in_nI (by decide) (by decide)) (v := .long (o01 r)) ho2 dL_law_1363 ?_
    refine pb_blk B.hx B.hb (lv' := [(6, .int r), (5, .int (nI 0)), (4, .int (nI i)), (0, .ref b), (1, .ref q), (2, .ref mo), (3, .ref out)]) (st' := [.int r, .long (o01 r)]) hl bkL_law_1364_1366 rfl (fun ls hl => ?_)
    refine lv_if_eq (tgt := 1373) B.hx B.hb dL_law_1366 (by decide) (fun h4 => ?_) (fun h4 => ?_)
    · refine pb_blk B.hx B.hb (lv' := [(6, .int r), (5, .int (nI 0)), (4, .int (nI i)), (0, .ref b), (1, .ref q), (2, .ref mo), (3, .ref out)]) (st' := [.int (lg_cmp (o01 r) 0)]) hl bkL_law_1373_1375 rfl (fun ls hl => ?_)
      refine lv_if_eq (tgt := 1380) B.hx B.hb dL_law_1375 (by decide) (fun h3 => ?_) (fun h3 => absurd h3 (not_not_intro ((lg_cmp_eq _ _).mpr (if_pos h4))))
      refine pb_blk B.hx B.hb (lv' := [(6, .int r), (5, .int (nI 0)), (4, .int (nI i)), (0, .ref b), (1, .ref q), (2, .ref mo), (3, .ref out)]) (st' := []) hl bkL_law_1380_1590 rfl (fun ls hl => ?_)
      exact kk H2 N th as S2 ct2 ls (lw_fin D hE1 hz he hH1 hO1 hms2 hP2 hI) (lv_sub hl [2, 3, 4, 5, 6] rfl)
    · refine pb_blk B.hx B.hb (lv' := [(6, .int r), (5, .int (nI 0)), (4, .int (nI i)), (0, .ref b), (1, .ref q), (2, .ref mo), (3, .ref out)]) (st' := [.int (lg_cmp (o01 r) 1)]) hl bkL_law_1369_1375 rfl (fun ls hl => ?_)
      refine lv_if_eq (tgt := 1380) B.hx B.hb dL_law_1375 (by decide) (fun h3 => ?_) (fun h3 => absurd h3 (not_not_intro ((lg_cmp_eq _ _).mpr (if_neg h4))))
      refine pb_blk B.hx B.hb (lv' := [(6, .int r), (5, .int (nI 0)), (4, .int (nI i)), (0, .ref b), (1, .ref q), (2, .ref mo), (3, .ref out)]) (st' := []) hl bkL_law_1380_1590 rfl (fun ls hl => ?_)
      exact kk H2 N th as S2 ct2 ls (lw_fin D hE1 hz he hH1 hO1 hms2 hP2 hI) (lv_sub hl [2, 3, 4, 5, 6] rfl)
  · have hE := hE1
    refine pb_blk B.hx B.hb (lv' := [(5, .int (nI c1)), (4, .int (nI i)), (0, .ref b), (1, .ref q), (2, .ref mo), (3, .ref out)]) (st' := [.int ((nI i) + 1), .ref b, .ref mo]) hl bkL_law_1325_1333 rfl (fun ls hl => ?_)
    rw [show nI i + 1 = nI (i + 1) from nI_add i 1]
    refine l_scr B hX hbl hE (k := i + 1) (by omega) (by omega) (by omega) dL_law_1333 ?_
    refine pb_blk B.hx B.hb (lv' := [(5, .int (nI c1)), (4, .int (nI i)), (0, .ref b), (1, .ref q), (2, .ref mo), (3, .ref out)]) (st' := [.int ((nI i) + 2), .ref b, .int (xs (i + 1)), .ref mo]) hl bkL_law_1334_1339 rfl (fun ls hl => ?_)
    rw [show nI i + 2 = nI (i + 2) from nI_add i 2]
    refine l_scr B hX hbl hE (k := i + 2) (by omega) (by omega) (by omega) dL_law_1339 ?_
    refine l_callM B (c_X6_holds l G mo S ct N th as (xs (i + 1)) (xs (i + 2)) hP hB) cy_X6_holds im_X6_holds se_X6_holds wd_M_L_160 hms1 hmo rfl hl.1 rfl (Nat.le_of_ble_eq_true rfl) ⟨by decide, by decide⟩ ⟨rfl, rfl⟩ ⟨by show cells + 300 ≤ 717796; omega, by show slots + 10000 ≤ 6942715; omega⟩ dL_law_1340 (fun v H2 S2 ct2 hz he hms2 hv => ?_)
    obtain ⟨c2, r2, r3, hR2, hS2, rfl, g3, hP2⟩ := hv
    have hcc := hD c1 r2 c2 r2 (hR r2) hR2
    obtain ⟨hc, ht⟩ := hcc
    subst hc
    refine pb_blk B.hx B.hb (lv' := [(6, .int r3), (5, .int (nI c1)), (4, .int (nI i)), (0, .ref b), (1, .ref q), (2, .ref mo), (3, .ref out)]) (st' := [.ref mo]) hl bkL_law_1343_1346 rfl (fun ls hl => ?_)
    refine n_callV (ci := 5) B (c_X6_thrown l G (fun _ => False) mo S2 ct2 (nI c1) hS2) cy_X6_thrown im_X6_thrown se_X6_thrown wd_M_L_100 rfl hms2.1 hms2 rfl hl.1 rfl (Nat.le_of_ble_eq_true rfl) ⟨by decide, by decide⟩ ⟨by show cells + 300 + 0 ≤ 717796; omega, by show slots + 10000 + 0 ≤ 6942715; omega⟩ dL_law_1346 (fun v hv => ?_)
    rw [po_X6_thrown] at hv
    subst hv
    refine pb_blk B.hx B.hb (lv' := [(6, .int r3), (5, .int (nI c1)), (4, .int (nI i)), (0, .ref b), (1, .ref q), (2, .ref mo), (3, .ref out)]) (st' := [.int (nI c1), .int (nI c1)]) hl bkL_law_1349_1351 rfl (fun ls hl => ?_)
    refine lv_icmp_eq (tgt := 1356) B.hx B.hb dL_law_1351 (by decide) (fun h1 => ?_) (fun h1 => absurd h1 (not_not_intro rfl))
    refine pb_blk B.hx B.hb (lv' := [(6, .int r3), (5, .int (nI c1)), (4, .int (nI i)), (0, .ref b), (1, .ref q), (2, .ref mo), (3, .ref out)]) (st' := [.int (nI c1)]) hl bkL_law_1356_1358 rfl (fun ls hl => ?_)
    refine lv_if_ne (tgt := 1380) B.hx B.hb dL_law_1358 (by decide) (fun h2 => ?_) (fun h2 => absurd h2 (ni_ne hc0 hc4))
    refine pb_blk B.hx B.hb (lv' := [(6, .int r3), (5, .int (nI c1)), (4, .int (nI i)), (0, .ref b), (1, .ref q), (2, .ref mo), (3, .ref out)]) (st' := []) hl bkL_law_1380_1590 rfl (fun ls hl => ?_)
    exact kk H2 N th as S2 ct2 ls (lw_fin D hE1 hz he hH1 hO1 hms2 hP2 hI) (lv_sub hl [2, 3, 4, 5, 6] rfl)

theorem bkL_law_1383_1389 : pb_chk cL_law 1383 [.aload_n 1, .aload_n 0, .iload 4, .iconst 1, .iadd] = some 1389 := by decide +kernel
theorem dL_law_1389 : decode cL_law 1389 = .ok (.iaload, 1) := by decide +kernel
theorem bkL_law_1390_1391 : pb_chk cL_law 1390 [.aload_n 3] = some 1391 := by decide +kernel
theorem dL_law_1391 : decode cL_law 1391 = .ok (.invokestatic 161, 3) := by decide +kernel
theorem bkL_law_1394_1402 : pb_chk cL_law 1394 [.istore 5, .aload_n 2, .aload_n 0, .iload 4, .iconst 1, .iadd] = some 1402 := by decide +kernel
theorem dL_law_1402 : decode cL_law 1402 = .ok (.iaload, 1) := by decide +kernel
theorem dL_law_1403 : decode cL_law 1403 = .ok (.invokevirtual 163, 3) := by decide +kernel
theorem bkL_law_1406_1409 : pb_chk cL_law 1406 [.istore 6, .aload_n 2] = some 1409 := by decide +kernel
theorem dL_law_1409 : decode cL_law 1409 = .ok (.invokevirtual 100, 3) := by decide +kernel
theorem bkL_law_1412_1414 : pb_chk cL_law 1412 [.iload 5] = some 1414 := by decide +kernel
theorem dL_law_1414 : decode cL_law 1414 = .ok (.if_icmp .eq 5, 3) := by decide +kernel
theorem bkL_law_1419_1421 : pb_chk cL_law 1419 [.iload 5] = some 1421 := by decide +kernel
theorem dL_law_1421 : decode cL_law 1421 = .ok (.ifCond .ne 22, 3) := by decide +kernel
theorem bkL_law_1424_1426 : pb_chk cL_law 1424 [.aload_n 3, .iconst 0] = some 1426 := by decide +kernel
theorem dL_law_1426 : decode cL_law 1426 = .ok (.laload, 1) := by decide +kernel
theorem bkL_law_1427_1429 : pb_chk cL_law 1427 [.iload 6] = some 1429 := by decide +kernel
theorem dL_law_1429 : decode cL_law 1429 = .ok (.ifCond .eq 7, 3) := by decide +kernel
theorem bkL_law_1436_1438 : pb_chk cL_law 1436 [.lconst 0, .lcmp] = some 1438 := by decide +kernel
theorem dL_law_1438 : decode cL_law 1438 = .ok (.ifCond .eq 5, 3) := by decide +kernel
theorem bkL_law_1443_1590 : pb_chk cL_law 1443 [.goto 147] = some 1590 := by decide +kernel
theorem bkL_law_1432_1438 : pb_chk cL_law 1432 [.lconst 1, .goto 4, .lcmp] = some 1438 := by decide +kernel
set_option maxHeartbeats 4000000 in
set_option maxRecDepth 100000 in
theorem lc_assume {p : Program} {l : Launch} {e : Env} {s : State} {m : MethodId} {args : Array Value} {below : List Frame} {meth : Method} {c : Code} {G : Gm} {b L q ta out mo N i cells slots : Nat} {xs : Nat → Int32} {th : Nat → Th} {as : St3} {S : Sc} {ct : Ct} {H : Heap} {ls : Array Slot} {Q : State → Prop} (C : LC p l s m args meth c G b L xs) (hW : Lw G s.heap H q ta out mo N th as S ct) (hi : i + 5 ≤ L) (hl : LL ls b q mo out i) (hcs : cells + 300 ≤ 717796 ∧ slots + 10000 ≤ 6942715) (kk : LK p l e s m args below meth c G b q ta out mo i cells slots Q) : W p l e room_1 s m args below meth c H [] cells slots Q (F0 m 1383 ls []) := by
  obtain ⟨B, hKT, hst, hX, hbl, hL5⟩ := C
  have hlw := hW
  obtain ⟨hH, hms, hP, ⟨y0, hO⟩, hE, D, hI⟩ := hlw
  have hA := hW.A
  have hB := hI.bds
  have hN := hI.1
  have hmo := D.2.2.2.1
  have hl : lv_has ls 7 [(4, .int (nI i)), (0, .ref b), (1, .ref q), (2, .ref mo), (3, .ref out)] := hl
  refine pb_blk B.hx B.hb (lv' := [(4, .int (nI i)), (0, .ref b), (1, .ref q), (2, .ref mo), (3, .ref out)]) (st' := [.int ((nI i) + 1), .ref b, .ref q]) hl bkL_law_1383_1389 rfl (fun ls hl => ?_)
  rw [show nI i + 1 = nI (i + 1) from nI_add i 1]
  refine l_scr B hX hbl hE (k := i + 1) (by omega) (by omega) (by omega) dL_law_1389 ?_
  refine pb_blk B.hx B.hb (lv' := [(4, .int (nI i)), (0, .ref b), (1, .ref q), (2, .ref mo), (3, .ref out)]) (st' := [.ref out, .int (xs (i + 1)), .ref q]) hl bkL_law_1390_1391 rfl (fun ls hl => ?_)
  refine l_callS B hKT (c_L_assume l hst G (Al q ta out mo) q ta out N th as (xs (i + 1)) hB (Or.inl (Or.inr (Or.inr rfl))) D.2.2.2.2.1 D.2.2.2.2.2.1) ch_L_assume wd_M_L_161 hA ⟨hH, y0, hO⟩ hE rfl hl.1 rfl (Nat.le_of_ble_eq_true rfl) ⟨by decide, by decide⟩ ⟨by show cells + 300 ≤ 717796; omega, by show slots + 10000 ≤ 6942715; omega⟩ dL_law_1391 (fw_ge D) (fun v H1 hmv hv => ?_)
  obtain ⟨hms1, hE1⟩ := lw_mid hW hmv
  have hD : Dt (R_assume N th as (xs (i + 1))) := dt_assume hN
  obtain ⟨c1, rfl, hv⟩ := hv
  rcases hv with ⟨rfl, r, as2, hR, hH1, hO1⟩ | ⟨hc0, hc4, hR, hH1, y1, hO1⟩
  · have hE := hE1
    refine pb_blk B.hx B.hb (lv' := [(5, .int (nI 0)), (4, .int (nI i)), (0, .ref b), (1, .ref q), (2, .ref mo), (3, .ref out)]) (st' := [.int ((nI i) + 1), .ref b, .ref mo]) hl bkL_law_1394_1402 rfl (fun ls hl => ?_)
    rw [show nI i + 1 = nI (i + 1) from nI_add i 1]
    refine l_scr B hX hbl hE (k := i + 1) (by omega) (by omega) (by omega) dL_law_1402 ?_
    refine l_callM B (c_X6_assume l G mo S ct N th as (xs (i + 1)) hP hI.cg) cy_X6_assume im_X6_assume se_X6_assume wd_M_L_163 hms1 hmo rfl hl.1 rfl (Nat.le_of_ble_eq_true rfl) ⟨by decide, by decide⟩ ⟨rfl, rfl⟩ ⟨by show cells + 300 ≤ 717796; omega, by show slots + 10000 ≤ 6942715; omega⟩ dL_law_1403 (fun v H2 S2 ct2 hz he hms2 hv => ?_)
    obtain ⟨c2, r2, r3, hR2, hS2, rfl, g3⟩ := hv
    have hcc := hD 0 (r, as2) c2 r2 hR hR2
    obtain ⟨hc, ht⟩ := hcc
    subst hc
    obtain rfl := ht rfl
    rcases g3 with ⟨_, e3, hP2⟩ | ⟨h9, _⟩
    · have er : r = r3 := e3.symm
      subst er
      refine pb_blk B.hx B.hb (lv' := [(6, .int r), (5, .int (nI 0)), (4, .int (nI i)), (0, .ref b), (1, .ref q), (2, .ref mo), (3, .ref out)]) (st' := [.ref mo]) hl bkL_law_1406_1409 rfl (fun ls hl => ?_)
      refine n_callV (ci := 5) B (c_X6_thrown l G (fun _ => False) mo S2 ct2 (nI 0) hS2) cy_X6_thrown im_X6_thrown se_X6_thrown wd_M_L_100 rfl hms2.1 hms2 rfl hl.1 rfl (Nat.le_of_ble_eq_true rfl) ⟨by decide, by decide⟩ ⟨by show cells + 300 + 0 ≤ 717796; omega, by show slots + 10000 + 0 ≤ 6942715; omega⟩ dL_law_1409 (fun v hv => ?_)
      rw [po_X6_thrown] at hv
      subst hv
      refine pb_blk B.hx B.hb (lv' := [(6, .int r), (5, .int (nI 0)), (4, .int (nI i)), (0, .ref b), (1, .ref q), (2, .ref mo), (3, .ref out)]) (st' := [.int (nI 0), .int (nI 0)]) hl bkL_law_1412_1414 rfl (fun ls hl => ?_)
      refine lv_icmp_eq (tgt := 1419) B.hx B.hb dL_law_1414 (by decide) (fun h1 => ?_) (fun h1 => absurd h1 (not_not_intro rfl))
      refine pb_blk B.hx B.hb (lv' := [(6, .int r), (5, .int (nI 0)), (4, .int (nI i)), (0, .ref b), (1, .ref q), (2, .ref mo), (3, .ref out)]) (st' := [.int (nI 0)]) hl bkL_law_1419_1421 rfl (fun ls hl => ?_)
      refine lv_if_ne (tgt := 1443) B.hx B.hb dL_law_1421 (by decide) (fun h2 => absurd h2 (not_not_intro rfl)) (fun h2 => ?_)
      refine pb_blk B.hx B.hb (lv' := [(6, .int r), (5, .int (nI 0)), (4, .int (nI i)), (0, .ref b), (1, .ref q), (2, .ref mo), (3, .ref out)]) (st' := [.int 0, .ref out]) hl bkL_law_1424_1426 rfl (fun ls hl => ?_)
      obtain ⟨fo, ho1, ho2⟩ := hO1.kept (he out D.2.2.2.2.2.2.2.2)
      refine z_lald B ho1 (show vp_in (nI 0) 1 from vp_in_nI (by decide) (by decide)) (v := .long (o01 r)) ho2 dL_law_1426 ?_
      refine pb_blk B.hx B.hb (lv' := [(6, .int r), (5, .int (nI 0)), (4, .int (nI i)), (0, .ref b), (1, .ref q), (2, .ref mo), (3, .ref out)]) (st' := [.int r, .long (o01 r)]) hl bkL_law_1427_1429 rfl (fun ls hl => ?_)
      refine lv_if_eq (tgt := 1436) B.hx B.hb dL_law_1429 (by decide) (fun h4 => ?_) (fun h4 => ?_)
      · refine pb_blk B.hx B.hb (lv' := [(6, .int r), (5, .int (nI 0)), (4, .int (nI i)), (0, .ref b), (1, .ref q), (2, .ref mo), (3, .ref out)]) (st' := [.int (lg_cmp (o01 r) 0)]) hl bkL_law_1436_1438 rfl (fun ls hl => ?_)
        refine lv_if_eq (tgt := 1443) B.hx B.hb dL_law_1438 (by decide) (fun h3 => ?_) (fun h3 => absurd h3 (not_not_intro ((lg_cmp_eq _ _).mpr (if_pos h4))))
        refine pb_blk B.hx B.hb (lv' := [(6, .int r), (5, .int (nI 0)), (4, .int (nI i)), (0, .ref b), (1, .ref q), (2, .ref mo), (3, .ref out)]) (st' := []) hl bkL_law_1443_1590 rfl (fun ls hl => ?_)
        exact kk H2 N th as2 S2 ct2 ls (lw_fin D hE1 hz he hH1 hO1 hms2 hP2 (iv_assume hI hR2)) (lv_sub hl [2, 3, 4, 5, 6] rfl)
      · refine pb_blk B.hx B.hb (lv' := [(6, .int r), (5, .int (nI 0)), (4, .int (nI i)), (0, .ref b), (1, .ref q), (2, .ref mo), (3, .ref out)]) (st' := [.int (lg_cmp (o01 r) 1)]) hl bkL_law_1432_1438 rfl (fun ls hl => ?_)
        refine lv_if_eq (tgt := 1443) B.hx B.hb dL_law_1438 (by decide) (fun h3 => ?_) (fun h3 => absurd h3 (not_not_intro ((lg_cmp_eq _ _).mpr (if_neg h4))))
        refine pb_blk B.hx B.hb (lv' := [(6, .int r), (5, .int (nI 0)), (4, .int (nI i)), (0, .ref b), (1, .ref q), (2, .ref mo), (3, .ref out)]) (st' := []) hl bkL_law_1443_1590 rfl (fun ls hl => ?_)
        exact kk H2 N th as2 S2 ct2 ls (lw_fin D hE1 hz he hH1 hO1 hms2 hP2 (iv_assume hI hR2)) (lv_sub hl [2, 3, 4, 5, 6] rfl)
    · exact absurd rfl h9
  · have hE := hE1
    refine pb_blk B.hx B.hb (lv' := [(5, .int (nI c1)), (4, .int (nI i)), (0, .ref b), (1, .ref q), (2, .ref mo), (3, .ref out)]) (st' := [.int ((nI i) + 1), .ref b, .ref mo]) hl bkL_law_1394_1402 rfl (fun ls hl => ?_)
    rw [show nI i + 1 = nI (i + 1) from nI_add i 1]
    refine l_scr B hX hbl hE (k := i + 1) (by omega) (by omega) (by omega) dL_law_1402 ?_
    refine l_callM B (c_X6_assume l G mo S ct N th as (xs (i + 1)) hP hI.cg) cy_X6_assume im_X6_assume se_X6_assume wd_M_L_163 hms1 hmo rfl hl.1 rfl (Nat.le_of_ble_eq_true rfl) ⟨by decide, by decide⟩ ⟨rfl, rfl⟩ ⟨by show cells + 300 ≤ 717796; omega, by show slots + 10000 ≤ 6942715; omega⟩ dL_law_1403 (fun v H2 S2 ct2 hz he hms2 hv => ?_)
    obtain ⟨c2, r2, r3, hR2, hS2, rfl, g3⟩ := hv
    have hcc := hD c1 r2 c2 r2 (hR r2) hR2
    obtain ⟨hc, ht⟩ := hcc
    subst hc
    rcases g3 with ⟨h9, _⟩ | ⟨_, hP2⟩
    · exact absurd h9 hc0
    · refine pb_blk B.hx B.hb (lv' := [(6, .int r3), (5, .int (nI c1)), (4, .int (nI i)), (0, .ref b), (1, .ref q), (2, .ref mo), (3, .ref out)]) (st' := [.ref mo]) hl bkL_law_1406_1409 rfl (fun ls hl => ?_)
      refine n_callV (ci := 5) B (c_X6_thrown l G (fun _ => False) mo S2 ct2 (nI c1) hS2) cy_X6_thrown im_X6_thrown se_X6_thrown wd_M_L_100 rfl hms2.1 hms2 rfl hl.1 rfl (Nat.le_of_ble_eq_true rfl) ⟨by decide, by decide⟩ ⟨by show cells + 300 + 0 ≤ 717796; omega, by show slots + 10000 + 0 ≤ 6942715; omega⟩ dL_law_1409 (fun v hv => ?_)
      rw [po_X6_thrown] at hv
      subst hv
      refine pb_blk B.hx B.hb (lv' := [(6, .int r3), (5, .int (nI c1)), (4, .int (nI i)), (0, .ref b), (1, .ref q), (2, .ref mo), (3, .ref out)]) (st' := [.int (nI c1), .int (nI c1)]) hl bkL_law_1412_1414 rfl (fun ls hl => ?_)
      refine lv_icmp_eq (tgt := 1419) B.hx B.hb dL_law_1414 (by decide) (fun h1 => ?_) (fun h1 => absurd h1 (not_not_intro rfl))
      refine pb_blk B.hx B.hb (lv' := [(6, .int r3), (5, .int (nI c1)), (4, .int (nI i)), (0, .ref b), (1, .ref q), (2, .ref mo), (3, .ref out)]) (st' := [.int (nI c1)]) hl bkL_law_1419_1421 rfl (fun ls hl => ?_)
      refine lv_if_ne (tgt := 1443) B.hx B.hb dL_law_1421 (by decide) (fun h2 => ?_) (fun h2 => absurd h2 (ni_ne hc0 hc4))
      refine pb_blk B.hx B.hb (lv' := [(6, .int r3), (5, .int (nI c1)), (4, .int (nI i)), (0, .ref b), (1, .ref q), (2, .ref mo), (3, .ref out)]) (st' := []) hl bkL_law_1443_1590 rfl (fun ls hl => ?_)
      exact kk H2 N th as S2 ct2 ls (lw_fin D hE1 hz he hH1 hO1 hms2 hP2 hI) (lv_sub hl [2, 3, 4, 5, 6] rfl)

theorem bkL_law_1446_1452 : pb_chk cL_law 1446 [.aload_n 1, .aload_n 0, .iload 4, .iconst 1, .iadd] = some 1452 := by decide +kernel
theorem dL_law_1452 : decode cL_law 1452 = .ok (.iaload, 1) := by decide +kernel
theorem bkL_law_1453_1454 : pb_chk cL_law 1453 [.aload_n 3] = some 1454 := by decide +kernel
theorem dL_law_1454 : decode cL_law 1454 = .ok (.invokestatic 164, 3) := by decide +kernel
theorem bkL_law_1457_1465 : pb_chk cL_law 1457 [.istore 5, .aload_n 2, .aload_n 0, .iload 4, .iconst 1, .iadd] = some 1465 := by decide +kernel
theorem dL_law_1465 : decode cL_law 1465 = .ok (.iaload, 1) := by decide +kernel
theorem dL_law_1466 : decode cL_law 1466 = .ok (.invokevirtual 166, 3) := by decide +kernel
theorem bkL_law_1469_1472 : pb_chk cL_law 1469 [.istore 6, .aload_n 2] = some 1472 := by decide +kernel
theorem dL_law_1472 : decode cL_law 1472 = .ok (.invokevirtual 100, 3) := by decide +kernel
theorem bkL_law_1475_1477 : pb_chk cL_law 1475 [.iload 5] = some 1477 := by decide +kernel
theorem dL_law_1477 : decode cL_law 1477 = .ok (.if_icmp .eq 5, 3) := by decide +kernel
theorem bkL_law_1482_1484 : pb_chk cL_law 1482 [.iload 5] = some 1484 := by decide +kernel
theorem dL_law_1484 : decode cL_law 1484 = .ok (.ifCond .ne 15, 3) := by decide +kernel
theorem bkL_law_1487_1489 : pb_chk cL_law 1487 [.aload_n 3, .iconst 0] = some 1489 := by decide +kernel
theorem dL_law_1489 : decode cL_law 1489 = .ok (.laload, 1) := by decide +kernel
theorem bkL_law_1490_1494 : pb_chk cL_law 1490 [.iload 6, .i2l, .lcmp] = some 1494 := by decide +kernel
theorem dL_law_1494 : decode cL_law 1494 = .ok (.ifCond .eq 5, 3) := by decide +kernel
theorem bkL_law_1499_1590 : pb_chk cL_law 1499 [.goto 91] = some 1590 := by decide +kernel
set_option maxHeartbeats 4000000 in
set_option maxRecDepth 100000 in
theorem lc_sign {p : Program} {l : Launch} {e : Env} {s : State} {m : MethodId} {args : Array Value} {below : List Frame} {meth : Method} {c : Code} {G : Gm} {b L q ta out mo N i cells slots : Nat} {xs : Nat → Int32} {th : Nat → Th} {as : St3} {S : Sc} {ct : Ct} {H : Heap} {ls : Array Slot} {Q : State → Prop} (C : LC p l s m args meth c G b L xs) (hW : Lw G s.heap H q ta out mo N th as S ct) (hi : i + 5 ≤ L) (hl : LL ls b q mo out i) (hcs : cells + 300 ≤ 717796 ∧ slots + 10000 ≤ 6942715) (kk : LK p l e s m args below meth c G b q ta out mo i cells slots Q) : W p l e room_1 s m args below meth c H [] cells slots Q (F0 m 1446 ls []) := by
  obtain ⟨B, hKT, hst, hX, hbl, hL5⟩ := C
  have hlw := hW
  obtain ⟨hH, hms, hP, ⟨y0, hO⟩, hE, D, hI⟩ := hlw
  have hA := hW.A
  have hB := hI.bds
  have hN := hI.1
  have hmo := D.2.2.2.1
  have hl : lv_has ls 7 [(4, .int (nI i)), (0, .ref b), (1, .ref q), (2, .ref mo), (3, .ref out)] := hl
  refine pb_blk B.hx B.hb (lv' := [(4, .int (nI i)), (0, .ref b), (1, .ref q), (2, .ref mo), (3, .ref out)]) (st' := [.int ((nI i) + 1), .ref b, .ref q]) hl bkL_law_1446_1452 rfl (fun ls hl => ?_)
  rw [show nI i + 1 = nI (i + 1) from nI_add i 1]
  refine l_scr B hX hbl hE (k := i + 1) (by omega) (by omega) (by omega) dL_law_1452 ?_
  refine pb_blk B.hx B.hb (lv' := [(4, .int (nI i)), (0, .ref b), (1, .ref q), (2, .ref mo), (3, .ref out)]) (st' := [.ref out, .int (xs (i + 1)), .ref q]) hl bkL_law_1453_1454 rfl (fun ls hl => ?_)
  refine l_callS B hKT (c_L_sign l hst G (Al q ta out mo) q ta out N th as (xs (i + 1)) hB (Or.inl (Or.inr (Or.inr rfl))) D.2.2.2.2.1 D.2.2.2.2.2.1) ch_L_sign wd_M_L_164 hA ⟨hH, y0, hO⟩ hE rfl hl.1 rfl (Nat.le_of_ble_eq_true rfl) ⟨by decide, by decide⟩ ⟨by show cells + 300 ≤ 717796; omega, by show slots + 10000 ≤ 6942715; omega⟩ dL_law_1454 (fw_ge D) (fun v H1 hmv hv => ?_)
  obtain ⟨hms1, hE1⟩ := lw_mid hW hmv
  have hD : Dt (R_sign N th as (xs (i + 1))) := dt_sign hN
  obtain ⟨c1, rfl, hH1, hv⟩ := hv
  rcases hv with ⟨rfl, r, hR, hO1⟩ | ⟨hc0, hc4, hR, y1, hO1⟩
  · have hE := hE1
    refine pb_blk B.hx B.hb (lv' := [(5, .int (nI 0)), (4, .int (nI i)), (0, .ref b), (1, .ref q), (2, .ref mo), (3, .ref out)]) (st' := [.int ((nI i) + 1), .ref b, .ref mo]) hl bkL_law_1457_1465 rfl (fun ls hl => ?_)
    rw [show nI i + 1 = nI (i + 1) from nI_add i 1]
    refine l_scr B hX hbl hE (k := i + 1) (by omega) (by omega) (by omega) dL_law_1465 ?_
    refine l_callM B (c_X6_sign l G mo S ct N th as (xs (i + 1)) hP hB hI.so hI.2.2.2) cy_X6_sign im_X6_sign se_X6_sign wd_M_L_166 hms1 hmo rfl hl.1 rfl (Nat.le_of_ble_eq_true rfl) ⟨by decide, by decide⟩ ⟨rfl, rfl⟩ ⟨by show cells + 300 ≤ 717796; omega, by show slots + 10000 ≤ 6942715; omega⟩ dL_law_1466 (fun v H2 S2 ct2 hz he hms2 hv => ?_)
    obtain ⟨c2, r2, r3, hR2, hS2, rfl, g3, hP2⟩ := hv
    have hcc := hD 0 r c2 r2 hR hR2
    obtain ⟨hc, ht⟩ := hcc
    subst hc
    have er : r = r3 := (ht rfl).trans (g3 rfl).symm
    subst er
    refine pb_blk B.hx B.hb (lv' := [(6, .int r), (5, .int (nI 0)), (4, .int (nI i)), (0, .ref b), (1, .ref q), (2, .ref mo), (3, .ref out)]) (st' := [.ref mo]) hl bkL_law_1469_1472 rfl (fun ls hl => ?_)
    refine n_callV (ci := 5) B (c_X6_thrown l G (fun _ => False) mo S2 ct2 (nI 0) hS2) cy_X6_thrown im_X6_thrown se_X6_thrown wd_M_L_100 rfl hms2.1 hms2 rfl hl.1 rfl (Nat.le_of_ble_eq_true rfl) ⟨by decide, by decide⟩ ⟨by show cells + 300 + 0 ≤ 717796; omega, by show slots + 10000 + 0 ≤ 6942715; omega⟩ dL_law_1472 (fun v hv => ?_)
    rw [po_X6_thrown] at hv
    subst hv
    refine pb_blk B.hx B.hb (lv' := [(6, .int r), (5, .int (nI 0)), (4, .int (nI i)), (0, .ref b), (1, .ref q), (2, .ref mo), (3, .ref out)]) (st' := [.int (nI 0), .int (nI 0)]) hl bkL_law_1475_1477 rfl (fun ls hl => ?_)
    refine lv_icmp_eq (tgt := 1482) B.hx B.hb dL_law_1477 (by decide) (fun h1 => ?_) (fun h1 => absurd h1 (not_not_intro rfl))
    refine pb_blk B.hx B.hb (lv' := [(6, .int r), (5, .int (nI 0)), (4, .int (nI i)), (0, .ref b), (1, .ref q), (2, .ref mo), (3, .ref out)]) (st' := [.int (nI 0)]) hl bkL_law_1482_1484 rfl (fun ls hl => ?_)
    refine lv_if_ne (tgt := 1499) B.hx B.hb dL_law_1484 (by decide) (fun h2 => absurd h2 (not_not_intro rfl)) (fun h2 => ?_)
    refine pb_blk B.hx B.hb (lv' := [(6, .int r), (5, .int (nI 0)), (4, .int (nI i)), (0, .ref b), (1, .ref q), (2, .ref mo), (3, .ref out)]) (st' := [.int 0, .ref out]) hl bkL_law_1487_1489 rfl (fun ls hl => ?_)
    obtain ⟨fo, ho1, ho2⟩ := hO1.kept (he out D.2.2.2.2.2.2.2.2)
    refine z_lald B ho1 (show vp_in (nI 0) 1 from vp_in_nI (by decide) (by decide)) (v := .long (o64 r)) ho2 dL_law_1489 ?_
    refine pb_blk B.hx B.hb (lv' := [(6, .int r), (5, .int (nI 0)), (4, .int (nI i)), (0, .ref b), (1, .ref q), (2, .ref mo), (3, .ref out)]) (st' := [.int (lg_cmp (o64 r) r.toInt64)]) hl bkL_law_1490_1494 rfl (fun ls hl => ?_)
    refine lv_if_eq (tgt := 1499) B.hx B.hb dL_law_1494 (by decide) (fun h3 => ?_) (fun h3 => absurd h3 (not_not_intro ((lg_cmp_eq _ _).mpr rfl)))
    refine pb_blk B.hx B.hb (lv' := [(6, .int r), (5, .int (nI 0)), (4, .int (nI i)), (0, .ref b), (1, .ref q), (2, .ref mo), (3, .ref out)]) (st' := []) hl bkL_law_1499_1590 rfl (fun ls hl => ?_)
    exact kk H2 N th as S2 ct2 ls (lw_fin D hE1 hz he hH1 hO1 hms2 hP2 hI) (lv_sub hl [2, 3, 4, 5, 6] rfl)
  · have hE := hE1
    refine pb_blk B.hx B.hb (lv' := [(5, .int (nI c1)), (4, .int (nI i)), (0, .ref b), (1, .ref q), (2, .ref mo), (3, .ref out)]) (st' := [.int ((nI i) + 1), .ref b, .ref mo]) hl bkL_law_1457_1465 rfl (fun ls hl => ?_)
    rw [show nI i + 1 = nI (i + 1) from nI_add i 1]
    refine l_scr B hX hbl hE (k := i + 1) (by omega) (by omega) (by omega) dL_law_1465 ?_
    refine l_callM B (c_X6_sign l G mo S ct N th as (xs (i + 1)) hP hB hI.so hI.2.2.2) cy_X6_sign im_X6_sign se_X6_sign wd_M_L_166 hms1 hmo rfl hl.1 rfl (Nat.le_of_ble_eq_true rfl) ⟨by decide, by decide⟩ ⟨rfl, rfl⟩ ⟨by show cells + 300 ≤ 717796; omega, by show slots + 10000 ≤ 6942715; omega⟩ dL_law_1466 (fun v H2 S2 ct2 hz he hms2 hv => ?_)
    obtain ⟨c2, r2, r3, hR2, hS2, rfl, g3, hP2⟩ := hv
    have hcc := hD c1 r2 c2 r2 (hR r2) hR2
    obtain ⟨hc, ht⟩ := hcc
    subst hc
    refine pb_blk B.hx B.hb (lv' := [(6, .int r3), (5, .int (nI c1)), (4, .int (nI i)), (0, .ref b), (1, .ref q), (2, .ref mo), (3, .ref out)]) (st' := [.ref mo]) hl bkL_law_1469_1472 rfl (fun ls hl => ?_)
    refine n_callV (ci := 5) B (c_X6_thrown l G (fun _ => False) mo S2 ct2 (nI c1) hS2) cy_X6_thrown im_X6_thrown se_X6_thrown wd_M_L_100 rfl hms2.1 hms2 rfl hl.1 rfl (Nat.le_of_ble_eq_true rfl) ⟨by decide, by decide⟩ ⟨by show cells + 300 + 0 ≤ 717796; omega, by show slots + 10000 + 0 ≤ 6942715; omega⟩ dL_law_1472 (fun v hv => ?_)
    rw [po_X6_thrown] at hv
    subst hv
    refine pb_blk B.hx B.hb (lv' := [(6, .int r3), (5, .int (nI c1)), (4, .int (nI i)), (0, .ref b), (1, .ref q), (2, .ref mo), (3, .ref out)]) (st' := [.int (nI c1), .int (nI c1)]) hl bkL_law_1475_1477 rfl (fun ls hl => ?_)
    refine lv_icmp_eq (tgt := 1482) B.hx B.hb dL_law_1477 (by decide) (fun h1 => ?_) (fun h1 => absurd h1 (not_not_intro rfl))
    refine pb_blk B.hx B.hb (lv' := [(6, .int r3), (5, .int (nI c1)), (4, .int (nI i)), (0, .ref b), (1, .ref q), (2, .ref mo), (3, .ref out)]) (st' := [.int (nI c1)]) hl bkL_law_1482_1484 rfl (fun ls hl => ?_)
    refine lv_if_ne (tgt := 1499) B.hx B.hb dL_law_1484 (by decide) (fun h2 => ?_) (fun h2 => absurd h2 (ni_ne hc0 hc4))
    refine pb_blk B.hx B.hb (lv' := [(6, .int r3), (5, .int (nI c1)), (4, .int (nI i)), (0, .ref b), (1, .ref q), (2, .ref mo), (3, .ref out)]) (st' := []) hl bkL_law_1499_1590 rfl (fun ls hl => ?_)
    exact kk H2 N th as S2 ct2 ls (lw_fin D hE1 hz he hH1 hO1 hms2 hP2 hI) (lv_sub hl [2, 3, 4, 5, 6] rfl)

theorem bkL_law_1502_1508 : pb_chk cL_law 1502 [.aload_n 1, .aload_n 0, .iload 4, .iconst 1, .iadd] = some 1508 := by decide +kernel
theorem dL_law_1508 : decode cL_law 1508 = .ok (.iaload, 1) := by decide +kernel
theorem bkL_law_1509_1514 : pb_chk cL_law 1509 [.aload_n 0, .iload 4, .iconst 2, .iadd] = some 1514 := by decide +kernel
theorem dL_law_1514 : decode cL_law 1514 = .ok (.iaload, 1) := by decide +kernel
theorem bkL_law_1515_1516 : pb_chk cL_law 1515 [.aload_n 3] = some 1516 := by decide +kernel
theorem dL_law_1516 : decode cL_law 1516 = .ok (.invokestatic 167, 3) := by decide +kernel
theorem bkL_law_1519_1527 : pb_chk cL_law 1519 [.istore 5, .aload_n 2, .aload_n 0, .iload 4, .iconst 1, .iadd] = some 1527 := by decide +kernel
theorem dL_law_1527 : decode cL_law 1527 = .ok (.iaload, 1) := by decide +kernel
theorem bkL_law_1528_1533 : pb_chk cL_law 1528 [.aload_n 0, .iload 4, .iconst 2, .iadd] = some 1533 := by decide +kernel
theorem dL_law_1533 : decode cL_law 1533 = .ok (.iaload, 1) := by decide +kernel
theorem dL_law_1534 : decode cL_law 1534 = .ok (.invokevirtual 169, 3) := by decide +kernel
theorem bkL_law_1537_1540 : pb_chk cL_law 1537 [.istore 6, .aload_n 2] = some 1540 := by decide +kernel
theorem dL_law_1540 : decode cL_law 1540 = .ok (.invokevirtual 100, 3) := by decide +kernel
theorem bkL_law_1543_1545 : pb_chk cL_law 1543 [.iload 5] = some 1545 := by decide +kernel
theorem dL_law_1545 : decode cL_law 1545 = .ok (.if_icmp .eq 5, 3) := by decide +kernel
theorem bkL_law_1550_1552 : pb_chk cL_law 1550 [.iload 5] = some 1552 := by decide +kernel
theorem dL_law_1552 : decode cL_law 1552 = .ok (.ifCond .ne 22, 3) := by decide +kernel
theorem bkL_law_1555_1557 : pb_chk cL_law 1555 [.aload_n 3, .iconst 0] = some 1557 := by decide +kernel
theorem dL_law_1557 : decode cL_law 1557 = .ok (.laload, 1) := by decide +kernel
theorem bkL_law_1558_1560 : pb_chk cL_law 1558 [.iload 6] = some 1560 := by decide +kernel
theorem dL_law_1560 : decode cL_law 1560 = .ok (.ifCond .eq 7, 3) := by decide +kernel
theorem bkL_law_1567_1569 : pb_chk cL_law 1567 [.lconst 0, .lcmp] = some 1569 := by decide +kernel
theorem dL_law_1569 : decode cL_law 1569 = .ok (.ifCond .eq 5, 3) := by decide +kernel
theorem bkL_law_1574_1590 : pb_chk cL_law 1574 [.goto 16] = some 1590 := by decide +kernel
theorem bkL_law_1563_1569 : pb_chk cL_law 1563 [.lconst 1, .goto 4, .lcmp] = some 1569 := by decide +kernel
set_option maxHeartbeats 4000000 in
set_option maxRecDepth 100000 in
theorem lc_same {p : Program} {l : Launch} {e : Env} {s : State} {m : MethodId} {args : Array Value} {below : List Frame} {meth : Method} {c : Code} {G : Gm} {b L q ta out mo N i cells slots : Nat} {xs : Nat → Int32} {th : Nat → Th} {as : St3} {S : Sc} {ct : Ct} {H : Heap} {ls : Array Slot} {Q : State → Prop} (C : LC p l s m args meth c G b L xs) (hW : Lw G s.heap H q ta out mo N th as S ct) (hi : i + 5 ≤ L) (hl : LL ls b q mo out i) (hcs : cells + 300 ≤ 717796 ∧ slots + 10000 ≤ 6942715) (kk : LK p l e s m args below meth c G b q ta out mo i cells slots Q) : W p l e room_1 s m args below meth c H [] cells slots Q (F0 m 1502 ls []) := by
  obtain ⟨B, hKT, hst, hX, hbl, hL5⟩ := C
  have hlw := hW
  obtain ⟨hH, hms, hP, ⟨y0, hO⟩, hE, D, hI⟩ := hlw
  have hA := hW.A
  have hB := hI.bds
  have hN := hI.1
  have hmo := D.2.2.2.1
  have hl : lv_has ls 7 [(4, .int (nI i)), (0, .ref b), (1, .ref q), (2, .ref mo), (3, .ref out)] := hl
  refine pb_blk B.hx B.hb (lv' := [(4, .int (nI i)), (0, .ref b), (1, .ref q), (2, .ref mo), (3, .ref out)]) (st' := [.int ((nI i) + 1), .ref b, .ref q]) hl bkL_law_1502_1508 rfl (fun ls hl => ?_)
  rw [show nI i + 1 = nI (i + 1) from nI_add i 1]
  refine l_scr B hX hbl hE (k := i + 1) (by omega) (by omega) (by omega) dL_law_1508 ?_
  refine pb_blk B.hx B.hb (lv' := [(4, .int (nI i)), (0, .ref b), (1, .ref q), (2, .ref mo), (3, .ref out)]) (st' := [.int ((nI i) + 2), .ref b, .int (xs (i + 1)), .ref q]) hl bkL_law_1509_1514 rfl (fun ls hl => ?_)
  rw [show nI i + 2 = nI (i + 2) from nI_add i 2]
  refine l_scr B hX hbl hE (k := i + 2) (by omega) (by omega) (by omega) dL_law_1514 ?_
  refine pb_blk B.hx B.hb (lv' := [(4, .int (nI i)), (0, .ref b), (1, .ref q), (2, .ref mo), (3, .ref out)]) (st' := [.ref out, .int (xs (i + 2)), .int (xs (i + 1)), .ref q]) hl bkL_law_1515_1516 rfl (fun ls hl => ?_)
  refine l_callS B hKT (c_L_same l hst G (Al q ta out mo) q ta out N th as (xs (i + 1)) (xs (i + 2)) hB (Or.inl (Or.inr (Or.inr rfl))) D.2.2.2.2.1 D.2.2.2.2.2.1) ch_L_same wd_M_L_167 hA ⟨hH, y0, hO⟩ hE rfl hl.1 rfl (Nat.le_of_ble_eq_true rfl) ⟨by decide, by decide⟩ ⟨by show cells + 300 ≤ 717796; omega, by show slots + 10000 ≤ 6942715; omega⟩ dL_law_1516 (fw_ge D) (fun v H1 hmv hv => ?_)
  obtain ⟨hms1, hE1⟩ := lw_mid hW hmv
  have hD : Dt (R_same N th (xs (i + 1)) (xs (i + 2))) := dt_same hN
  obtain ⟨c1, rfl, hH1, hv⟩ := hv
  rcases hv with ⟨rfl, r, hR, hO1⟩ | ⟨hc0, hc4, hR, y1, hO1⟩
  · have hE := hE1
    refine pb_blk B.hx B.hb (lv' := [(5, .int (nI 0)), (4, .int (nI i)), (0, .ref b), (1, .ref q), (2, .ref mo), (3, .ref out)]) (st' := [.int ((nI i) + 1), .ref b, .ref mo]) hl bkL_law_1519_1527 rfl (fun ls hl => ?_)
    rw [show nI i + 1 = nI (i + 1) from nI_add i 1]
    refine l_scr B hX hbl hE (k := i + 1) (by omega) (by omega) (by omega) dL_law_1527 ?_
    refine pb_blk B.hx B.hb (lv' := [(5, .int (nI 0)), (4, .int (nI i)), (0, .ref b), (1, .ref q), (2, .ref mo), (3, .ref out)]) (st' := [.int ((nI i) + 2), .ref b, .int (xs (i + 1)), .ref mo]) hl bkL_law_1528_1533 rfl (fun ls hl => ?_)
    rw [show nI i + 2 = nI (i + 2) from nI_add i 2]
    refine l_scr B hX hbl hE (k := i + 2) (by omega) (by omega) (by omega) dL_law_1533 ?_
    refine l_callM B (c_X6_same l G mo S ct N th as (xs (i + 1)) (xs (i + 2)) hP) cy_X6_same im_X6_same se_X6_same wd_M_L_169 hms1 hmo rfl hl.1 rfl (Nat.le_of_ble_eq_true rfl) ⟨by decide, by decide⟩ ⟨rfl, rfl⟩ ⟨by show cells + 300 ≤ 717796; omega, by show slots + 10000 ≤ 6942715; omega⟩ dL_law_1534 (fun v H2 S2 ct2 hz he hms2 hv => ?_)
    obtain ⟨c2, r2, r3, hR2, hS2, rfl, g3, hP2⟩ := hv
    have hcc := hD 0 r c2 r2 hR hR2
    obtain ⟨hc, ht⟩ := hcc
    subst hc
    have er : r = r3 := (ht rfl).trans (g3 rfl).symm
    subst er
    refine pb_blk B.hx B.hb (lv' := [(6, .int r), (5, .int (nI 0)), (4, .int (nI i)), (0, .ref b), (1, .ref q), (2, .ref mo), (3, .ref out)]) (st' := [.ref mo]) hl bkL_law_1537_1540 rfl (fun ls hl => ?_)
    refine n_callV (ci := 5) B (c_X6_thrown l G (fun _ => False) mo S2 ct2 (nI 0) hS2) cy_X6_thrown im_X6_thrown se_X6_thrown wd_M_L_100 rfl hms2.1 hms2 rfl hl.1 rfl (Nat.le_of_ble_eq_true rfl) ⟨by decide, by decide⟩ ⟨by show cells + 300 + 0 ≤ 717796; omega, by show slots + 10000 + 0 ≤ 6942715; omega⟩ dL_law_1540 (fun v hv => ?_)
    rw [po_X6_thrown] at hv
    subst hv
    refine pb_blk B.hx B.hb (lv' := [(6, .int r), (5, .int (nI 0)), (4, .int (nI i)), (0, .ref b), (1, .ref q), (2, .ref mo), (3, .ref out)]) (st' := [.int (nI 0), .int (nI 0)]) hl bkL_law_1543_1545 rfl (fun ls hl => ?_)
    refine lv_icmp_eq (tgt := 1550) B.hx B.hb dL_law_1545 (by decide) (fun h1 => ?_) (fun h1 => absurd h1 (not_not_intro rfl))
    refine pb_blk B.hx B.hb (lv' := [(6, .int r), (5, .int (nI 0)), (4, .int (nI i)), (0, .ref b), (1, .ref q), (2, .ref mo), (3, .ref out)]) (st' := [.int (nI 0)]) hl bkL_law_1550_1552 rfl (fun ls hl => ?_)
    refine lv_if_ne (tgt := 1574) B.hx B.hb dL_law_1552 (by decide) (fun h2 => absurd h2 (not_not_intro rfl)) (fun h2 => ?_)
    refine pb_blk B.hx B.hb (lv' := [(6, .int r), (5, .int (nI 0)), (4, .int (nI i)), (0, .ref b), (1, .ref q), (2, .ref mo), (3, .ref out)]) (st' := [.int 0, .ref out]) hl bkL_law_1555_1557 rfl (fun ls hl => ?_)
    obtain ⟨fo, ho1, ho2⟩ := hO1.kept (he out D.2.2.2.2.2.2.2.2)
    refine z_lald B ho1 (show vp_in (nI 0) 1 from vp_in_nI (by decide) (by decide)) (v := .long (o01 r)) ho2 dL_law_1557 ?_
    refine pb_blk B.hx B.hb (lv' := [(6, .int r), (5, .int (nI 0)), (4, .int (nI i)), (0, .ref b), (1, .ref q), (2, .ref mo), (3, .ref out)]) (st' := [.int r, .long (o01 r)]) hl bkL_law_1558_1560 rfl (fun ls hl => ?_)
    refine lv_if_eq (tgt := 1567) B.hx B.hb dL_law_1560 (by decide) (fun h4 => ?_) (fun h4 => ?_)
    · refine pb_blk B.hx B.hb (lv' := [(6, .int r), (5, .int (nI 0)), (4, .int (nI i)), (0, .ref b), (1, .ref q), (2, .ref mo), (3, .ref out)]) (st' := [.int (lg_cmp (o01 r) 0)]) hl bkL_law_1567_1569 rfl (fun ls hl => ?_)
      refine lv_if_eq (tgt := 1574) B.hx B.hb dL_law_1569 (by decide) (fun h3 => ?_) (fun h3 => absurd h3 (not_not_intro ((lg_cmp_eq _ _).mpr (if_pos h4))))
      refine pb_blk B.hx B.hb (lv' := [(6, .int r), (5, .int (nI 0)), (4, .int (nI i)), (0, .ref b), (1, .ref q), (2, .ref mo), (3, .ref out)]) (st' := []) hl bkL_law_1574_1590 rfl (fun ls hl => ?_)
      exact kk H2 N th as S2 ct2 ls (lw_fin D hE1 hz he hH1 hO1 hms2 hP2 hI) (lv_sub hl [2, 3, 4, 5, 6] rfl)
    · refine pb_blk B.hx B.hb (lv' := [(6, .int r), (5, .int (nI 0)), (4, .int (nI i)), (0, .ref b), (1, .ref q), (2, .ref mo), (3, .ref out)]) (st' := [.int (lg_cmp (o01 r) 1)]) hl bkL_law_1563_1569 rfl (fun ls hl => ?_)
      refine lv_if_eq (tgt := 1574) B.hx B.hb dL_law_1569 (by decide) (fun h3 => ?_) (fun h3 => absurd h3 (not_not_intro ((lg_cmp_eq _ _).mpr (if_neg h4))))
      refine pb_blk B.hx B.hb (lv' := [(6, .int r), (5, .int (nI 0)), (4, .int (nI i)), (0, .ref b), (1, .ref q), (2, .ref mo), (3, .ref out)]) (st' := []) hl bkL_law_1574_1590 rfl (fun ls hl => ?_)
      exact kk H2 N th as S2 ct2 ls (lw_fin D hE1 hz he hH1 hO1 hms2 hP2 hI) (lv_sub hl [2, 3, 4, 5, 6] rfl)
  · have hE := hE1
    refine pb_blk B.hx B.hb (lv' := [(5, .int (nI c1)), (4, .int (nI i)), (0, .ref b), (1, .ref q), (2, .ref mo), (3, .ref out)]) (st' := [.int ((nI i) + 1), .ref b, .ref mo]) hl bkL_law_1519_1527 rfl (fun ls hl => ?_)
    rw [show nI i + 1 = nI (i + 1) from nI_add i 1]
    refine l_scr B hX hbl hE (k := i + 1) (by omega) (by omega) (by omega) dL_law_1527 ?_
    refine pb_blk B.hx B.hb (lv' := [(5, .int (nI c1)), (4, .int (nI i)), (0, .ref b), (1, .ref q), (2, .ref mo), (3, .ref out)]) (st' := [.int ((nI i) + 2), .ref b, .int (xs (i + 1)), .ref mo]) hl bkL_law_1528_1533 rfl (fun ls hl => ?_)
    rw [show nI i + 2 = nI (i + 2) from nI_add i 2]
    refine l_scr B hX hbl hE (k := i + 2) (by omega) (by omega) (by omega) dL_law_1533 ?_
    refine l_callM B (c_X6_same l G mo S ct N th as (xs (i + 1)) (xs (i + 2)) hP) cy_X6_same im_X6_same se_X6_same wd_M_L_169 hms1 hmo rfl hl.1 rfl (Nat.le_of_ble_eq_true rfl) ⟨by decide, by decide⟩ ⟨rfl, rfl⟩ ⟨by show cells + 300 ≤ 717796; omega, by show slots + 10000 ≤ 6942715; omega⟩ dL_law_1534 (fun v H2 S2 ct2 hz he hms2 hv => ?_)
    obtain ⟨c2, r2, r3, hR2, hS2, rfl, g3, hP2⟩ := hv
    have hcc := hD c1 r2 c2 r2 (hR r2) hR2
    obtain ⟨hc, ht⟩ := hcc
    subst hc
    refine pb_blk B.hx B.hb (lv' := [(6, .int r3), (5, .int (nI c1)), (4, .int (nI i)), (0, .ref b), (1, .ref q), (2, .ref mo), (3, .ref out)]) (st' := [.ref mo]) hl bkL_law_1537_1540 rfl (fun ls hl => ?_)
    refine n_callV (ci := 5) B (c_X6_thrown l G (fun _ => False) mo S2 ct2 (nI c1) hS2) cy_X6_thrown im_X6_thrown se_X6_thrown wd_M_L_100 rfl hms2.1 hms2 rfl hl.1 rfl (Nat.le_of_ble_eq_true rfl) ⟨by decide, by decide⟩ ⟨by show cells + 300 + 0 ≤ 717796; omega, by show slots + 10000 + 0 ≤ 6942715; omega⟩ dL_law_1540 (fun v hv => ?_)
    rw [po_X6_thrown] at hv
    subst hv
    refine pb_blk B.hx B.hb (lv' := [(6, .int r3), (5, .int (nI c1)), (4, .int (nI i)), (0, .ref b), (1, .ref q), (2, .ref mo), (3, .ref out)]) (st' := [.int (nI c1), .int (nI c1)]) hl bkL_law_1543_1545 rfl (fun ls hl => ?_)
    refine lv_icmp_eq (tgt := 1550) B.hx B.hb dL_law_1545 (by decide) (fun h1 => ?_) (fun h1 => absurd h1 (not_not_intro rfl))
    refine pb_blk B.hx B.hb (lv' := [(6, .int r3), (5, .int (nI c1)), (4, .int (nI i)), (0, .ref b), (1, .ref q), (2, .ref mo), (3, .ref out)]) (st' := [.int (nI c1)]) hl bkL_law_1550_1552 rfl (fun ls hl => ?_)
    refine lv_if_ne (tgt := 1574) B.hx B.hb dL_law_1552 (by decide) (fun h2 => ?_) (fun h2 => absurd h2 (ni_ne hc0 hc4))
    refine pb_blk B.hx B.hb (lv' := [(6, .int r3), (5, .int (nI c1)), (4, .int (nI i)), (0, .ref b), (1, .ref q), (2, .ref mo), (3, .ref out)]) (st' := []) hl bkL_law_1574_1590 rfl (fun ls hl => ?_)
    exact kk H2 N th as S2 ct2 ls (lw_fin D hE1 hz he hH1 hO1 hms2 hP2 hI) (lv_sub hl [2, 3, 4, 5, 6] rfl)

theorem bkL_law_1577_1578 : pb_chk cL_law 1577 [.aload_n 1] = some 1578 := by decide +kernel
theorem dL_law_1578 : decode cL_law 1578 = .ok (.invokevirtual 170, 3) := by decide +kernel
theorem bkL_law_1581_1582 : pb_chk cL_law 1581 [.aload_n 2] = some 1582 := by decide +kernel
theorem dL_law_1582 : decode cL_law 1582 = .ok (.invokevirtual 173, 3) := by decide +kernel
theorem dL_law_1585 : decode cL_law 1585 = .ok (.if_icmp .eq 5, 3) := by decide +kernel
set_option maxHeartbeats 4000000 in
set_option maxRecDepth 100000 in
theorem lc_count {p : Program} {l : Launch} {e : Env} {s : State} {m : MethodId} {args : Array Value} {below : List Frame} {meth : Method} {c : Code} {G : Gm} {b L q ta out mo N i cells slots : Nat} {xs : Nat → Int32} {th : Nat → Th} {as : St3} {S : Sc} {ct : Ct} {H : Heap} {ls : Array Slot} {Q : State → Prop} (C : LC p l s m args meth c G b L xs) (hW : Lw G s.heap H q ta out mo N th as S ct) (hi : i + 5 ≤ L) (hl : LL ls b q mo out i) (hcs : cells + 300 ≤ 717796 ∧ slots + 10000 ≤ 6942715) (kk : LK p l e s m args below meth c G b q ta out mo i cells slots Q) : W p l e room_1 s m args below meth c H [] cells slots Q (F0 m 1577 ls []) := by
  obtain ⟨B, hKT, hst, hX, hbl, hL5⟩ := C
  have hlw := hW
  obtain ⟨hH, hms, hP, ⟨y0, hO⟩, hE, D, hI⟩ := hlw
  have hA := hW.A
  have hB := hI.bds
  have hN := hI.1
  have hmo := D.2.2.2.1
  have hl : lv_has ls 7 [(4, .int (nI i)), (0, .ref b), (1, .ref q), (2, .ref mo), (3, .ref out)] := hl
  refine pb_blk B.hx B.hb (lv' := [(4, .int (nI i)), (0, .ref b), (1, .ref q), (2, .ref mo), (3, .ref out)]) (st' := [.ref q]) hl bkL_law_1577_1578 rfl (fun ls hl => ?_)
  obtain ⟨fs, hob⟩ := hH.ob
  refine n_callV (ci := 4) B (c_X5_count l G (Al q ta out mo) q ta N th as) cy_X5_count im_X5_count se_X5_count wd_M_L_170 rfl hob hH rfl hl.1 rfl (Nat.le_of_ble_eq_true rfl) ⟨by decide, by decide⟩ ⟨by show _ ≤ 717796; show cells + 0 ≤ 717796; omega, by show slots + 0 ≤ 6942715; omega⟩ dL_law_1578 (fun v hv => ?_)
  rw [po_X5_count] at hv
  subst hv
  refine pb_blk B.hx B.hb (lv' := [(4, .int (nI i)), (0, .ref b), (1, .ref q), (2, .ref mo), (3, .ref out)]) (st' := [.ref mo, .int (nI N)]) hl bkL_law_1581_1582 rfl (fun ls hl => ?_)
  refine l_callM B (c_X6_count l G mo S ct N th as hP) cy_X6_count im_X6_count se_X6_count wd_M_L_173 hms hmo rfl hl.1 rfl (Nat.le_of_ble_eq_true rfl) ⟨by decide, by decide⟩ ⟨rfl, rfl⟩ ⟨by show cells + 0 ≤ 717796; omega, by show slots + 0 ≤ 6942715; omega⟩ dL_law_1582 (fun v H2 S2 ct2 hz he hms2 hv => ?_)
  obtain ⟨rfl, hP2⟩ := hv
  refine lv_icmp_eq (tgt := 1590) B.hx B.hb dL_law_1585 (by decide) (fun h1 => ?_) (fun h1 => absurd h1 (not_not_intro rfl))
  exact W.widen (by show cells + 0 ≤ cells + 300; omega) (by show slots + 0 ≤ slots + 10000; omega) (kk H2 N th as S2 ct2 ls (lw_fin D hE hz he hH hO hms2 hP2 hI) (lv_sub hl [0, 1, 2, 3, 4] rfl))

