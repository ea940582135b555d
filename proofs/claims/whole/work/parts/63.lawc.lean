theorem bkL_law_968_974 : pb_chk cL_law 968 [.aload_n 1, .aload_n 0, .iload 4, .iconst 1, .iadd] = some 974 := by decide +kernel
theorem dL_law_974 : decode cL_law 974 = .ok (.iaload, 1) := by decide +kernel
theorem bkL_law_975_976 : pb_chk cL_law 975 [.aload_n 3] = some 976 := by decide +kernel
theorem dL_law_976 : decode cL_law 976 = .ok (.invokestatic 141, 3) := by decide +kernel
theorem bkL_law_979_987 : pb_chk cL_law 979 [.istore 5, .aload_n 2, .aload_n 0, .iload 4, .iconst 1, .iadd] = some 987 := by decide +kernel
theorem dL_law_987 : decode cL_law 987 = .ok (.iaload, 1) := by decide +kernel
theorem dL_law_988 : decode cL_law 988 = .ok (.invokevirtual 143, 3) := by decide +kernel
theorem bkL_law_991_994 : pb_chk cL_law 991 [.istore 6, .aload_n 2] = some 994 := by decide +kernel
theorem dL_law_994 : decode cL_law 994 = .ok (.invokevirtual 100, 3) := by decide +kernel
theorem bkL_law_997_999 : pb_chk cL_law 997 [.iload 5] = some 999 := by decide +kernel
theorem dL_law_999 : decode cL_law 999 = .ok (.if_icmp .eq 5, 3) := by decide +kernel
theorem bkL_law_1004_1006 : pb_chk cL_law 1004 [.iload 5] = some 1006 := by decide +kernel
theorem dL_law_1006 : decode cL_law 1006 = .ok (.ifCond .ne 15, 3) := by decide +kernel
theorem bkL_law_1009_1011 : pb_chk cL_law 1009 [.aload_n 3, .iconst 0] = some 1011 := by decide +kernel
theorem dL_law_1011 : decode cL_law 1011 = .ok (.laload, 1) := by decide +kernel
theorem bkL_law_1012_1016 : pb_chk cL_law 1012 [.iload 6, .i2l, .lcmp] = some 1016 := by decide +kernel
theorem dL_law_1016 : decode cL_law 1016 = .ok (.ifCond .eq 5, 3) := by decide +kernel
theorem bkL_law_1021_1590 : pb_chk cL_law 1021 [.goto 569] = some 1590 := by decide +kernel
set_option maxHeartbeats 4000000 in
set_option maxRecDepth 100000 in
theorem lc_kind {p : Program} {l : Launch} {e : Env} {s : State} {m : MethodId} {args : Array Value} {below : List Frame} {meth : Method} {c : Code} {G : Gm} {b L q ta out mo N i cells slots : Nat} {xs : Nat → Int32} {th : Nat → Th} {as : St3} {S : Sc} {ct : Ct} {H : Heap} {ls : Array Slot} {Q : State → Prop} (C : LC p l s m args meth c G b L xs) (hW : Lw G s.heap H q ta out mo N th as S ct) (hi : i + 5 ≤ L) (hl : LL ls b q mo out i) (hcs : cells + 300 ≤ 717796 ∧ slots + 10000 ≤ 6942715) (kk : LK p l e s m args below meth c G b q ta out mo i cells slots Q) : W p l e room_1 s m args below meth c H [] cells slots Q (F0 m 968 ls []) := by
  obtain ⟨B, hKT, hst, hX, hbl, hL5⟩ := C
  have hlw := hW
  obtain ⟨hH, hms, hP, ⟨y0, hO⟩, hE, D, hI⟩ := hlw
  have hA := hW.A
  have hB := hI.bds
  have hN := hI.1
  have hmo := D.2.2.2.1
  have hl : lv_has ls 7 [(4, .int (nI i)), (0, .ref b), (1, .ref q), (2, .ref mo), (3, .ref out)] := hl
  refine pb_blk B.hx B.hb (lv' := [(4, .int (nI i)), (0, .ref b), (1, .ref q), (2, .ref mo), (3, .ref out)]) (st' := [.int ((nI i) + 1), .ref b, .ref q]) hl bkL_law_968_974 rfl (fun ls hl => ?_)
  rw [show nI i + 1 = nI (i + 1) from nI_add i 1]
  refine l_scr B hX hbl hE (k := i + 1) (by omega) (by omega) (by omega) dL_law_974 ?_
  refine pb_blk B.hx B.hb (lv' := [(4, .int (nI i)), (0, .ref b), (1, .ref q), (2, .ref mo), (3, .ref out)]) (st' := [.ref out, .int (xs (i + 1)), .ref q]) hl bkL_law_975_976 rfl (fun ls hl => ?_)
  refine l_callS B hKT (c_L_kind l hst G (Al q ta out mo) q ta out N th as (xs (i + 1)) hB (Or.inl (Or.inr (Or.inr rfl))) D.2.2.2.2.1 D.2.2.2.2.2.1) ch_L_kind wd_M_L_141 hA ⟨hH, y0, hO⟩ hE rfl hl.1 rfl (Nat.le_of_ble_eq_true rfl) ⟨by decide, by decide⟩ ⟨by show cells + 300 ≤ 717796; omega, by show slots + 10000 ≤ 6942715; omega⟩ dL_law_976 (fw_ge D) (fun v H1 hmv hv => ?_)
  obtain ⟨hms1, hE1⟩ := lw_mid hW hmv
  have hD : Dt (R_kind N th (xs (i + 1))) := dt_kind hN
  obtain ⟨c1, rfl, hH1, hv⟩ := hv
  rcases hv with ⟨rfl, r, hR, hO1⟩ | ⟨hc0, hc4, hR, y1, hO1⟩
  · have hE := hE1
    refine pb_blk B.hx B.hb (lv' := [(5, .int (nI 0)), (4, .int (nI i)), (0, .ref b), (1, .ref q), (2, .ref mo), (3, .ref out)]) (st' := [.int ((nI i) + 1), .ref b, .ref mo]) hl bkL_law_979_987 rfl (fun ls hl => ?_)
    rw [show nI i + 1 = nI (i + 1) from nI_add i 1]
    refine l_scr B hX hbl hE (k := i + 1) (by omega) (by omega) (by omega) dL_law_987 ?_
    refine l_callM B (c_X6_kind l G mo S ct N th as (xs (i + 1)) hP) cy_X6_kind im_X6_kind se_X6_kind wd_M_L_143 hms1 hmo rfl hl.1 rfl (Nat.le_of_ble_eq_true rfl) ⟨by decide, by decide⟩ ⟨rfl, rfl⟩ ⟨by show cells + 300 ≤ 717796; omega, by show slots + 10000 ≤ 6942715; omega⟩ dL_law_988 (fun v H2 S2 ct2 hz he hms2 hv => ?_)
    obtain ⟨c2, r2, r3, hR2, hS2, rfl, g3, hP2⟩ := hv
    have hcc := hD 0 r c2 r2 hR hR2
    obtain ⟨hc, ht⟩ := hcc
    subst hc
    have er : r = r3 := (ht rfl).trans (g3 rfl).symm
    subst er
    refine pb_blk B.hx B.hb (lv' := [(6, .int r), (5, .int (nI 0)), (4, .int (nI i)), (0, .ref b), (1, .ref q), (2, .ref mo), (3, .ref out)]) (st' := [.ref mo]) hl bkL_law_991_994 rfl (fun ls hl => ?_)
    refine n_callV (ci := 5) B (c_X6_thrown l G (fun _ => False) mo S2 ct2 (nI 0) hS2) cy_X6_thrown im_X6_thrown se_X6_thrown wd_M_L_100 rfl hms2.1 hms2 rfl hl.1 rfl (Nat.le_of_ble_eq_true rfl) ⟨by decide, by decide⟩ ⟨by show cells + 300 + 0 ≤ 717796; omega, by show slots + 10000 + 0 ≤ 6942715; omega⟩ dL_law_994 (fun v hv => ?_)
    rw [po_X6_thrown] at hv
    subst hv
    refine pb_blk B.hx B.hb (lv' := [(6, .int r), (5, .int (nI 0)), (4, .int (nI i)), (0, .ref b), (1, .ref q), (2, .ref mo), (3, .ref out)]) (st' := [.int (nI 0), .int (nI 0)]) hl bkL_law_997_999 rfl (fun ls hl => ?_)
    refine lv_icmp_eq (tgt := 1004) B.hx B.hb dL_law_999 (by decide) (fun h1 => ?_) (fun h1 => absurd h1 (not_not_intro rfl))
    refine pb_blk B.hx B.hb (lv' := [(6, .int r), (5, .int (nI 0)), (4, .int (nI i)), (0, .ref b), (1, .ref q), (2, .ref mo), (3, .ref out)]) (st' := [.int (nI 0)]) hl bkL_law_1004_1006 rfl (fun ls hl => ?_)
    refine lv_if_ne (tgt := 1021) B.hx B.hb dL_law_1006 (by decide) (fun h2 => absurd h2 (not_not_intro rfl)) (fun h2 => ?_)
    refine pb_blk B.hx B.hb (lv' := [(6, .int r), (5, .int (nI 0)), (4, .int (nI i)), (0, .ref b), (1, .ref q), (2, .ref mo), (3, .ref out)]) (st' := [.int 0, .ref out]) hl bkL_law_1009_1011 rfl (fun ls hl => ?_)
    obtain ⟨fo, ho1, ho2⟩ := hO1.kept (he out D.2.2.2.2.2.2.2.2)
    refine z_lald B ho1 (show vp_in (nI 0) 1 from vp_in_nI (by decide) (by decide)) (v := .long (o64 r)) ho2 dL_law_1011 ?_
    refine pb_blk B.hx B.hb (lv' := [(6, .int r), (5, .int (nI 0)), (4, .int (nI i)), (0, .ref b), (1, .ref q), (2, .ref mo), (3, .ref out)]) (st' := [.int (lg_cmp (o64 r) r.toInt64)]) hl bkL_law_1012_1016 rfl (fun ls hl => ?_)
    refine lv_if_eq (tgt := 1021) B.hx B.hb dL_law_1016 (by decide) (fun h3 => ?_) (fun h3 => absurd h3 (not_not_intro ((lg_cmp_eq _ _).mpr rfl)))
    refine pb_blk B.hx B.hb (lv' := [(6, .int r), (5, .int (nI 0)), (4, .int (nI i)), (0, .ref b), (1, .ref q), (2, .ref mo), (3, .ref out)]) (st' := []) hl bkL_law_1021_1590 rfl (fun ls hl => ?_)
    exact kk H2 N th as S2 ct2 ls (lw_fin D hE1 hz he hH1 hO1 hms2 hP2 hI) (lv_sub hl [2, 3, 4, 5, 6] rfl)
  · have hE := hE1
    refine pb_blk B.hx B.hb (lv' := [(5, .int (nI c1)), (4, .int (nI i)), (0, .ref b), (1, .ref q), (2, .ref mo), (3, .ref out)]) (st' := [.int ((nI i) + 1), .ref b, .ref mo]) hl bkL_law_979_987 rfl (fun ls hl => ?_)
    rw [show nI i + 1 = nI (i + 1) from nI_add i 1]
    refine l_scr B hX hbl hE (k := i + 1) (by omega) (by omega) (by omega) dL_law_987 ?_
    refine l_callM B (c_X6_kind l G mo S ct N th as (xs (i + 1)) hP) cy_X6_kind im_X6_kind se_X6_kind wd_M_L_143 hms1 hmo rfl hl.1 rfl (Nat.le_of_ble_eq_true rfl) ⟨by decide, by decide⟩ ⟨rfl, rfl⟩ ⟨by show cells + 300 ≤ 717796; omega, by show slots + 10000 ≤ 6942715; omega⟩ dL_law_988 (fun v H2 S2 ct2 hz he hms2 hv => ?_)
    obtain ⟨c2, r2, r3, hR2, hS2, rfl, g3, hP2⟩ := hv
    have hcc := hD c1 r2 c2 r2 (hR r2) hR2
    obtain ⟨hc, ht⟩ := hcc
    subst hc
    refine pb_blk B.hx B.hb (lv' := [(6, .int r3), (5, .int (nI c1)), (4, .int (nI i)), (0, .ref b), (1, .ref q), (2, .ref mo), (3, .ref out)]) (st' := [.ref mo]) hl bkL_law_991_994 rfl (fun ls hl => ?_)
    refine n_callV (ci := 5) B (c_X6_thrown l G (fun _ => False) mo S2 ct2 (nI c1) hS2) cy_X6_thrown im_X6_thrown se_X6_thrown wd_M_L_100 rfl hms2.1 hms2 rfl hl.1 rfl (Nat.le_of_ble_eq_true rfl) ⟨by decide, by decide⟩ ⟨by show cells + 300 + 0 ≤ 717796; omega, by show slots + 10000 + 0 ≤ 6942715; omega⟩ dL_law_994 (fun v hv => ?_)
    rw [po_X6_thrown] at hv
    subst hv
    refine pb_blk B.hx B.hb (lv' := [(6, .int r3), (5, .int (nI c1)), (4, .int (nI i)), (0, .ref b), (1, .ref q), (2, .ref mo), (3, .ref out)]) (st' := [.int (nI c1), .int (nI c1)]) hl bkL_law_997_999 rfl (fun ls hl => ?_)
    refine lv_icmp_eq (tgt := 1004) B.hx B.hb dL_law_999 (by decide) (fun h1 => ?_) (fun h1 => absurd h1 (not_not_intro rfl))
    refine pb_blk B.hx B.hb (lv' := [(6, .int r3), (5, .int (nI c1)), (4, .int (nI i)), (0, .ref b), (1, .ref q), (2, .ref mo), (3, .ref out)]) (st' := [.int (nI c1)]) hl bkL_law_1004_1006 rfl (fun ls hl => ?_)
    refine lv_if_ne (tgt := 1021) B.hx B.hb dL_law_1006 (by decide) (fun h2 => ?_) (fun h2 => absurd h2 (ni_ne hc0 hc4))
    refine pb_blk B.hx B.hb (lv' := [(6, .int r3), (5, .int (nI c1)), (4, .int (nI i)), (0, .ref b), (1, .ref q), (2, .ref mo), (3, .ref out)]) (st' := []) hl bkL_law_1021_1590 rfl (fun ls hl => ?_)
    exact kk H2 N th as S2 ct2 ls (lw_fin D hE1 hz he hH1 hO1 hms2 hP2 hI) (lv_sub hl [2, 3, 4, 5, 6] rfl)

theorem bkL_law_1024_1030 : pb_chk cL_law 1024 [.aload_n 1, .aload_n 0, .iload 4, .iconst 1, .iadd] = some 1030 := by decide +kernel
theorem dL_law_1030 : decode cL_law 1030 = .ok (.iaload, 1) := by decide +kernel
theorem bkL_law_1031_1032 : pb_chk cL_law 1031 [.aload_n 3] = some 1032 := by decide +kernel
theorem dL_law_1032 : decode cL_law 1032 = .ok (.invokestatic 144, 3) := by decide +kernel
theorem bkL_law_1035_1043 : pb_chk cL_law 1035 [.istore 5, .aload_n 2, .aload_n 0, .iload 4, .iconst 1, .iadd] = some 1043 := by decide +kernel
theorem dL_law_1043 : decode cL_law 1043 = .ok (.iaload, 1) := by decide +kernel
theorem dL_law_1044 : decode cL_law 1044 = .ok (.invokevirtual 146, 3) := by decide +kernel
theorem bkL_law_1047_1050 : pb_chk cL_law 1047 [.istore 6, .aload_n 2] = some 1050 := by decide +kernel
theorem dL_law_1050 : decode cL_law 1050 = .ok (.invokevirtual 100, 3) := by decide +kernel
theorem bkL_law_1053_1055 : pb_chk cL_law 1053 [.iload 5] = some 1055 := by decide +kernel
theorem dL_law_1055 : decode cL_law 1055 = .ok (.if_icmp .eq 5, 3) := by decide +kernel
theorem bkL_law_1060_1062 : pb_chk cL_law 1060 [.iload 5] = some 1062 := by decide +kernel
theorem dL_law_1062 : decode cL_law 1062 = .ok (.ifCond .ne 15, 3) := by decide +kernel
theorem bkL_law_1065_1067 : pb_chk cL_law 1065 [.aload_n 3, .iconst 0] = some 1067 := by decide +kernel
theorem dL_law_1067 : decode cL_law 1067 = .ok (.laload, 1) := by decide +kernel
theorem bkL_law_1068_1072 : pb_chk cL_law 1068 [.iload 6, .i2l, .lcmp] = some 1072 := by decide +kernel
theorem dL_law_1072 : decode cL_law 1072 = .ok (.ifCond .eq 5, 3) := by decide +kernel
theorem bkL_law_1077_1590 : pb_chk cL_law 1077 [.goto 513] = some 1590 := by decide +kernel
set_option maxHeartbeats 4000000 in
set_option maxRecDepth 100000 in
theorem lc_degree {p : Program} {l : Launch} {e : Env} {s : State} {m : MethodId} {args : Array Value} {below : List Frame} {meth : Method} {c : Code} {G : Gm} {b L q ta out mo N i cells slots : Nat} {xs : Nat → Int32} {th : Nat → Th} {as : St3} {S : Sc} {ct : Ct} {H : Heap} {ls : Array Slot} {Q : State → Prop} (C : LC p l s m args meth c G b L xs) (hW : Lw G s.heap H q ta out mo N th as S ct) (hi : i + 5 ≤ L) (hl : LL ls b q mo out i) (hcs : cells + 300 ≤ 717796 ∧ slots + 10000 ≤ 6942715) (kk : LK p l e s m args below meth c G b q ta out mo i cells slots Q) : W p l e room_1 s m args below meth c H [] cells slots Q (F0 m 1024 ls []) := by
  obtain ⟨B, hKT, hst, hX, hbl, hL5⟩ := C
  have hlw := hW
  obtain ⟨hH, hms, hP, ⟨y0, hO⟩, hE, D, hI⟩ := hlw
  have hA := hW.A
  have hB := hI.bds
  have hN := hI.1
  have hmo := D.2.2.2.1
  have hl : lv_has ls 7 [(4, .int (nI i)), (0, .ref b), (1, .ref q), (2, .ref mo), (3, .ref out)] := hl
  refine pb_blk B.hx B.hb (lv' := [(4, .int (nI i)), (0, .ref b), (1, .ref q), (2, .ref mo), (3, .ref out)]) (st' := [.int ((nI i) + 1), .ref b, .ref q]) hl bkL_law_1024_1030 rfl (fun ls hl => ?_)
  rw [show nI i + 1 = nI (i + 1) from nI_add i 1]
  refine l_scr B hX hbl hE (k := i + 1) (by omega) (by omega) (by omega) dL_law_1030 ?_
  refine pb_blk B.hx B.hb (lv' := [(4, .int (nI i)), (0, .ref b), (1, .ref q), (2, .ref mo), (3, .ref out)]) (st' := [.ref out, .int (xs (i + 1)), .ref q]) hl bkL_law_1031_1032 rfl (fun ls hl => ?_)
  refine l_callS B hKT (c_L_degree l hst G (Al q ta out mo) q ta out N th as (xs (i + 1)) hB (Or.inl (Or.inr (Or.inr rfl))) D.2.2.2.2.1 D.2.2.2.2.2.1) ch_L_degree wd_M_L_144 hA ⟨hH, y0, hO⟩ hE rfl hl.1 rfl (Nat.le_of_ble_eq_true rfl) ⟨by decide, by decide⟩ ⟨by show cells + 300 ≤ 717796; omega, by show slots + 10000 ≤ 6942715; omega⟩ dL_law_1032 (fw_ge D) (fun v H1 hmv hv => ?_)
  obtain ⟨hms1, hE1⟩ := lw_mid hW hmv
  have hD : Dt (R_degree N th (xs (i + 1))) := dt_degree hN
  obtain ⟨c1, rfl, hH1, hv⟩ := hv
  rcases hv with ⟨rfl, r, hR, hO1⟩ | ⟨hc0, hc4, hR, y1, hO1⟩
  · have hE := hE1
    refine pb_blk B.hx B.hb (lv' := [(5, .int (nI 0)), (4, .int (nI i)), (0, .ref b), (1, .ref q), (2, .ref mo), (3, .ref out)]) (st' := [.int ((nI i) + 1), .ref b, .ref mo]) hl bkL_law_1035_1043 rfl (fun ls hl => ?_)
    rw [show nI i + 1 = nI (i + 1) from nI_add i 1]
    refine l_scr B hX hbl hE (k := i + 1) (by omega) (by omega) (by omega) dL_law_1043 ?_
    refine l_callM B (c_X6_degree l G mo S ct N th as (xs (i + 1)) hP) cy_X6_degree im_X6_degree se_X6_degree wd_M_L_146 hms1 hmo rfl hl.1 rfl (Nat.le_of_ble_eq_true rfl) ⟨by decide, by decide⟩ ⟨rfl, rfl⟩ ⟨by show cells + 300 ≤ 717796; omega, by show slots + 10000 ≤ 6942715; omega⟩ dL_law_1044 (fun v H2 S2 ct2 hz he hms2 hv => ?_)
    obtain ⟨c2, r2, r3, hR2, hS2, rfl, g3, hP2⟩ := hv
    have hcc := hD 0 r c2 r2 hR hR2
    obtain ⟨hc, ht⟩ := hcc
    subst hc
    have er : r = r3 := (ht rfl).trans (g3 rfl).symm
    subst er
    refine pb_blk B.hx B.hb (lv' := [(6, .int r), (5, .int (nI 0)), (4, .int (nI i)), (0, .ref b), (1, .ref q), (2, .ref mo), (3, .ref out)]) (st' := [.ref mo]) hl bkL_law_1047_1050 rfl (fun ls hl => ?_)
    refine n_callV (ci := 5) B (c_X6_thrown l G (fun _ => False) mo S2 ct2 (nI 0) hS2) cy_X6_thrown im_X6_thrown se_X6_thrown wd_M_L_100 rfl hms2.1 hms2 rfl hl.1 rfl (Nat.le_of_ble_eq_true rfl) ⟨by decide, by decide⟩ ⟨by show cells + 300 + 0 ≤ 717796; omega, by show slots + 10000 + 0 ≤ 6942715; omega⟩ dL_law_1050 (fun v hv => ?_)
    rw [po_X6_thrown] at hv
    subst hv
    refine pb_blk B.hx B.hb (lv' := [(6, .int r), (5, .int (nI 0)), (4, .int (nI i)), (0, .ref b), (1, .ref q), (2, .ref mo), (3, .ref out)]) (st' := [.int (nI 0), .int (nI 0)]) hl bkL_law_1053_1055 rfl (fun ls hl => ?_)
    refine lv_icmp_eq (tgt := 1060) B.hx B.hb dL_law_1055 (by decide) (fun h1 => ?_) (fun h1 => absurd h1 (not_not_intro rfl))
    refine pb_blk B.hx B.hb (lv' := [(6, .int r), (5, .int (nI 0)), (4, .int (nI i)), (0, .ref b), (1, .ref q), (2, .ref mo), (3, .ref out)]) (st' := [.int (nI 0)]) hl bkL_law_1060_1062 rfl (fun ls hl => ?_)
    refine lv_if_ne (tgt := 1077) B.hx B.hb dL_law_1062 (by decide) (fun h2 => absurd h2 (not_not_intro rfl)) (fun h2 => ?_)
    refine pb_blk B.hx B.hb (lv' := [(6, .int r), (5, .int (nI 0)), (4, .int (nI i)), (0, .ref b), (1, .ref q), (2, .ref mo), (3, .ref out)]) (st' := [.int 0, .ref out]) hl bkL_law_1065_1067 rfl (fun ls hl => ?_)
    obtain ⟨fo, ho1, ho2⟩ := hO1.kept (he out D.2.2.2.2.2.2.2.2)
    refine z_lald B ho1 (show vp_in (nI 0) 1 from vp_in_nI (by decide) (by decide)) (v := .long (o64 r)) ho2 dL_law_1067 ?_
    refine pb_blk B.hx B.hb (lv' := [(6, .int r), (5, .int (nI 0)), (4, .int (nI i)), (0, .ref b), (1, .ref q), (2, .ref mo), (3, .ref out)]) (st' := [.int (lg_cmp (o64 r) r.toInt64)]) hl bkL_law_1068_1072 rfl (fun ls hl => ?_)
    refine lv_if_eq (tgt := 1077) B.hx B.hb dL_law_1072 (by decide) (fun h3 => ?_) (fun h3 => absurd h3 (not_not_intro ((lg_cmp_eq _ _).mpr rfl)))
    refine pb_blk B.hx B.hb (lv' := [(6, .int r), (5, .int (nI 0)), (4, .int (nI i)), (0, .ref b), (1, .ref q), (2, .ref mo), (3, .ref out)]) (st' := []) hl bkL_law_1077_1590 rfl (fun ls hl => ?_)
    exact kk H2 N th as S2 ct2 ls (lw_fin D hE1 hz he hH1 hO1 hms2 hP2 hI) (lv_sub hl [2, 3, 4, 5, 6] rfl)
  · have hE := hE1
    refine pb_blk B.hx B.hb (lv' := [(5, .int (nI c1)), (4, .int (nI i)), (0, .ref b), (1, .ref q), (2, .ref mo), (3, .ref out)]) (st' := [.int ((nI i) + 1), .ref b, .ref mo]) hl bkL_law_1035_1043 rfl (fun ls hl => ?_)
    rw [show nI i + 1 = nI (i + 1) from nI_add i 1]
    refine l_scr B hX hbl hE (k := i + 1) (by omega) (by omega) (by omega) dL_law_1043 ?_
    refine l_callM B (c_X6_degree l G mo S ct N th as (xs (i + 1)) hP) cy_X6_degree im_X6_degree se_X6_degree wd_M_L_146 hms1 hmo rfl hl.1 rfl (Nat.le_of_ble_eq_true rfl) ⟨by decide, by decide⟩ ⟨rfl, rfl⟩ ⟨by show cells + 300 ≤ 717796; omega, by show slots + 10000 ≤ 6942715; omega⟩ dL_law_1044 (fun v H2 S2 ct2 hz he hms2 hv => ?_)
    obtain ⟨c2, r2, r3, hR2, hS2, rfl, g3, hP2⟩ := hv
    have hcc := hD c1 r2 c2 r2 (hR r2) hR2
    obtain ⟨hc, ht⟩ := hcc
    subst hc
    refine pb_blk B.hx B.hb (lv' := [(6, .int r3), (5, .int (nI c1)), (4, .int (nI i)), (0, .ref b), (1, .ref q), (2, .ref mo), (3, .ref out)]) (st' := [.ref mo]) hl bkL_law_1047_1050 rfl (fun ls hl => ?_)
    refine n_callV (ci := 5) B (c_X6_thrown l G (fun _ => False) mo S2 ct2 (nI c1) hS2) cy_X6_thrown im_X6_thrown se_X6_thrown wd_M_L_100 rfl hms2.1 hms2 rfl hl.1 rfl (Nat.le_of_ble_eq_true rfl) ⟨by decide, by decide⟩ ⟨by show cells + 300 + 0 ≤ 717796; omega, by show slots + 10000 + 0 ≤ 6942715; omega⟩ dL_law_1050 (fun v hv => ?_)
    rw [po_X6_thrown] at hv
    subst hv
    refine pb_blk B.hx B.hb (lv' := [(6, .int r3), (5, .int (nI c1)), (4, .int (nI i)), (0, .ref b), (1, .ref q), (2, .ref mo), (3, .ref out)]) (st' := [.int (nI c1), .int (nI c1)]) hl bkL_law_1053_1055 rfl (fun ls hl => ?_)
    refine lv_icmp_eq (tgt := 1060) B.hx B.hb dL_law_1055 (by decide) (fun h1 => ?_) (fun h1 => absurd h1 (not_not_intro rfl))
    refine pb_blk B.hx B.hb (lv' := [(6, .int r3), (5, .int (nI c1)), (4, .int (nI i)), (0, .ref b), (1, .ref q), (2, .ref mo), (3, .ref out)]) (st' := [.int (nI c1)]) hl bkL_law_1060_1062 rfl (fun ls hl => ?_)
    refine lv_if_ne (tgt := 1077) B.hx B.hb dL_law_1062 (by decide) (fun h2 => ?_) (fun h2 => absurd h2 (ni_ne hc0 hc4))
    refine pb_blk B.hx B.hb (lv' := [(6, .int r3), (5, .int (nI c1)), (4, .int (nI i)), (0, .ref b), (1, .ref q), (2, .ref mo), (3, .ref out)]) (st' := []) hl bkL_law_1077_1590 rfl (fun ls hl => ?_)
    exact kk H2 N th as S2 ct2 ls (lw_fin D hE1 hz he hH1 hO1 hms2 hP2 hI) (lv_sub hl [2, 3, 4, 5, 6] rfl)

theorem bkL_law_1080_1086 : pb_chk cL_law 1080 [.aload_n 1, .aload_n 0, .iload 4, .iconst 1, .iadd] = some 1086 := by decide +kernel
theorem dL_law_1086 : decode cL_law 1086 = .ok (.iaload, 1) := by decide +kernel
theorem bkL_law_1087_1092 : pb_chk cL_law 1087 [.aload_n 0, .iload 4, .iconst 2, .iadd] = some 1092 := by decide +kernel
theorem dL_law_1092 : decode cL_law 1092 = .ok (.iaload, 1) := by decide +kernel
theorem bkL_law_1093_1098 : pb_chk cL_law 1093 [.aload_n 0, .iload 4, .iconst 3, .iadd] = some 1098 := by decide +kernel
theorem dL_law_1098 : decode cL_law 1098 = .ok (.iaload, 1) := by decide +kernel
theorem bkL_law_1099_1100 : pb_chk cL_law 1099 [.aload_n 3] = some 1100 := by decide +kernel
theorem dL_law_1100 : decode cL_law 1100 = .ok (.invokestatic 147, 3) := by decide +kernel
theorem bkL_law_1103_1111 : pb_chk cL_law 1103 [.istore 5, .aload_n 2, .aload_n 0, .iload 4, .iconst 1, .iadd] = some 1111 := by decide +kernel
theorem dL_law_1111 : decode cL_law 1111 = .ok (.iaload, 1) := by decide +kernel
theorem bkL_law_1112_1117 : pb_chk cL_law 1112 [.aload_n 0, .iload 4, .iconst 2, .iadd] = some 1117 := by decide +kernel
theorem dL_law_1117 : decode cL_law 1117 = .ok (.iaload, 1) := by decide +kernel
theorem bkL_law_1118_1123 : pb_chk cL_law 1118 [.aload_n 0, .iload 4, .iconst 3, .iadd] = some 1123 := by decide +kernel
theorem dL_law_1123 : decode cL_law 1123 = .ok (.iaload, 1) := by decide +kernel
theorem dL_law_1124 : decode cL_law 1124 = .ok (.invokevirtual 150, 3) := by decide +kernel
theorem bkL_law_1127_1130 : pb_chk cL_law 1127 [.istore 6, .aload_n 2] = some 1130 := by decide +kernel
theorem dL_law_1130 : decode cL_law 1130 = .ok (.invokevirtual 100, 3) := by decide +kernel
theorem bkL_law_1133_1135 : pb_chk cL_law 1133 [.iload 5] = some 1135 := by decide +kernel
theorem dL_law_1135 : decode cL_law 1135 = .ok (.if_icmp .eq 5, 3) := by decide +kernel
theorem bkL_law_1140_1142 : pb_chk cL_law 1140 [.iload 5] = some 1142 := by decide +kernel
theorem dL_law_1142 : decode cL_law 1142 = .ok (.ifCond .ne 15, 3) := by decide +kernel
theorem bkL_law_1145_1147 : pb_chk cL_law 1145 [.aload_n 3, .iconst 0] = some 1147 := by decide +kernel
theorem dL_law_1147 : decode cL_law 1147 = .ok (.laload, 1) := by decide +kernel
theorem bkL_law_1148_1152 : pb_chk cL_law 1148 [.iload 6, .i2l, .lcmp] = some 1152 := by decide +kernel
theorem dL_law_1152 : decode cL_law 1152 = .ok (.ifCond .eq 5, 3) := by decide +kernel
theorem bkL_law_1157_1590 : pb_chk cL_law 1157 [.goto 433] = some 1590 := by decide +kernel
set_option maxHeartbeats 4000000 in
set_option maxRecDepth 100000 in
theorem lc_at {p : Program} {l : Launch} {e : Env} {s : State} {m : MethodId} {args : Array Value} {below : List Frame} {meth : Method} {c : Code} {G : Gm} {b L q ta out mo N i cells slots : Nat} {xs : Nat → Int32} {th : Nat → Th} {as : St3} {S : Sc} {ct : Ct} {H : Heap} {ls : Array Slot} {Q : State → Prop} (C : LC p l s m args meth c G b L xs) (hW : Lw G s.heap H q ta out mo N th as S ct) (hi : i + 5 ≤ L) (hl : LL ls b q mo out i) (hcs : cells + 300 ≤ 717796 ∧ slots + 10000 ≤ 6942715) (kk : LK p l e s m args below meth c G b q ta out mo i cells slots Q) : W p l e room_1 s m args below meth c H [] cells slots Q (F0 m 1080 ls []) := by
  obtain ⟨B, hKT, hst, hX, hbl, hL5⟩ := C
  have hlw := hW
  obtain ⟨hH, hms, hP, ⟨y0, hO⟩, hE, D, hI⟩ := hlw
  have hA := hW.A
  have hB := hI.bds
  have hN := hI.1
  have hmo := D.2.2.2.1
  have hl : lv_has ls 7 [(4, .int (nI i)), (0, .ref b), (1, .ref q), (2, .ref mo), (3, .ref out)] := hl
  refine pb_blk B.hx B.hb (lv' := [(4, .int (nI i)), (0, .ref b), (1, .ref q), (2, .ref mo), (3, .ref out)]) (st' := [.int ((nI i) + 1), .ref b, .ref q]) hl bkL_law_1080_1086 rfl (fun ls hl => ?_)
  rw [show nI i + 1 = nI (i + 1) from nI_add i 1]
  refine l_scr B hX hbl hE (k := i + 1) (by omega) (by omega) (by omega) dL_law_1086 ?_
  refine pb_blk B.hx B.hb (lv' := [(4, .int (nI i)), (0, .ref b), (1, .ref q), (2, .ref mo), (3, .ref out)]) (st' := [.int ((nI i) + 2), .ref b, .int (xs (i + 1)), .ref q]) hl bkL_law_1087_1092 rfl (fun ls hl => ?_)
  rw [show nI i + 2 = nI (i + 2) from nI_add i 2]
  refine l_scr B hX hbl hE (k := i + 2) (by omega) (by omega) (by omega) dL_law_1092 ?_
  refine pb_blk B.hx B.hb (lv' := [(4, .int (nI i)), (0, .ref b), (1, .ref q), (2, .ref mo), (3, .ref out)]) (st' := [.int ((nI i) + 3), .ref b, .int (xs (i + 2)), .int (xs (i + 1)), .ref q]) hl bkL_law_1093_1098 rfl (fun ls hl => ?_)
  rw [show nI i + 3 = nI (i + 3) from nI_add i 3]
  refine l_scr B hX hbl hE (k := i + 3) (by omega) (by omega) (by omega) dL_law_1098 ?_
  refine pb_blk B.hx B.hb (lv' := [(4, .int (nI i)), (0, .ref b), (1, .ref q), (2, .ref mo), (3, .ref out)]) (st' := [.ref out, .int (xs (i + 3)), .int (xs (i + 2)), .int (xs (i + 1)), .ref q]) hl bkL_law_1099_1100 rfl (fun ls hl => ?_)
  refine l_callS B hKT (c_L_at l hst G (Al q ta out mo) q ta out N th as (xs (i + 1)) (xs (i + 2)) (xs (i + 3)) hB (Or.inl (Or.inr (Or.inr rfl))) D.2.2.2.2.1 D.2.2.2.2.2.1) ch_L_at wd_M_L_147 hA ⟨hH, y0, hO⟩ hE rfl hl.1 rfl (Nat.le_of_ble_eq_true rfl) ⟨by decide, by decide⟩ ⟨by show cells + 300 ≤ 717796; omega, by show slots + 10000 ≤ 6942715; omega⟩ dL_law_1100 (fw_ge D) (fun v H1 hmv hv => ?_)
  obtain ⟨hms1, hE1⟩ := lw_mid hW hmv
  have hD : Dt (R_at N th (xs (i + 1)) (xs (i + 2)) (xs (i + 3))) := dt_at hN
  obtain ⟨c1, rfl, hH1, hv⟩ := hv
  rcases hv with ⟨rfl, r, hR, hO1⟩ | ⟨hc0, hc4, hR, y1, hO1⟩
  · have hE := hE1
    refine pb_blk B.hx B.hb (lv' := [(5, .int (nI 0)), (4, .int (nI i)), (0, .ref b), (1, .ref q), (2, .ref mo), (3, .ref out)]) (st' := [.int ((nI i) + 1), .ref b, .ref mo]) hl bkL_law_1103_1111 rfl (fun ls hl => ?_)
    rw [show nI i + 1 = nI (i + 1) from nI_add i 1]
    refine l_scr B hX hbl hE (k := i + 1) (by omega) (by omega) (by omega) dL_law_1111 ?_
    refine pb_blk B.hx B.hb (lv' := [(5, .int (nI 0)), (4, .int (nI i)), (0, .ref b), (1, .ref q), (2, .ref mo), (3, .ref out)]) (st' := [.int ((nI i) + 2), .ref b, .int (xs (i + 1)), .ref mo]) hl bkL_law_1112_1117 rfl (fun ls hl => ?_)
    rw [show nI i + 2 = nI (i + 2) from nI_add i 2]
    refine l_scr B hX hbl hE (k := i + 2) (by omega) (by omega) (by omega) dL_law_1117 ?_
    refine pb_blk B.hx B.hb (lv' := [(5, .int (nI 0)), (4, .int (nI i)), (0, .ref b), (1, .ref q), (2, .ref mo), (3, .ref out)]) (st' := [.int ((nI i) + 3), .ref b, .int (xs (i + 2)), .int (xs (i + 1)), .ref mo]) hl bkL_law_1118_1123 rfl (fun ls hl => ?_)
    rw [show nI i + 3 = nI (i + 3) from nI_add i 3]
    refine l_scr B hX hbl hE (k := i + 3) (by omega) (by omega) (by omega) dL_law_1123 ?_
    refine l_callM B (c_X6_at l G mo S ct N th as (xs (i + 1)) (xs (i + 2)) (xs (i + 3)) hP hB) cy_X6_at im_X6_at se_X6_at wd_M_L_150 hms1 hmo rfl hl.1 rfl (Nat.le_of_ble_eq_true rfl) ⟨by decide, by decide⟩ ⟨rfl, rfl⟩ ⟨by show cells + 300 ≤ 717796; omega, by show slots + 10000 ≤ 6942715; omega⟩ dL_law_1124 (fun v H2 S2 ct2 hz he hms2 hv => ?_)
    obtain ⟨c2, r2, r3, hR2, hS2, rfl, g3, hP2⟩ := hv
    have hcc := hD 0 r c2 r2 hR hR2
    obtain ⟨hc, ht⟩ := hcc
    subst hc
    have er : r = r3 := (ht rfl).trans (g3 rfl).symm
    subst er
    refine pb_blk B.hx B.hb (lv' := [(6, .int r), (5, .int (nI 0)), (4, .int (nI i)), (0, .ref b), (1, .ref q), (2, .ref mo), (3, .ref out)]) (st' := [.ref mo]) hl bkL_law_1127_1130 rfl (fun ls hl => ?_)
    refine n_callV (ci := 5) B (c_X6_thrown l G (fun _ => False) mo S2 ct2 (nI 0) hS2) cy_X6_thrown im_X6_thrown se_X6_thrown wd_M_L_100 rfl hms2.1 hms2 rfl hl.1 rfl (Nat.le_of_ble_eq_true rfl) ⟨by decide, by decide⟩ ⟨by show cells + 300 + 0 ≤ 717796; omega, by show slots + 10000 + 0 ≤ 6942715; omega⟩ dL_law_1130 (fun v hv => ?_)
    rw [po_X6_thrown] at hv
    subst hv
    refine pb_blk B.hx B.hb (lv' := [(6, .int r), (5, .int (nI 0)), (4, .int (nI i)), (0, .ref b), (1, .ref q), (2, .ref mo), (3, .ref out)]) (st' := [.int (nI 0), .int (nI 0)]) hl bkL_law_1133_1135 rfl (fun ls hl => ?_)
    refine lv_icmp_eq (tgt := 1140) B.hx B.hb dL_law_1135 (by decide) (fun h1 => ?_) (fun h1 => absurd h1 (not_not_intro rfl))
    refine pb_blk B.hx B.hb (lv' := [(6, .int r), (5, .int (nI 0)), (4, .int (nI i)), (0, .ref b), (1, .ref q), (2, .ref mo), (3, .ref out)]) (st' := [.int (nI 0)]) hl bkL_law_1140_1142 rfl (fun ls hl => ?_)
    refine lv_if_ne (tgt := 1157) B.hx B.hb dL_law_1142 (by decide) (fun h2 => absurd h2 (not_not_intro rfl)) (fun h2 => ?_)
    refine pb_blk B.hx B.hb (lv' := [(6, .int r), (5, .int (nI 0)), (4, .int (nI i)), (0, .ref b), (1, .ref q), (2, .ref mo), (3, .ref out)]) (st' := [.int 0, .ref out]) hl bkL_law_1145_1147 rfl (fun ls hl => ?_)
    obtain ⟨fo, ho1, ho2⟩ := hO1.kept (he out D.2.2.2.2.2.2.2.2)
    refine z_lald B ho1 (show vp_in (nI 0) 1 from vp_in_nI (by decide) (by decide)) (v := .long (o64 r)) ho2 dL_law_1147 ?_
    refine pb_blk B.hx B.hb (lv' := [(6, .int r), (5, .int (nI 0)), (4, .int (nI i)), (0, .ref b), (1, .ref q), (2, .ref mo), (3, .ref out)]) (st' := [.int (lg_cmp (o64 r) r.toInt64)]) hl bkL_law_1148_1152 rfl (fun ls hl => ?_)
    refine lv_if_eq (tgt := 1157) B.hx B.hb dL_law_1152 (by decide) (fun h3 => ?_) (fun h3 => absurd h3 (not_not_intro ((lg_cmp_eq _ _).mpr rfl)))
    refine pb_blk B.hx B.hb (lv' := [(6, .int r), (5, .int (nI 0)), (4, .int (nI i)), (0, .ref b), (1, .ref q), (2, .ref mo), (3, .ref out)]) (st' := []) hl bkL_law_1157_1590 rfl (fun ls hl => ?_)
    exact kk H2 N th as S2 ct2 ls (lw_fin D hE1 hz he hH1 hO1 hms2 hP2 hI) (lv_sub hl [2, 3, 4, 5, 6] rfl)
  · have hE := hE1
    refine pb_blk B.hx B.hb (lv' := [(5, .int (nI c1)), (4, .int (nI i)), (0, .ref b), (1, .ref q), (2, .ref mo), (3, .ref out)]) (st' := [.int ((nI i) + 1), .ref b, .ref mo]) hl bkL_law_1103_1111 rfl (fun ls hl => ?_)
    rw [show nI i + 1 = nI (i + 1) from nI_add i 1]
    refine l_scr B hX hbl hE (k := i + 1) (by omega) (by omega) (by omega) dL_law_1111 ?_
    refine pb_blk B.hx B.hb (lv' := [(5, .int (nI c1)), (4, .int (nI i)), (0, .ref b), (1, .ref q), (2, .ref mo), (3, .ref out)]) (st' := [.int ((nI i) + 2), .ref b, .int (xs (i + 1)), .ref mo]) hl bkL_law_1112_1117 rfl (fun ls hl => ?_)
    rw [show nI i + 2 = nI (i + 2) from nI_add i 2]
    refine l_scr B hX hbl hE (k := i + 2) (by omega) (by omega) (by omega) dL_law_1117 ?_
    refine pb_blk B.hx B.hb (lv' := [(5, .int (nI c1)), (4, .int (nI i)), (0, .ref b), (1, .ref q), (2, .ref mo), (3, .ref out)]) (st' := [.int ((nI i) + 3), .ref b, .int (xs (i + 2)), .int (xs (i + 1)), .ref mo]) hl bkL_law_1118_1123 rfl (fun ls hl => ?_)
    rw [show nI i + 3 = nI (i + 3) from nI_add i 3]
    refine l_scr B hX hbl hE (k := i + 3) (by omega) (by omega) (by omega) dL_law_1123 ?_
    refine l_callM B (c_X6_at l G mo S ct N th as (xs (i + 1)) (xs (i + 2)) (xs (i + 3)) hP hB) cy_X6_at im_X6_at se_X6_at wd_M_L_150 hms1 hmo rfl hl.1 rfl (Nat.le_of_ble_eq_true rfl) ⟨by decide, by decide⟩ ⟨rfl, rfl⟩ ⟨by show cells + 300 ≤ 717796; omega, by show slots + 10000 ≤ 6942715; omega⟩ dL_law_1124 (fun v H2 S2 ct2 hz he hms2 hv => ?_)
    obtain ⟨c2, r2, r3, hR2, hS2, rfl, g3, hP2⟩ := hv
    have hcc := hD c1 r2 c2 r2 (hR r2) hR2
    obtain ⟨hc, ht⟩ := hcc
    subst hc
    refine pb_blk B.hx B.hb (lv' := [(6, .int r3), (5, .int (nI c1)), (4, .int (nI i)), (0, .ref b), (1, .ref q), (2, .ref mo), (3, .ref out)]) (st' := [.ref mo]) hl bkL_law_1127_1130 rfl (fun ls hl => ?_)
    refine n_callV (ci := 5) B (c_X6_thrown l G (fun _ => False) mo S2 ct2 (nI c1) hS2) cy_X6_thrown im_X6_thrown se_X6_thrown wd_M_L_100 rfl hms2.1 hms2 rfl hl.1 rfl (Nat.le_of_ble_eq_true rfl) ⟨by decide, by decide⟩ ⟨by show cells + 300 + 0 ≤ 717796; omega, by show slots + 10000 + 0 ≤ 6942715; omega⟩ dL_law_1130 (fun v hv => ?_)
    rw [po_X6_thrown] at hv
    subst hv
    refine pb_blk B.hx B.hb (lv' := [(6, .int r3), (5, .int (nI c1)), (4, .int (nI i)), (0, .ref b), (1, .ref q), (2, .ref mo), (3, .ref out)]) (st' := [.int (nI c1), .int (nI c1)]) hl bkL_law_1133_1135 rfl (fun ls hl => ?_)
    refine lv_icmp_eq (tgt := 1140) B.hx B.hb dL_law_1135 (by decide) (fun h1 => ?_) (fun h1 => absurd h1 (not_not_intro rfl))
    refine pb_blk B.hx B.hb (lv' := [(6, .int r3), (5, .int (nI c1)), (4, .int (nI i)), (0, .ref b), (1, .ref q), (2, .ref mo), (3, .ref out)]) (st' := [.int (nI c1)]) hl bkL_law_1140_1142 rfl (fun ls hl => ?_)
    refine lv_if_ne (tgt := 1157) B.hx B.hb dL_law_1142 (by decide) (fun h2 => ?_) (fun h2 => absurd h2 (ni_ne hc0 hc4))
    refine pb_blk B.hx B.hb (lv' := [(6, .int r3), (5, .int (nI c1)), (4, .int (nI i)), (0, .ref b), (1, .ref q), (2, .ref mo), (3, .ref out)]) (st' := []) hl bkL_law_1157_1590 rfl (fun ls hl => ?_)
    exact kk H2 N th as S2 ct2 ls (lw_fin D hE1 hz he hH1 hO1 hms2 hP2 hI) (lv_sub hl [2, 3, 4, 5, 6] rfl)

theorem bkL_law_1160_1166 : pb_chk cL_law 1160 [.aload_n 1, .aload_n 0, .iload 4, .iconst 1, .iadd] = some 1166 := by decide +kernel
theorem dL_law_1166 : decode cL_law 1166 = .ok (.iaload, 1) := by decide +kernel
theorem bkL_law_1167_1168 : pb_chk cL_law 1167 [.aload_n 3] = some 1168 := by decide +kernel
theorem dL_law_1168 : decode cL_law 1168 = .ok (.invokestatic 151, 3) := by decide +kernel
theorem bkL_law_1171_1179 : pb_chk cL_law 1171 [.istore 5, .aload_n 2, .aload_n 0, .iload 4, .iconst 1, .iadd] = some 1179 := by decide +kernel
theorem dL_law_1179 : decode cL_law 1179 = .ok (.iaload, 1) := by decide +kernel
theorem dL_law_1180 : decode cL_law 1180 = .ok (.invokevirtual 153, 3) := by decide +kernel
theorem bkL_law_1183_1186 : pb_chk cL_law 1183 [.istore 6, .aload_n 2] = some 1186 := by decide +kernel
theorem dL_law_1186 : decode cL_law 1186 = .ok (.invokevirtual 100, 3) := by decide +kernel
theorem bkL_law_1189_1191 : pb_chk cL_law 1189 [.iload 5] = some 1191 := by decide +kernel
theorem dL_law_1191 : decode cL_law 1191 = .ok (.if_icmp .eq 5, 3) := by decide +kernel
theorem bkL_law_1196_1198 : pb_chk cL_law 1196 [.iload 5] = some 1198 := by decide +kernel
theorem dL_law_1198 : decode cL_law 1198 = .ok (.ifCond .ne 15, 3) := by decide +kernel
theorem bkL_law_1201_1203 : pb_chk cL_law 1201 [.aload_n 3, .iconst 0] = some 1203 := by decide +kernel
theorem dL_law_1203 : decode cL_law 1203 = .ok (.laload, 1) := by decide +kernel
theorem bkL_law_1204_1208 : pb_chk cL_law 1204 [.iload 6, .i2l, .lcmp] = some 1208 := by decide +kernel
theorem dL_law_1208 : decode cL_law 1208 = .ok (.ifCond .eq 5, 3) := by decide +kernel
theorem bkL_law_1213_1590 : pb_chk cL_law 1213 [.goto 377] = some 1590 := by decide +kernel
set_option maxHeartbeats 4000000 in
set_option maxRecDepth 100000 in
theorem lc_pieces {p : Program} {l : Launch} {e : Env} {s : State} {m : MethodId} {args : Array Value} {below : List Frame} {meth : Method} {c : Code} {G : Gm} {b L q ta out mo N i cells slots : Nat} {xs : Nat → Int32} {th : Nat → Th} {as : St3} {S : Sc} {ct : Ct} {H : Heap} {ls : Array Slot} {Q : State → Prop} (C : LC p l s m args meth c G b L xs) (hW : Lw G s.heap H q ta out mo N th as S ct) (hi : i + 5 ≤ L) (hl : LL ls b q mo out i) (hcs : cells + 300 ≤ 717796 ∧ slots + 10000 ≤ 6942715) (kk : LK p l e s m args below meth c G b q ta out mo i cells slots Q) : W p l e room_1 s m args below meth c H [] cells slots Q (F0 m 1160 ls []) := by
  obtain ⟨B, hKT, hst, hX, hbl, hL5⟩ := C
  have hlw := hW
  obtain ⟨hH, hms, hP, ⟨y0, hO⟩, hE, D, hI⟩ := hlw
  have hA := hW.A
  have hB := hI.bds
  have hN := hI.1
  have hmo := D.2.2.2.1
  have hl : lv_has ls 7 [(4, .int (nI i)), (0, .ref b), (1, .ref q), (2, .ref mo), (3, .ref out)] := hl
  refine pb_blk B.hx B.hb (lv' := [(4, .int (nI i)), (0, .ref b), (1, .ref q), (2, .ref mo), (3, .ref out)]) (st' := [.int ((nI i) + 1), .ref b, .ref q]) hl bkL_law_1160_1166 rfl (fun ls hl => ?_)
  rw [show nI i + 1 = nI (i + 1) from nI_add i 1]
  refine l_scr B hX hbl hE (k := i + 1) (by omega) (by omega) (by omega) dL_law_1166 ?_
  refine pb_blk B.hx B.hb (lv' := [(4, .int (nI i)), (0, .ref b), (1, .ref q), (2, .ref mo), (3, .ref out)]) (st' := [.ref out, .int (xs (i + 1)), .ref q]) hl bkL_law_1167_1168 rfl (fun ls hl => ?_)
  refine l_callS B hKT (c_L_pieces l hst G (Al q ta out mo) q ta out N th as (xs (i + 1)) hB (Or.inl (Or.inr (Or.inr rfl))) D.2.2.2.2.1 D.2.2.2.2.2.1) ch_L_pieces wd_M_L_151 hA ⟨hH, y0, hO⟩ hE rfl hl.1 rfl (Nat.le_of_ble_eq_true rfl) ⟨by decide, by decide⟩ ⟨by show cells + 300 ≤ 717796; omega, by show slots + 10000 ≤ 6942715; omega⟩ dL_law_1168 (fw_ge D) (fun v H1 hmv hv => ?_)
  obtain ⟨hms1, hE1⟩ := lw_mid hW hmv
  have hD : Dt (R_pieces N th (xs (i + 1))) := dt_pieces hN
  obtain ⟨c1, rfl, hH1, hv⟩ := hv
  rcases hv with ⟨rfl, r, hR, hO1⟩ | ⟨hc0, hc4, hR, y1, hO1⟩
  · have hE := hE1
    refine pb_blk B.hx B.hb (lv' := [(5, .int (nI 0)), (4, .int (nI i)), (0, .ref b), (1, .ref q), (2, .ref mo), (3, .ref out)]) (st' := [.int ((nI i) + 1), .ref b, .ref mo]) hl bkL_law_1171_1179 rfl (fun ls hl => ?_)
    rw [show nI i + 1 = nI (i + 1) from nI_add i 1]
    refine l_scr B hX hbl hE (k := i + 1) (by omega) (by omega) (by omega) dL_law_1179 ?_
    refine l_callM B (c_X6_pieces l G mo S ct N th as (xs (i + 1)) hP) cy_X6_pieces im_X6_pieces se_X6_pieces wd_M_L_153 hms1 hmo rfl hl.1 rfl (Nat.le_of_ble_eq_true rfl) ⟨by decide, by decide⟩ ⟨rfl, rfl⟩ ⟨by show cells + 300 ≤ 717796; omega, by show slots + 10000 ≤ 6942715; omega⟩ dL_law_1180 (fun v H2 S2 ct2 hz he hms2 hv => ?_)
    obtain ⟨c2, r2, r3, hR2, hS2, rfl, g3, hP2⟩ := hv
    have hcc := hD 0 r c2 r2 hR hR2
    obtain ⟨hc, ht⟩ := hcc
    subst hc
    have er : r = r3 := (ht rfl).trans (g3 rfl).symm
    subst er
    refine pb_blk B.hx B.hb (lv' := [(6, .int r), (5, .int (nI 0)), (4, .int (nI i)), (0, .ref b), (1, .ref q), (2, .ref mo), (3, .ref out)]) (st' := [.ref mo]) hl bkL_law_1183_1186 rfl (fun ls hl => ?_)
    refine n_callV (ci := 5) B (c_X6_thrown l G (fun _ => False) mo S2 ct2 (nI 0) hS2) cy_X6_thrown im_X6_thrown se_X6_thrown wd_M_L_100 rfl hms2.1 hms2 rfl hl.1 rfl (Nat.le_of_ble_eq_true rfl) ⟨by decide, by decide⟩ ⟨by show cells + 300 + 0 ≤ 717796; omega, by show slots + 10000 + 0 ≤ 6942715; omega⟩ dL_law_1186 (fun v hv => ?_)
    rw [po_X6_thrown] at hv
    subst hv
    refine pb_blk B.hx B.hb (lv' := [(6, .int r), (5, .int (nI 0)), (4, .int (nI i)), (0, .ref b), (1, .ref q), (2, .ref mo), (3, .ref out)]) (st' := [.int (nI 0), .int (nI 0)]) hl bkL_law_1189_1191 rfl (fun ls hl => ?_)
    refine lv_icmp_eq (tgt := 1196) B.hx B.hb dL_law_1191 (by decide) (fun h1 => ?_) (fun h1 => absurd h1 (not_not_intro rfl))
    refine pb_blk B.hx B.hb (lv' := [(6, .int r), (5, .int (nI 0)), (4, .int (nI i)), (0, .ref b), (1, .ref q), (2, .ref mo), (3, .ref out)]) (st' := [.int (nI 0)]) hl bkL_law_1196_1198 rfl (fun ls hl => ?_)
    refine lv_if_ne (tgt := 1213) B.hx B.hb dL_law_1198 (by decide) (fun h2 => absurd h2 (not_not_intro rfl)) (fun h2 => ?_)
    refine pb_blk B.hx B.hb (lv' := [(6, .int r), (5, .int (nI 0)), (4, .int (nI i)), (0, .ref b), (1, .ref q), (2, .ref mo), (3, .ref out)]) (st' := [.int 0, .ref out]) hl bkL_law_1201_1203 rfl (fun ls hl => ?_)
    obtain ⟨fo, ho1, ho2⟩ := hO1.kept (he out D.2.2.2.2.2.2.2.2)
    refine z_lald B ho1 (show vp_in (nI 0) 1 from vp_in_nI (by decide) (by decide)) (v := .long (o64 r)) ho2 dL_law_1203 ?_
    refine pb_blk B.hx B.hb (lv' := [(6, .int r), (5, .int (nI 0)), (4, .int (nI i)), (0, .ref b), (1, .ref q), (2, .ref mo), (3, .ref out)]) (st' := [.int (lg_cmp (o64 r) r.toInt64)]) hl bkL_law_1204_1208 rfl (fun ls hl => ?_)
    refine lv_if_eq (tgt := 1213) B.hx B.hb dL_law_1208 (by decide) (fun h3 => ?_) (fun h3 => absurd h3 (not_not_intro ((lg_cmp_eq _ _).mpr rfl)))
    refine pb_blk B.hx B.hb (lv' := [(6, .int r), (5, .int (nI 0)), (4, .int (nI i)), (0, .ref b), (1, .ref q), (2, .ref mo), (3, .ref out)]) (st' := []) hl bkL_law_1213_1590 rfl (fun ls hl => ?_)
    exact kk H2 N th as S2 ct2 ls (lw_fin D hE1 hz he hH1 hO1 hms2 hP2 hI) (lv_sub hl [2, 3, 4, 5, 6] rfl)
  · have hE := hE1
    refine pb_blk B.hx B.hb (lv' := [(5, .int (nI c1)), (4, .int (nI i)), (0, .ref b), (1, .ref q), (2, .ref mo), (3, .ref out)]) (st' := [.int ((nI i) + 1), .ref b, .ref mo]) hl bkL_law_1171_1179 rfl (fun ls hl => ?_)
    rw [show nI i + 1 = nI (i + 1) from nI_add i 1]
    refine l_scr B hX hbl hE (k := i + 1) (by omega) (by omega) (by omega) dL_law_1179 ?_
    refine l_callM B (c_X6_pieces l G mo S ct N th as (xs (i + 1)) hP) cy_X6_pieces im_X6_pieces se_X6_pieces wd_M_L_153 hms1 hmo rfl hl.1 rfl (Nat.le_of_ble_eq_true rfl) ⟨by decide, by decide⟩ ⟨rfl, rfl⟩ ⟨by show cells + 300 ≤ 717796; omega, by show slots + 10000 ≤ 6942715; omega⟩ dL_law_1180 (fun v H2 S2 ct2 hz he hms2 hv => ?_)
    obtain ⟨c2, r2, r3, hR2, hS2, rfl, g3, hP2⟩ := hv
    have hcc := hD c1 r2 c2 r2 (hR r2) hR2
    obtain ⟨hc, ht⟩ := hcc
    subst hc
    refine pb_blk B.hx B.hb (lv' := [(6, .int r3), (5, .int (nI c1)), (4, .int (nI i)), (0, .ref b), (1, .ref q), (2, .ref mo), (3, .ref out)]) (st' := [.ref mo]) hl bkL_law_1183_1186 rfl (fun ls hl => ?_)
    refine n_callV (ci := 5) B (c_X6_thrown l G (fun _ => False) mo S2 ct2 (nI c1) hS2) cy_X6_thrown im_X6_thrown se_X6_thrown wd_M_L_100 rfl hms2.1 hms2 rfl hl.1 rfl (Nat.le_of_ble_eq_true rfl) ⟨by decide, by decide⟩ ⟨by show cells + 300 + 0 ≤ 717796; omega, by show slots + 10000 + 0 ≤ 6942715; omega⟩ dL_law_1186 (fun v hv => ?_)
    rw [po_X6_thrown] at hv
    subst hv
    refine pb_blk B.hx B.hb (lv' := [(6, .int r3), (5, .int (nI c1)), (4, .int (nI i)), (0, .ref b), (1, .ref q), (2, .ref mo), (3, .ref out)]) (st' := [.int (nI c1), .int (nI c1)]) hl bkL_law_1189_1191 rfl (fun ls hl => ?_)
    refine lv_icmp_eq (tgt := 1196) B.hx B.hb dL_law_1191 (by decide) (fun h1 => ?_) (fun h1 => absurd h1 (not_not_intro rfl))
    refine pb_blk B.hx B.hb (lv' := [(6, .int r3), (5, .int (nI c1)), (4, .int (nI i)), (0, .ref b), (1, .ref q), (2, .ref mo), (3, .ref out)]) (st' := [.int (nI c1)]) hl bkL_law_1196_1198 rfl (fun ls hl => ?_)
    refine lv_if_ne (tgt := 1213) B.hx B.hb dL_law_1198 (by decide) (fun h2 => ?_) (fun h2 => absurd h2 (ni_ne hc0 hc4))
    refine pb_blk B.hx B.hb (lv' := [(6, .int r3), (5, .int (nI c1)), (4, .int (nI i)), (0, .ref b), (1, .ref q), (2, .ref mo), (3, .ref out)]) (st' := []) hl bkL_law_1213_1590 rfl (fun ls hl => ?_)
    exact kk H2 N th as S2 ct2 ls (lw_fin D hE1 hz he hH1 hO1 hms2 hP2 hI) (lv_sub hl [2, 3, 4, 5, 6] rfl)

theorem bkL_law_1216_1222 : pb_chk cL_law 1216 [.aload_n 1, .aload_n 0, .iload 4, .iconst 1, .iadd] = some 1222 := by decide +kernel
theorem dL_law_1222 : decode cL_law 1222 = .ok (.iaload, 1) := by decide +kernel
theorem bkL_law_1223_1228 : pb_chk cL_law 1223 [.aload_n 0, .iload 4, .iconst 2, .iadd] = some 1228 := by decide +kernel
theorem dL_law_1228 : decode cL_law 1228 = .ok (.iaload, 1) := by decide +kernel
theorem bkL_law_1229_1234 : pb_chk cL_law 1229 [.aload_n 0, .iload 4, .iconst 3, .iadd] = some 1234 := by decide +kernel
theorem dL_law_1234 : decode cL_law 1234 = .ok (.iaload, 1) := by decide +kernel
theorem bkL_law_1235_1240 : pb_chk cL_law 1235 [.aload_n 0, .iload 4, .iconst 4, .iadd] = some 1240 := by decide +kernel
theorem dL_law_1240 : decode cL_law 1240 = .ok (.iaload, 1) := by decide +kernel
theorem bkL_law_1241_1242 : pb_chk cL_law 1241 [.aload_n 3] = some 1242 := by decide +kernel
theorem dL_law_1242 : decode cL_law 1242 = .ok (.invokestatic 154, 3) := by decide +kernel
theorem bkL_law_1245_1253 : pb_chk cL_law 1245 [.istore 5, .aload_n 2, .aload_n 0, .iload 4, .iconst 1, .iadd] = some 1253 := by decide +kernel
theorem dL_law_1253 : decode cL_law 1253 = .ok (.iaload, 1) := by decide +kernel
theorem bkL_law_1254_1259 : pb_chk cL_law 1254 [.aload_n 0, .iload 4, .iconst 2, .iadd] = some 1259 := by decide +kernel
theorem dL_law_1259 : decode cL_law 1259 = .ok (.iaload, 1) := by decide +kernel
theorem bkL_law_1260_1265 : pb_chk cL_law 1260 [.aload_n 0, .iload 4, .iconst 3, .iadd] = some 1265 := by decide +kernel
theorem dL_law_1265 : decode cL_law 1265 = .ok (.iaload, 1) := by decide +kernel
theorem bkL_law_1266_1271 : pb_chk cL_law 1266 [.aload_n 0, .iload 4, .iconst 4, .iadd] = some 1271 := by decide +kernel
theorem dL_law_1271 : decode cL_law 1271 = .ok (.iaload, 1) := by decide +kernel
theorem dL_law_1272 : decode cL_law 1272 = .ok (.invokevirtual 157, 3) := by decide +kernel
theorem bkL_law_1275_1278 : pb_chk cL_law 1275 [.istore 6, .aload_n 2] = some 1278 := by decide +kernel
theorem dL_law_1278 : decode cL_law 1278 = .ok (.invokevirtual 100, 3) := by decide +kernel
theorem bkL_law_1281_1283 : pb_chk cL_law 1281 [.iload 5] = some 1283 := by decide +kernel
theorem dL_law_1283 : decode cL_law 1283 = .ok (.if_icmp .eq 5, 3) := by decide +kernel
theorem bkL_law_1288_1290 : pb_chk cL_law 1288 [.iload 5] = some 1290 := by decide +kernel
theorem dL_law_1290 : decode cL_law 1290 = .ok (.ifCond .ne 15, 3) := by decide +kernel
theorem bkL_law_1293_1295 : pb_chk cL_law 1293 [.aload_n 3, .iconst 0] = some 1295 := by decide +kernel
theorem dL_law_1295 : decode cL_law 1295 = .ok (.laload, 1) := by decide +kernel
theorem bkL_law_1296_1300 : pb_chk cL_law 1296 [.iload 6, .i2l, .lcmp] = some 1300 := by decide +kernel
theorem dL_law_1300 : decode cL_law 1300 = .ok (.ifCond .eq 5, 3) := by decide +kernel
theorem bkL_law_1305_1590 : pb_chk cL_law 1305 [.goto 285] = some 1590 := by decide +kernel
set_option maxHeartbeats 4000000 in
set_option maxRecDepth 100000 in
theorem lc_end {p : Program} {l : Launch} {e : Env} {s : State} {m : MethodId} {args : Array Value} {below : List Frame} {meth : Method} {c : Code} {G : Gm} {b L q ta out mo N i cells slots : Nat} {xs : Nat → Int32} {th : Nat → Th} {as : St3} {S : Sc} {ct : Ct} {H : Heap} {ls : Array Slot} {Q : State → Prop} (C : LC p l s m args meth c G b L xs) (hW : Lw G s.heap H q ta out mo N th as S ct) (hi : i + 5 ≤ L) (hl : LL ls b q mo out i) (hcs : cells + 300 ≤ 717796 ∧ slots + 10000 ≤ 6942715) (kk : LK p l e s m args below meth c G b q ta out mo i cells slots Q) : W p l e room_1 s m args below meth c H [] cells slots Q (F0 m 1216 ls []) := by
  obtain ⟨B, hKT, hst, hX, hbl, hL5⟩ := C
  have hlw := hW
  obtain ⟨hH, hms, hP, ⟨y0, hO⟩, hE, D, hI⟩ := hlw
  have hA := hW.A
  have hB := hI.bds
  have hN := hI.1
  have hmo := D.2.2.2.1
  have hl : lv_has ls 7 [(4, .int (nI i)), (0, .ref b), (1, .ref q), (2, .ref mo), (3, .ref out)] := hl
  refine pb_blk B.hx B.hb (lv' := [(4, .int (nI i)), (0, .ref b), (1, .ref q), (2, .ref mo), (3, .ref out)]) (st' := [.int ((nI i) + 1), .ref b, .ref q]) hl bkL_law_1216_1222 rfl (fun ls hl => ?_)
  rw [show nI i + 1 = nI (i + 1) from nI_add i 1]
  refine l_scr B hX hbl hE (k := i + 1) (by omega) (by omega) (by omega) dL_law_1222 ?_
  refine pb_blk B.hx B.hb (lv' := [(4, .int (nI i)), (0, .ref b), (1, .ref q), (2, .ref mo), (3, .ref out)]) (st' := [.int ((nI i) + 2), .ref b, .int (xs (i + 1)), .ref q]) hl bkL_law_1223_1228 rfl (fun ls hl => ?_)
  rw [show nI i + 2 = nI (i + 2) from nI_add i 2]
  refine l_scr B hX hbl hE (k := i + 2) (by omega) (by omega) (by omega) dL_law_1228 ?_
  refine pb_blk B.hx B.hb (lv' := [(4, .int (nI i)), (0, .ref b), (1, .ref q), (2, .ref mo), (3, .ref out)]) (st' := [.int ((nI i) + 3), .ref b, .int (xs (i + 2)), .int (xs (i + 1)), .ref q]) hl bkL_law_1229_1234 rfl (fun ls hl => ?_)
  rw [show nI i + 3 = nI (i + 3) from nI_add i 3]
  refine l_scr B hX hbl hE (k := i + 3) (by omega) (by omega) (by omega) dL_law_1234 ?_
  refine pb_blk B.hx B.hb (lv' := [(4, .int (nI i)), (0, .ref b), (1, .ref q), (2, .ref mo), (3, .ref out)]) (st' := [.int ((nI i) + 4), .ref b, .int (xs (i + 3)), .int (xs (i + 2)), .int (xs (i + 1)), .ref q]) hl bkL_law_1235_1240 rfl (fun ls hl => ?_)
  rw [show nI i + 4 = nI (i + 4) from nI_add i 4]
  refine l_scr B hX hbl hE (k := i + 4) (by omega) (by omega) (by omega) dL_law_1240 ?_
  refine pb_blk B.hx B.hb (lv' := [(4, .int (nI i)), (0, .ref b), (1, .ref q), (2, .ref mo), (3, .ref out)]) (st' := [.ref out, .int (xs (i + 4)), .int (xs (i + 3)), .int (xs (i + 2)), .int (xs (i + 1)), .ref q]) hl bkL_law_1241_1242 rfl (fun ls hl => ?_)
  refine l_callS B hKT (c_L_end l hst G (Al q ta out mo) q ta out N th as (xs (i + 1)) (xs (i + 2)) (xs (i + 3)) (xs (i + 4)) hB (Or.inl (Or.inr (Or.inr rfl))) D.2.2.2.2.1 D.2.2.2.2.2.1) ch_L_end wd_M_L_154 hA ⟨hH, y0, hO⟩ hE rfl hl.1 rfl (Nat.le_of_ble_eq_true rfl) ⟨by decide, by decide⟩ ⟨by show cells + 300 ≤ 717796; omega, by show slots + 10000 ≤ 6942715; omega⟩ dL_law_1242 (fw_ge D) (fun v H1 hmv hv => ?_)
  obtain ⟨hms1, hE1⟩ := lw_mid hW hmv
  have hD : Dt (R_end N th (xs (i + 1)) (xs (i + 2)) (xs (i + 3)) (xs (i + 4))) := dt_end hN (fun i hi z e => (hB.2.1 i hi z e).1)
  obtain ⟨c1, rfl, hH1, hv⟩ := hv
  rcases hv with ⟨rfl, r, hR, hO1⟩ | ⟨hc0, hc4, hR, y1, hO1⟩
  · have hE := hE1
    refine pb_blk B.hx B.hb (lv' := [(5, .int (nI 0)), (4, .int (nI i)), (0, .ref b), (1, .ref q), (2, .ref mo), (3, .ref out)]) (st' := [.int ((nI i) + 1), .ref b, .ref mo]) hl bkL_law_1245_1253 rfl (fun ls hl => ?_)
    rw [show nI i + 1 = nI (i + 1) from nI_add i 1]
    refine l_scr B hX hbl hE (k := i + 1) (by omega) (by omega) (by omega) dL_law_1253 ?_
    refine pb_blk B.hx B.hb (lv' := [(5, .int (nI 0)), (4, .int (nI i)), (0, .ref b), (1, .ref q), (2, .ref mo), (3, .ref out)]) (st' := [.int ((nI i) + 2), .ref b, .int (xs (i + 1)), .ref mo]) hl bkL_law_1254_1259 rfl (fun ls hl => ?_)
    rw [show nI i + 2 = nI (i + 2) from nI_add i 2]
    refine l_scr B hX hbl hE (k := i + 2) (by omega) (by omega) (by omega) dL_law_1259 ?_
    refine pb_blk B.hx B.hb (lv' := [(5, .int (nI 0)), (4, .int (nI i)), (0, .ref b), (1, .ref q), (2, .ref mo), (3, .ref out)]) (st' := [.int ((nI i) + 3), .ref b, .int (xs (i + 2)), .int (xs (i + 1)), .ref mo]) hl bkL_law_1260_1265 rfl (fun ls hl => ?_)
    rw [show nI i + 3 = nI (i + 3) from nI_add i 3]
    refine l_scr B hX hbl hE (k := i + 3) (by omega) (by omega) (by omega) dL_law_1265 ?_
    refine pb_blk B.hx B.hb (lv' := [(5, .int (nI 0)), (4, .int (nI i)), (0, .ref b), (1, .ref q), (2, .ref mo), (3, .ref out)]) (st' := [.int ((nI i) + 4), .ref b, .int (xs (i + 3)), .int (xs (i + 2)), .int (xs (i + 1)), .ref mo]) hl bkL_law_1266_1271 rfl (fun ls hl => ?_)
    rw [show nI i + 4 = nI (i + 4) from nI_add i 4]
    refine l_scr B hX hbl hE (k := i + 4) (by omega) (by omega) (by omega) dL_law_1271 ?_
    refine l_callM B (c_X6_end l G mo S ct N th as (xs (i + 1)) (xs (i + 2)) (xs (i + 3)) (xs (i + 4)) hP hB) cy_X6_end im_X6_end se_X6_end wd_M_L_157 hms1 hmo rfl hl.1 rfl (Nat.le_of_ble_eq_true rfl) ⟨by decide, by decide⟩ ⟨rfl, rfl⟩ ⟨by show cells + 300 ≤ 717796; omega, by show slots + 10000 ≤ 6942715; omega⟩ dL_law_1272 (fun v H2 S2 ct2 hz he hms2 hv => ?_)
    obtain ⟨c2, r2, r3, hR2, hS2, rfl, g3, hP2⟩ := hv
    have hcc := hD 0 r c2 r2 hR hR2
    obtain ⟨hc, ht⟩ := hcc
    subst hc
    have er : r = r3 := (ht rfl).trans (g3 rfl).symm
    subst er
    refine pb_blk B.hx B.hb (lv' := [(6, .int r), (5, .int (nI 0)), (4, .int (nI i)), (0, .ref b), (1, .ref q), (2, .ref mo), (3, .ref out)]) (st' := [.ref mo]) hl bkL_law_1275_1278 rfl (fun ls hl => ?_)
    refine n_callV (ci := 5) B (c_X6_thrown l G (fun _ => False) mo S2 ct2 (nI 0) hS2) cy_X6_thrown im_X6_thrown se_X6_thrown wd_M_L_100 rfl hms2.1 hms2 rfl hl.1 rfl (Nat.le_of_ble_eq_true rfl) ⟨by decide, by decide⟩ ⟨by show cells + 300 + 0 ≤ 717796; omega, by show slots + 10000 + 0 ≤ 6942715; omega⟩ dL_law_1278 (fun v hv => ?_)
    rw [po_X6_thrown] at hv
    subst hv
    refine pb_blk B.hx B.hb (lv' := [(6, .int r), (5, .int (nI 0)), (4, .int (nI i)), (0, .ref b), (1, .ref q), (2, .ref mo), (3, .ref out)]) (st' := [.int (nI 0), .int (nI 0)]) hl bkL_law_1281_1283 rfl (fun ls hl => ?_)
    refine lv_icmp_eq (tgt := 1288) B.hx B.hb dL_law_1283 (by decide) (fun h1 => ?_) (fun h1 => absurd h1 (not_not_intro rfl))
    refine pb_blk B.hx B.hb (lv' := [(6, .int r), (5, .int (nI 0)), (4, .int (nI i)), (0, .ref b), (1, .ref q), (2, .ref mo), (3, .ref out)]) (st' := [.int (nI 0)]) hl bkL_law_1288_1290 rfl (fun ls hl => ?_)
    refine lv_if_ne (tgt := 1305) B.hx B.hb dL_law_1290 (by decide) (fun h2 => absurd h2 (not_not_intro rfl)) (fun h2 => ?_)
    refine pb_blk B.hx B.hb (lv' := [(6, .int r), (5, .int (nI 0)), (4, .int (nI i)), (0, .ref b), (1, .ref q), (2, .ref mo), (3, .ref out)]) (st' := [.int 0, .ref out]) hl bkL_law_1293_1295 rfl (fun ls hl => ?_)
    obtain ⟨fo, ho1, ho2⟩ := hO1.kept (he out D.2.2.2.2.2.2.2.2)
    refine z_lald B ho1 (show vp_in (nI 0) 1 from vp_in_nI (by decide) (by decide)) (v := .long (o64 r)) ho2 dL_law_1295 ?_
    refine pb_blk B.hx B.hb (lv' := [(6, .int r), (5, .int (nI 0)), (4, .int (nI i)), (0, .ref b), (1, .ref q), (2, .ref mo), (3, .ref out)]) (st' := [.int (lg_cmp (o64 r) r.toInt64)]) hl bkL_law_1296_1300 rfl (fun ls hl => ?_)
    refine lv_if_eq (tgt := 1305) B.hx B.hb dL_law_1300 (by decide) (fun h3 => ?_) (fun h3 => absurd h3 (not_not_intro ((lg_cmp_eq _ _).mpr rfl)))
    refine pb_blk B.hx B.hb (lv' := [(6, .int r), (5, .int (nI 0)), (4, .int (nI i)), (0, .ref b), (1, .ref q), (2, .ref mo), (3, .ref out)]) (st' := []) hl bkL_law_1305_1590 rfl (fun ls hl => ?_)
    exact kk H2 N th as S2 ct2 ls (lw_fin D hE1 hz he hH1 hO1 hms2 hP2 hI) (lv_sub hl [2, 3, 4, 5, 6] rfl)
  · have hE := hE1
    refine pb_blk B.hx B.hb (lv' := [(5, .int (nI c1)), (4, .int (nI i)), (0, .ref b), (1, .ref q), (2, .ref mo), (3, .ref out)]) (st' := [.int ((nI i) + 1), .ref b, .ref mo]) hl bkL_law_1245_1253 rfl (fun ls hl => ?_)
    rw [show nI i + 1 = nI (i + 1) from nI_add i 1]
    refine l_scr B hX hbl hE (k := i + 1) (by omega) (by omega) (by omega) dL_law_1253 ?_
    refine pb_blk B.hx B.hb (lv' := [(5, .int (nI c1)), (4, .int (nI i)), (0, .ref b), (1, .ref q), (2, .ref mo), (3, .ref out)]) (st' := [.int ((nI i) + 2), .ref b, .int (xs (i + 1)), .ref mo]) hl bkL_law_1254_1259 rfl (fun ls hl => ?_)
    rw [show nI i + 2 = nI (i + 2) from nI_add i 2]
    refine l_scr B hX hbl hE (k := i + 2) (by omega) (by omega) (by omega) dL_law_1259 ?_
    refine pb_blk B.hx B.hb (lv' := [(5, .int (nI c1)), (4, .int (nI i)), (0, .ref b), (1, .ref q), (2, .ref mo), (3, .ref out)]) (st' := [.int ((nI i) + 3), .ref b, .int (xs (i + 2)), .int (xs (i + 1)), .ref mo]) hl bkL_law_1260_1265 rfl (fun ls hl => ?_)
    rw [show nI i + 3 = nI (i + 3) from nI_add i 3]
    refine l_scr B hX hbl hE (k := i + 3) (by omega) (by omega) (by omega) dL_law_1265 ?_
    refine pb_blk B.hx B.hb (lv' := [(5, .int (nI c1)), (4, .int (nI i)), (0, .ref b), (1, .ref q), (2, .ref mo), (3, .ref out)]) (st' := [.int ((nI i) + 4), .ref b, .int (xs (i + 3)), .int (xs (i + 2)), .int (xs (i + 1)), .ref mo]) hl bkL_law_1266_1271 rfl (fun ls hl => ?_)
    rw [show nI i + 4 = nI (i + 4) from nI_add i 4]
    refine l_scr B hX hbl hE (k := i + 4) (by omega) (by omega) (by omega) dL_law_1271 ?_
    refine l_callM B (c_X6_end l G mo S ct N th as (xs (i + 1)) (xs (i + 2)) (xs (i + 3)) (xs (i + 4)) hP hB) cy_X6_end im_X6_end se_X6_end wd_M_L_157 hms1 hmo rfl hl.1 rfl (Nat.le_of_ble_eq_true rfl) ⟨by decide, by decide⟩ ⟨rfl, rfl⟩ ⟨by show cells + 300 ≤ 717796; omega, by show slots + 10000 ≤ 6942715; omega⟩ dL_law_1272 (fun v H2 S2 ct2 hz he hms2 hv => ?_)
    obtain ⟨c2, r2, r3, hR2, hS2, rfl, g3, hP2⟩ := hv
    have hcc := hD c1 r2 c2 r2 (hR r2) hR2
    obtain ⟨hc, ht⟩ := hcc
    subst hc
    refine pb_blk B.hx B.hb (lv' := [(6, .int r3), (5, .int (nI c1)), (4, .int (nI i)), (0, .ref b), (1, .ref q), (2, .ref mo), (3, .ref out)]) (st' := [.ref mo]) hl bkL_law_1275_1278 rfl (fun ls hl => ?_)
    refine n_callV (ci := 5) B (c_X6_thrown l G (fun _ => False) mo S2 ct2 (nI c1) hS2) cy_X6_thrown im_X6_thrown se_X6_thrown wd_M_L_100 rfl hms2.1 hms2 rfl hl.1 rfl (Nat.le_of_ble_eq_true rfl) ⟨by decide, by decide⟩ ⟨by show cells + 300 + 0 ≤ 717796; omega, by show slots + 10000 + 0 ≤ 6942715; omega⟩ dL_law_1278 (fun v hv => ?_)
    rw [po_X6_thrown] at hv
    subst hv
    refine pb_blk B.hx B.hb (lv' := [(6, .int r3), (5, .int (nI c1)), (4, .int (nI i)), (0, .ref b), (1, .ref q), (2, .ref mo), (3, .ref out)]) (st' := [.int (nI c1), .int (nI c1)]) hl bkL_law_1281_1283 rfl (fun ls hl => ?_)
    refine lv_icmp_eq (tgt := 1288) B.hx B.hb dL_law_1283 (by decide) (fun h1 => ?_) (fun h1 => absurd h1 (not_not_intro rfl))
    refine pb_blk B.hx B.hb (lv' := [(6, .int r3), (5, .int (nI c1)), (4, .int (nI i)), (0, .ref b), (1, .ref q), (2, .ref mo), (3, .ref out)]) (st' := [.int (nI c1)]) hl bkL_law_1288_1290 rfl (fun ls hl => ?_)
    refine lv_if_ne (tgt := 1305) B.hx B.hb dL_law_1290 (by decide) (fun h2 => ?_) (fun h2 => absurd h2 (ni_ne hc0 hc4))
    refine pb_blk B.hx B.hb (lv' := [(6, .int r3), (5, .int (nI c1)), (4, .int (nI i)), (0, .ref b), (1, .ref q), (2, .ref mo), (3, .ref out)]) (st' := []) hl bkL_law_1305_1590 rfl (fun ls hl => ?_)
    exact kk H2 N th as S2 ct2 ls (lw_fin D hE1 hz he hH1 hO1 hms2 hP2 hI) (lv_sub hl [2, 3, 4, 5, 6] rfl)

