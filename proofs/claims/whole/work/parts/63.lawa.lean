theorem bkL_law_144_150 : pb_chk cL_law 144 [.aload_n 1, .aload_n 0, .iload 4, .iconst 1, .iadd] = some 150 := by decide +kernel
theorem dL_law_150 : decode cL_law 150 = .ok (.iaload, 1) := by decide +kernel
theorem bkL_law_151_156 : pb_chk cL_law 151 [.aload_n 0, .iload 4, .iconst 2, .iadd] = some 156 := by decide +kernel
theorem dL_law_156 : decode cL_law 156 = .ok (.iaload, 1) := by decide +kernel
theorem bkL_law_157_158 : pb_chk cL_law 157 [.aload_n 3] = some 158 := by decide +kernel
theorem dL_law_158 : decode cL_law 158 = .ok (.invokestatic 94, 3) := by decide +kernel
theorem bkL_law_161_169 : pb_chk cL_law 161 [.istore 5, .aload_n 2, .aload_n 0, .iload 4, .iconst 1, .iadd] = some 169 := by decide +kernel
theorem dL_law_169 : decode cL_law 169 = .ok (.iaload, 1) := by decide +kernel
theorem bkL_law_170_175 : pb_chk cL_law 170 [.aload_n 0, .iload 4, .iconst 2, .iadd] = some 175 := by decide +kernel
theorem dL_law_175 : decode cL_law 175 = .ok (.iaload, 1) := by decide +kernel
theorem dL_law_176 : decode cL_law 176 = .ok (.invokevirtual 99, 3) := by decide +kernel
theorem bkL_law_179_182 : pb_chk cL_law 179 [.istore 6, .aload_n 2] = some 182 := by decide +kernel
theorem dL_law_182 : decode cL_law 182 = .ok (.invokevirtual 100, 3) := by decide +kernel
theorem bkL_law_185_187 : pb_chk cL_law 185 [.iload 5] = some 187 := by decide +kernel
theorem dL_law_187 : decode cL_law 187 = .ok (.if_icmp .eq 5, 3) := by decide +kernel
theorem bkL_law_192_194 : pb_chk cL_law 192 [.iload 5] = some 194 := by decide +kernel
theorem dL_law_194 : decode cL_law 194 = .ok (.ifCond .ne 15, 3) := by decide +kernel
theorem bkL_law_197_199 : pb_chk cL_law 197 [.aload_n 3, .iconst 0] = some 199 := by decide +kernel
theorem dL_law_199 : decode cL_law 199 = .ok (.laload, 1) := by decide +kernel
theorem bkL_law_200_204 : pb_chk cL_law 200 [.iload 6, .i2l, .lcmp] = some 204 := by decide +kernel
theorem dL_law_204 : decode cL_law 204 = .ok (.ifCond .eq 5, 3) := by decide +kernel
theorem bkL_law_209_1590 : pb_chk cL_law 209 [.goto 1381] = some 1590 := by decide +kernel
set_option maxHeartbeats 4000000 in
set_option maxRecDepth 100000 in
theorem lc_number {p : Program} {l : Launch} {e : Env} {s : State} {m : MethodId} {args : Array Value} {below : List Frame} {meth : Method} {c : Code} {G : Gm} {b L q ta out mo N i cells slots : Nat} {xs : Nat → Int32} {th : Nat → Th} {as : St3} {S : Sc} {ct : Ct} {H : Heap} {ls : Array Slot} {Q : State → Prop} (C : LC p l s m args meth c G b L xs) (hW : Lw G s.heap H q ta out mo N th as S ct) (hi : i + 5 ≤ L) (hl : LL ls b q mo out i) (hcs : cells + 300 ≤ 717796 ∧ slots + 10000 ≤ 6942715) (kk : LK p l e s m args below meth c G b q ta out mo i cells slots Q) : W p l e room_1 s m args below meth c H [] cells slots Q (F0 m 144 ls []) := by
  obtain ⟨B, hKT, hst, hX, hbl, hL5⟩ := C
  have hlw := hW
  obtain ⟨hH, hms, hP, ⟨y0, hO⟩, hE, D, hI⟩ := hlw
  have hA := hW.A
  have hB := hI.bds
  have hN := hI.1
  have hmo := D.2.2.2.1
  have hl : lv_has ls 7 [(4, .int (nI i)), (0, .ref b), (1, .ref q), (2, .ref mo), (3, .ref out)] := hl
  refine pb_blk B.hx B.hb (lv' := [(4, .int (nI i)), (0, .ref b), (1, .ref q), (2, .ref mo), (3, .ref out)]) (st' := [.int ((nI i) + 1), .ref b, .ref q]) hl bkL_law_144_150 rfl (fun ls hl => ?_)
  rw [show nI i + 1 = nI (i + 1) from nI_add i 1]
  refine l_scr B hX hbl hE (k := i + 1) (by omega) (by omega) (by omega) dL_law_150 ?_
  refine pb_blk B.hx B.hb (lv' := [(4, .int (nI i)), (0, .ref b), (1, .ref q), (2, .ref mo), (3, .ref out)]) (st' := [.int ((nI i) + 2), .ref b, .int (xs (i + 1)), .ref q]) hl bkL_law_151_156 rfl (fun ls hl => ?_)
  rw [show nI i + 2 = nI (i + 2) from nI_add i 2]
  refine l_scr B hX hbl hE (k := i + 2) (by omega) (by omega) (by omega) dL_law_156 ?_
  refine pb_blk B.hx B.hb (lv' := [(4, .int (nI i)), (0, .ref b), (1, .ref q), (2, .ref mo), (3, .ref out)]) (st' := [.ref out, .int (xs (i + 2)), .int (xs (i + 1)), .ref q]) hl bkL_law_157_158 rfl (fun ls hl => ?_)
  refine l_callS B hKT (c_L_number l hst G (Al q ta out mo) q ta out N th as (xs (i + 1)) (xs (i + 2)) hB (Or.inl (Or.inr (Or.inr rfl))) D.2.2.2.2.1 D.2.2.2.2.2.1) ch_L_number wd_M_L_94 hA ⟨hH, y0, hO⟩ hE rfl hl.1 rfl (Nat.le_of_ble_eq_true rfl) ⟨by decide, by decide⟩ ⟨by show cells + 300 ≤ 717796; omega, by show slots + 10000 ≤ 6942715; omega⟩ dL_law_158 (fw_ge D) (fun v H1 hmv hv => ?_)
  obtain ⟨hms1, hE1⟩ := lw_mid hW hmv
  have hD : Dt (R_number N (xs (i + 1)) (xs (i + 2))) := dt_number
  obtain ⟨c1, rfl, hv⟩ := hv
  rcases hv with ⟨rfl, t, hR, hH1, hO1⟩ | ⟨hc0, hc4, hR, hH1, y1, hO1⟩
  · have hE := hE1
    refine pb_blk B.hx B.hb (lv' := [(5, .int (nI 0)), (4, .int (nI i)), (0, .ref b), (1, .ref q), (2, .ref mo), (3, .ref out)]) (st' := [.int ((nI i) + 1), .ref b, .ref mo]) hl bkL_law_161_169 rfl (fun ls hl => ?_)
    rw [show nI i + 1 = nI (i + 1) from nI_add i 1]
    refine l_scr B hX hbl hE (k := i + 1) (by omega) (by omega) (by omega) dL_law_169 ?_
    refine pb_blk B.hx B.hb (lv' := [(5, .int (nI 0)), (4, .int (nI i)), (0, .ref b), (1, .ref q), (2, .ref mo), (3, .ref out)]) (st' := [.int ((nI i) + 2), .ref b, .int (xs (i + 1)), .ref mo]) hl bkL_law_170_175 rfl (fun ls hl => ?_)
    rw [show nI i + 2 = nI (i + 2) from nI_add i 2]
    refine l_scr B hX hbl hE (k := i + 2) (by omega) (by omega) (by omega) dL_law_175 ?_
    refine l_callM B (c_X6_number l G mo S ct N th as (xs (i + 1)) (xs (i + 2)) hP) cy_X6_number im_X6_number se_X6_number wd_M_L_99 hms1 hmo rfl hl.1 rfl (Nat.le_of_ble_eq_true rfl) ⟨by decide, by decide⟩ ⟨rfl, rfl⟩ ⟨by show cells + 300 ≤ 717796; omega, by show slots + 10000 ≤ 6942715; omega⟩ dL_law_176 (fun v H2 S2 ct2 hz he hms2 hv => ?_)
    obtain ⟨c2, t2, hR2, hS2, g3⟩ := hv
    have hcc := hD 0 t c2 t2 hR hR2
    obtain ⟨hc, ht⟩ := hcc
    subst hc
    obtain rfl := ht rfl
    rcases g3 with ⟨_, rfl, hP2⟩ | ⟨h9, _⟩
    · refine pb_blk B.hx B.hb (lv' := [(6, .int (nI N)), (5, .int (nI 0)), (4, .int (nI i)), (0, .ref b), (1, .ref q), (2, .ref mo), (3, .ref out)]) (st' := [.ref mo]) hl bkL_law_179_182 rfl (fun ls hl => ?_)
      refine n_callV (ci := 5) B (c_X6_thrown l G (fun _ => False) mo S2 ct2 (nI 0) hS2) cy_X6_thrown im_X6_thrown se_X6_thrown wd_M_L_100 rfl hms2.1 hms2 rfl hl.1 rfl (Nat.le_of_ble_eq_true rfl) ⟨by decide, by decide⟩ ⟨by show cells + 300 + 0 ≤ 717796; omega, by show slots + 10000 + 0 ≤ 6942715; omega⟩ dL_law_182 (fun v hv => ?_)
      rw [po_X6_thrown] at hv
      subst hv
      refine pb_blk B.hx B.hb (lv' := [(6, .int (nI N)), (5, .int (nI 0)), (4, .int (nI i)), (0, .ref b), (1, .ref q), (2, .ref mo), (3, .ref out)]) (st' := [.int (nI 0), .int (nI 0)]) hl bkL_law_185_187 rfl (fun ls hl => ?_)
      refine lv_icmp_eq (tgt := 192) B.hx B.hb dL_law_187 (by decide) (fun h1 => ?_) (fun h1 => absurd h1 (not_not_intro rfl))
      refine pb_blk B.hx B.hb (lv' := [(6, .int (nI N)), (5, .int (nI 0)), (4, .int (nI i)), (0, .ref b), (1, .ref q), (2, .ref mo), (3, .ref out)]) (st' := [.int (nI 0)]) hl bkL_law_192_194 rfl (fun ls hl => ?_)
      refine lv_if_ne (tgt := 209) B.hx B.hb dL_law_194 (by decide) (fun h2 => absurd h2 (not_not_intro rfl)) (fun h2 => ?_)
      refine pb_blk B.hx B.hb (lv' := [(6, .int (nI N)), (5, .int (nI 0)), (4, .int (nI i)), (0, .ref b), (1, .ref q), (2, .ref mo), (3, .ref out)]) (st' := [.int 0, .ref out]) hl bkL_law_197_199 rfl (fun ls hl => ?_)
      obtain ⟨fo, ho1, ho2⟩ := hO1.kept (he out D.2.2.2.2.2.2.2.2)
      refine z_lald B ho1 (show vp_in (nI 0) 1 from vp_in_nI (by decide) (by decide)) (v := .long (nI N).toInt64) ho2 dL_law_199 ?_
      refine pb_blk B.hx B.hb (lv' := [(6, .int (nI N)), (5, .int (nI 0)), (4, .int (nI i)), (0, .ref b), (1, .ref q), (2, .ref mo), (3, .ref out)]) (st' := [.int (lg_cmp ((nI N).toInt64) (((nI N)).toInt64))]) hl bkL_law_200_204 rfl (fun ls hl => ?_)
      refine lv_if_eq (tgt := 209) B.hx B.hb dL_law_204 (by decide) (fun h3 => ?_) (fun h3 => absurd h3 (not_not_intro ((lg_cmp_eq _ _).mpr rfl)))
      refine pb_blk B.hx B.hb (lv' := [(6, .int (nI N)), (5, .int (nI 0)), (4, .int (nI i)), (0, .ref b), (1, .ref q), (2, .ref mo), (3, .ref out)]) (st' := []) hl bkL_law_209_1590 rfl (fun ls hl => ?_)
      exact kk H2 (N + 1) (upT th N _) as S2 ct2 ls (lw_fin D hE1 hz he hH1 hO1 hms2 hP2 (iv_number hI hR2)) (lv_sub hl [2, 3, 4, 5, 6] rfl)
    · exact absurd rfl h9
  · have hE := hE1
    refine pb_blk B.hx B.hb (lv' := [(5, .int (nI c1)), (4, .int (nI i)), (0, .ref b), (1, .ref q), (2, .ref mo), (3, .ref out)]) (st' := [.int ((nI i) + 1), .ref b, .ref mo]) hl bkL_law_161_169 rfl (fun ls hl => ?_)
    rw [show nI i + 1 = nI (i + 1) from nI_add i 1]
    refine l_scr B hX hbl hE (k := i + 1) (by omega) (by omega) (by omega) dL_law_169 ?_
    refine pb_blk B.hx B.hb (lv' := [(5, .int (nI c1)), (4, .int (nI i)), (0, .ref b), (1, .ref q), (2, .ref mo), (3, .ref out)]) (st' := [.int ((nI i) + 2), .ref b, .int (xs (i + 1)), .ref mo]) hl bkL_law_170_175 rfl (fun ls hl => ?_)
    rw [show nI i + 2 = nI (i + 2) from nI_add i 2]
    refine l_scr B hX hbl hE (k := i + 2) (by omega) (by omega) (by omega) dL_law_175 ?_
    refine l_callM B (c_X6_number l G mo S ct N th as (xs (i + 1)) (xs (i + 2)) hP) cy_X6_number im_X6_number se_X6_number wd_M_L_99 hms1 hmo rfl hl.1 rfl (Nat.le_of_ble_eq_true rfl) ⟨by decide, by decide⟩ ⟨rfl, rfl⟩ ⟨by show cells + 300 ≤ 717796; omega, by show slots + 10000 ≤ 6942715; omega⟩ dL_law_176 (fun v H2 S2 ct2 hz he hms2 hv => ?_)
    obtain ⟨c2, t2, hR2, hS2, g3⟩ := hv
    have hcc := hD c1 t2 c2 t2 (hR t2) hR2
    obtain ⟨hc, ht⟩ := hcc
    subst hc
    rcases g3 with ⟨h9, _⟩ | ⟨_, ⟨r9, rfl⟩, hP2⟩
    · exact absurd h9 hc0
    · refine pb_blk B.hx B.hb (lv' := [(6, .int r9), (5, .int (nI c1)), (4, .int (nI i)), (0, .ref b), (1, .ref q), (2, .ref mo), (3, .ref out)]) (st' := [.ref mo]) hl bkL_law_179_182 rfl (fun ls hl => ?_)
      refine n_callV (ci := 5) B (c_X6_thrown l G (fun _ => False) mo S2 ct2 (nI c1) hS2) cy_X6_thrown im_X6_thrown se_X6_thrown wd_M_L_100 rfl hms2.1 hms2 rfl hl.1 rfl (Nat.le_of_ble_eq_true rfl) ⟨by decide, by decide⟩ ⟨by show cells + 300 + 0 ≤ 717796; omega, by show slots + 10000 + 0 ≤ 6942715; omega⟩ dL_law_182 (fun v hv => ?_)
      rw [po_X6_thrown] at hv
      subst hv
      refine pb_blk B.hx B.hb (lv' := [(6, .int r9), (5, .int (nI c1)), (4, .int (nI i)), (0, .ref b), (1, .ref q), (2, .ref mo), (3, .ref out)]) (st' := [.int (nI c1), .int (nI c1)]) hl bkL_law_185_187 rfl (fun ls hl => ?_)
      refine lv_icmp_eq (tgt := 192) B.hx B.hb dL_law_187 (by decide) (fun h1 => ?_) (fun h1 => absurd h1 (not_not_intro rfl))
      refine pb_blk B.hx B.hb (lv' := [(6, .int r9), (5, .int (nI c1)), (4, .int (nI i)), (0, .ref b), (1, .ref q), (2, .ref mo), (3, .ref out)]) (st' := [.int (nI c1)]) hl bkL_law_192_194 rfl (fun ls hl => ?_)
      refine lv_if_ne (tgt := 209) B.hx B.hb dL_law_194 (by decide) (fun h2 => ?_) (fun h2 => absurd h2 (ni_ne hc0 hc4))
      refine pb_blk B.hx B.hb (lv' := [(6, .int r9), (5, .int (nI c1)), (4, .int (nI i)), (0, .ref b), (1, .ref q), (2, .ref mo), (3, .ref out)]) (st' := []) hl bkL_law_209_1590 rfl (fun ls hl => ?_)
      exact kk H2 N th as S2 ct2 ls (lw_fin D hE1 hz he hH1 hO1 hms2 hP2 hI) (lv_sub hl [2, 3, 4, 5, 6] rfl)

theorem bkL_law_212_214 : pb_chk cL_law 212 [.aload_n 1, .aload_n 3] = some 214 := by decide +kernel
theorem dL_law_214 : decode cL_law 214 = .ok (.invokestatic 103, 3) := by decide +kernel
theorem bkL_law_217_220 : pb_chk cL_law 217 [.istore 5, .aload_n 2] = some 220 := by decide +kernel
theorem dL_law_220 : decode cL_law 220 = .ok (.invokevirtual 106, 3) := by decide +kernel
theorem bkL_law_223_226 : pb_chk cL_law 223 [.istore 6, .aload_n 2] = some 226 := by decide +kernel
theorem dL_law_226 : decode cL_law 226 = .ok (.invokevirtual 100, 3) := by decide +kernel
theorem bkL_law_229_231 : pb_chk cL_law 229 [.iload 5] = some 231 := by decide +kernel
theorem dL_law_231 : decode cL_law 231 = .ok (.if_icmp .eq 5, 3) := by decide +kernel
theorem bkL_law_236_238 : pb_chk cL_law 236 [.iload 5] = some 238 := by decide +kernel
theorem dL_law_238 : decode cL_law 238 = .ok (.ifCond .ne 15, 3) := by decide +kernel
theorem bkL_law_241_243 : pb_chk cL_law 241 [.aload_n 3, .iconst 0] = some 243 := by decide +kernel
theorem dL_law_243 : decode cL_law 243 = .ok (.laload, 1) := by decide +kernel
theorem bkL_law_244_248 : pb_chk cL_law 244 [.iload 6, .i2l, .lcmp] = some 248 := by decide +kernel
theorem dL_law_248 : decode cL_law 248 = .ok (.ifCond .eq 5, 3) := by decide +kernel
theorem bkL_law_253_1590 : pb_chk cL_law 253 [.goto 1337] = some 1590 := by decide +kernel
set_option maxHeartbeats 4000000 in
set_option maxRecDepth 100000 in
theorem lc_letter {p : Program} {l : Launch} {e : Env} {s : State} {m : MethodId} {args : Array Value} {below : List Frame} {meth : Method} {c : Code} {G : Gm} {b L q ta out mo N i cells slots : Nat} {xs : Nat → Int32} {th : Nat → Th} {as : St3} {S : Sc} {ct : Ct} {H : Heap} {ls : Array Slot} {Q : State → Prop} (C : LC p l s m args meth c G b L xs) (hW : Lw G s.heap H q ta out mo N th as S ct) (hi : i + 5 ≤ L) (hl : LL ls b q mo out i) (hcs : cells + 300 ≤ 717796 ∧ slots + 10000 ≤ 6942715) (kk : LK p l e s m args below meth c G b q ta out mo i cells slots Q) : W p l e room_1 s m args below meth c H [] cells slots Q (F0 m 212 ls []) := by
  obtain ⟨B, hKT, hst, hX, hbl, hL5⟩ := C
  have hlw := hW
  obtain ⟨hH, hms, hP, ⟨y0, hO⟩, hE, D, hI⟩ := hlw
  have hA := hW.A
  have hB := hI.bds
  have hN := hI.1
  have hmo := D.2.2.2.1
  have hl : lv_has ls 7 [(4, .int (nI i)), (0, .ref b), (1, .ref q), (2, .ref mo), (3, .ref out)] := hl
  refine pb_blk B.hx B.hb (lv' := [(4, .int (nI i)), (0, .ref b), (1, .ref q), (2, .ref mo), (3, .ref out)]) (st' := [.ref out, .ref q]) hl bkL_law_212_214 rfl (fun ls hl => ?_)
  refine l_callS B hKT (c_L_letter l hst G (Al q ta out mo) q ta out N th as  hB (Or.inl (Or.inr (Or.inr rfl))) D.2.2.2.2.1 D.2.2.2.2.2.1) ch_L_letter wd_M_L_103 hA ⟨hH, y0, hO⟩ hE rfl hl.1 rfl (Nat.le_of_ble_eq_true rfl) ⟨by decide, by decide⟩ ⟨by show cells + 300 ≤ 717796; omega, by show slots + 10000 ≤ 6942715; omega⟩ dL_law_214 (fw_ge D) (fun v H1 hmv hv => ?_)
  obtain ⟨hms1, hE1⟩ := lw_mid hW hmv
  have hD : Dt (R_letter N) := dt_letter
  obtain ⟨c1, rfl, hv⟩ := hv
  rcases hv with ⟨rfl, t, hR, hH1, hO1⟩ | ⟨hc0, hc4, hR, hH1, y1, hO1⟩
  · have hE := hE1
    refine pb_blk B.hx B.hb (lv' := [(5, .int (nI 0)), (4, .int (nI i)), (0, .ref b), (1, .ref q), (2, .ref mo), (3, .ref out)]) (st' := [.ref mo]) hl bkL_law_217_220 rfl (fun ls hl => ?_)
    refine l_callM B (c_X6_letter l G mo S ct N th as  hP) cy_X6_letter im_X6_letter se_X6_letter wd_M_L_106 hms1 hmo rfl hl.1 rfl (Nat.le_of_ble_eq_true rfl) ⟨by decide, by decide⟩ ⟨rfl, rfl⟩ ⟨by show cells + 300 ≤ 717796; omega, by show slots + 10000 ≤ 6942715; omega⟩ dL_law_220 (fun v H2 S2 ct2 hz he hms2 hv => ?_)
    obtain ⟨c2, t2, hR2, hS2, g3⟩ := hv
    have hcc := hD 0 t c2 t2 hR hR2
    obtain ⟨hc, ht⟩ := hcc
    subst hc
    obtain rfl := ht rfl
    rcases g3 with ⟨_, rfl, hP2⟩ | ⟨h9, _⟩
    · refine pb_blk B.hx B.hb (lv' := [(6, .int (nI N)), (5, .int (nI 0)), (4, .int (nI i)), (0, .ref b), (1, .ref q), (2, .ref mo), (3, .ref out)]) (st' := [.ref mo]) hl bkL_law_223_226 rfl (fun ls hl => ?_)
      refine n_callV (ci := 5) B (c_X6_thrown l G (fun _ => False) mo S2 ct2 (nI 0) hS2) cy_X6_thrown im_X6_thrown se_X6_thrown wd_M_L_100 rfl hms2.1 hms2 rfl hl.1 rfl (Nat.le_of_ble_eq_true rfl) ⟨by decide, by decide⟩ ⟨by show cells + 300 + 0 ≤ 717796; omega, by show slots + 10000 + 0 ≤ 6942715; omega⟩ dL_law_226 (fun v hv => ?_)
      rw [po_X6_thrown] at hv
      subst hv
      refine pb_blk B.hx B.hb (lv' := [(6, .int (nI N)), (5, .int (nI 0)), (4, .int (nI i)), (0, .ref b), (1, .ref q), (2, .ref mo), (3, .ref out)]) (st' := [.int (nI 0), .int (nI 0)]) hl bkL_law_229_231 rfl (fun ls hl => ?_)
      refine lv_icmp_eq (tgt := 236) B.hx B.hb dL_law_231 (by decide) (fun h1 => ?_) (fun h1 => absurd h1 (not_not_intro rfl))
      refine pb_blk B.hx B.hb (lv' := [(6, .int (nI N)), (5, .int (nI 0)), (4, .int (nI i)), (0, .ref b), (1, .ref q), (2, .ref mo), (3, .ref out)]) (st' := [.int (nI 0)]) hl bkL_law_236_238 rfl (fun ls hl => ?_)
      refine lv_if_ne (tgt := 253) B.hx B.hb dL_law_238 (by decide) (fun h2 => absurd h2 (not_not_intro rfl)) (fun h2 => ?_)
      refine pb_blk B.hx B.hb (lv' := [(6, .int (nI N)), (5, .int (nI 0)), (4, .int (nI i)), (0, .ref b), (1, .ref q), (2, .ref mo), (3, .ref out)]) (st' := [.int 0, .ref out]) hl bkL_law_241_243 rfl (fun ls hl => ?_)
      obtain ⟨fo, ho1, ho2⟩ := hO1.kept (he out D.2.2.2.2.2.2.2.2)
      refine z_lald B ho1 (show vp_in (nI 0) 1 from vp_in_nI (by decide) (by decide)) (v := .long (nI N).toInt64) ho2 dL_law_243 ?_
      refine pb_blk B.hx B.hb (lv' := [(6, .int (nI N)), (5, .int (nI 0)), (4, .int (nI i)), (0, .ref b), (1, .ref q), (2, .ref mo), (3, .ref out)]) (st' := [.int (lg_cmp ((nI N).toInt64) (((nI N)).toInt64))]) hl bkL_law_244_248 rfl (fun ls hl => ?_)
      refine lv_if_eq (tgt := 253) B.hx B.hb dL_law_248 (by decide) (fun h3 => ?_) (fun h3 => absurd h3 (not_not_intro ((lg_cmp_eq _ _).mpr rfl)))
      refine pb_blk B.hx B.hb (lv' := [(6, .int (nI N)), (5, .int (nI 0)), (4, .int (nI i)), (0, .ref b), (1, .ref q), (2, .ref mo), (3, .ref out)]) (st' := []) hl bkL_law_253_1590 rfl (fun ls hl => ?_)
      exact kk H2 (N + 1) (upT th N _) as S2 ct2 ls (lw_fin D hE1 hz he hH1 hO1 hms2 hP2 (iv_letter hI hR2)) (lv_sub hl [2, 3, 4, 5, 6] rfl)
    · exact absurd rfl h9
  · have hE := hE1
    refine pb_blk B.hx B.hb (lv' := [(5, .int (nI c1)), (4, .int (nI i)), (0, .ref b), (1, .ref q), (2, .ref mo), (3, .ref out)]) (st' := [.ref mo]) hl bkL_law_217_220 rfl (fun ls hl => ?_)
    refine l_callM B (c_X6_letter l G mo S ct N th as  hP) cy_X6_letter im_X6_letter se_X6_letter wd_M_L_106 hms1 hmo rfl hl.1 rfl (Nat.le_of_ble_eq_true rfl) ⟨by decide, by decide⟩ ⟨rfl, rfl⟩ ⟨by show cells + 300 ≤ 717796; omega, by show slots + 10000 ≤ 6942715; omega⟩ dL_law_220 (fun v H2 S2 ct2 hz he hms2 hv => ?_)
    obtain ⟨c2, t2, hR2, hS2, g3⟩ := hv
    have hcc := hD c1 t2 c2 t2 (hR t2) hR2
    obtain ⟨hc, ht⟩ := hcc
    subst hc
    rcases g3 with ⟨h9, _⟩ | ⟨_, ⟨r9, rfl⟩, hP2⟩
    · exact absurd h9 hc0
    · refine pb_blk B.hx B.hb (lv' := [(6, .int r9), (5, .int (nI c1)), (4, .int (nI i)), (0, .ref b), (1, .ref q), (2, .ref mo), (3, .ref out)]) (st' := [.ref mo]) hl bkL_law_223_226 rfl (fun ls hl => ?_)
      refine n_callV (ci := 5) B (c_X6_thrown l G (fun _ => False) mo S2 ct2 (nI c1) hS2) cy_X6_thrown im_X6_thrown se_X6_thrown wd_M_L_100 rfl hms2.1 hms2 rfl hl.1 rfl (Nat.le_of_ble_eq_true rfl) ⟨by decide, by decide⟩ ⟨by show cells + 300 + 0 ≤ 717796; omega, by show slots + 10000 + 0 ≤ 6942715; omega⟩ dL_law_226 (fun v hv => ?_)
      rw [po_X6_thrown] at hv
      subst hv
      refine pb_blk B.hx B.hb (lv' := [(6, .int r9), (5, .int (nI c1)), (4, .int (nI i)), (0, .ref b), (1, .ref q), (2, .ref mo), (3, .ref out)]) (st' := [.int (nI c1), .int (nI c1)]) hl bkL_law_229_231 rfl (fun ls hl => ?_)
      refine lv_icmp_eq (tgt := 236) B.hx B.hb dL_law_231 (by decide) (fun h1 => ?_) (fun h1 => absurd h1 (not_not_intro rfl))
      refine pb_blk B.hx B.hb (lv' := [(6, .int r9), (5, .int (nI c1)), (4, .int (nI i)), (0, .ref b), (1, .ref q), (2, .ref mo), (3, .ref out)]) (st' := [.int (nI c1)]) hl bkL_law_236_238 rfl (fun ls hl => ?_)
      refine lv_if_ne (tgt := 253) B.hx B.hb dL_law_238 (by decide) (fun h2 => ?_) (fun h2 => absurd h2 (ni_ne hc0 hc4))
      refine pb_blk B.hx B.hb (lv' := [(6, .int r9), (5, .int (nI c1)), (4, .int (nI i)), (0, .ref b), (1, .ref q), (2, .ref mo), (3, .ref out)]) (st' := []) hl bkL_law_253_1590 rfl (fun ls hl => ?_)
      exact kk H2 N th as S2 ct2 ls (lw_fin D hE1 hz he hH1 hO1 hms2 hP2 hI) (lv_sub hl [2, 3, 4, 5, 6] rfl)

theorem bkL_law_256_262 : pb_chk cL_law 256 [.aload_n 1, .aload_n 0, .iload 4, .iconst 1, .iadd] = some 262 := by decide +kernel
theorem dL_law_262 : decode cL_law 262 = .ok (.iaload, 1) := by decide +kernel
theorem bkL_law_263_268 : pb_chk cL_law 263 [.aload_n 0, .iload 4, .iconst 2, .iadd] = some 268 := by decide +kernel
theorem dL_law_268 : decode cL_law 268 = .ok (.iaload, 1) := by decide +kernel
theorem bkL_law_269_270 : pb_chk cL_law 269 [.aload_n 3] = some 270 := by decide +kernel
theorem dL_law_270 : decode cL_law 270 = .ok (.invokestatic 107, 3) := by decide +kernel
theorem bkL_law_273_281 : pb_chk cL_law 273 [.istore 5, .aload_n 2, .aload_n 0, .iload 4, .iconst 1, .iadd] = some 281 := by decide +kernel
theorem dL_law_281 : decode cL_law 281 = .ok (.iaload, 1) := by decide +kernel
theorem bkL_law_282_287 : pb_chk cL_law 282 [.aload_n 0, .iload 4, .iconst 2, .iadd] = some 287 := by decide +kernel
theorem dL_law_287 : decode cL_law 287 = .ok (.iaload, 1) := by decide +kernel
theorem dL_law_288 : decode cL_law 288 = .ok (.invokevirtual 109, 3) := by decide +kernel
theorem bkL_law_291_294 : pb_chk cL_law 291 [.istore 6, .aload_n 2] = some 294 := by decide +kernel
theorem dL_law_294 : decode cL_law 294 = .ok (.invokevirtual 100, 3) := by decide +kernel
theorem bkL_law_297_299 : pb_chk cL_law 297 [.iload 5] = some 299 := by decide +kernel
theorem dL_law_299 : decode cL_law 299 = .ok (.if_icmp .eq 5, 3) := by decide +kernel
theorem bkL_law_304_306 : pb_chk cL_law 304 [.iload 5] = some 306 := by decide +kernel
theorem dL_law_306 : decode cL_law 306 = .ok (.ifCond .ne 15, 3) := by decide +kernel
theorem bkL_law_309_311 : pb_chk cL_law 309 [.aload_n 3, .iconst 0] = some 311 := by decide +kernel
theorem dL_law_311 : decode cL_law 311 = .ok (.laload, 1) := by decide +kernel
theorem bkL_law_312_316 : pb_chk cL_law 312 [.iload 6, .i2l, .lcmp] = some 316 := by decide +kernel
theorem dL_law_316 : decode cL_law 316 = .ok (.ifCond .eq 5, 3) := by decide +kernel
theorem bkL_law_321_1590 : pb_chk cL_law 321 [.goto 1269] = some 1590 := by decide +kernel
set_option maxHeartbeats 4000000 in
set_option maxRecDepth 100000 in
theorem lc_add {p : Program} {l : Launch} {e : Env} {s : State} {m : MethodId} {args : Array Value} {below : List Frame} {meth : Method} {c : Code} {G : Gm} {b L q ta out mo N i cells slots : Nat} {xs : Nat → Int32} {th : Nat → Th} {as : St3} {S : Sc} {ct : Ct} {H : Heap} {ls : Array Slot} {Q : State → Prop} (C : LC p l s m args meth c G b L xs) (hW : Lw G s.heap H q ta out mo N th as S ct) (hi : i + 5 ≤ L) (hl : LL ls b q mo out i) (hcs : cells + 300 ≤ 717796 ∧ slots + 10000 ≤ 6942715) (kk : LK p l e s m args below meth c G b q ta out mo i cells slots Q) : W p l e room_1 s m args below meth c H [] cells slots Q (F0 m 256 ls []) := by
  obtain ⟨B, hKT, hst, hX, hbl, hL5⟩ := C
  have hlw := hW
  obtain ⟨hH, hms, hP, ⟨y0, hO⟩, hE, D, hI⟩ := hlw
  have hA := hW.A
  have hB := hI.bds
  have hN := hI.1
  have hmo := D.2.2.2.1
  have hl : lv_has ls 7 [(4, .int (nI i)), (0, .ref b), (1, .ref q), (2, .ref mo), (3, .ref out)] := hl
  refine pb_blk B.hx B.hb (lv' := [(4, .int (nI i)), (0, .ref b), (1, .ref q), (2, .ref mo), (3, .ref out)]) (st' := [.int ((nI i) + 1), .ref b, .ref q]) hl bkL_law_256_262 rfl (fun ls hl => ?_)
  rw [show nI i + 1 = nI (i + 1) from nI_add i 1]
  refine l_scr B hX hbl hE (k := i + 1) (by omega) (by omega) (by omega) dL_law_262 ?_
  refine pb_blk B.hx B.hb (lv' := [(4, .int (nI i)), (0, .ref b), (1, .ref q), (2, .ref mo), (3, .ref out)]) (st' := [.int ((nI i) + 2), .ref b, .int (xs (i + 1)), .ref q]) hl bkL_law_263_268 rfl (fun ls hl => ?_)
  rw [show nI i + 2 = nI (i + 2) from nI_add i 2]
  refine l_scr B hX hbl hE (k := i + 2) (by omega) (by omega) (by omega) dL_law_268 ?_
  refine pb_blk B.hx B.hb (lv' := [(4, .int (nI i)), (0, .ref b), (1, .ref q), (2, .ref mo), (3, .ref out)]) (st' := [.ref out, .int (xs (i + 2)), .int (xs (i + 1)), .ref q]) hl bkL_law_269_270 rfl (fun ls hl => ?_)
  refine l_callS B hKT (c_L_add l hst G (Al q ta out mo) q ta out N th as (xs (i + 1)) (xs (i + 2)) hB (Or.inl (Or.inr (Or.inr rfl))) D.2.2.2.2.1 D.2.2.2.2.2.1) ch_L_add wd_M_L_107 hA ⟨hH, y0, hO⟩ hE rfl hl.1 rfl (Nat.le_of_ble_eq_true rfl) ⟨by decide, by decide⟩ ⟨by show cells + 300 ≤ 717796; omega, by show slots + 10000 ≤ 6942715; omega⟩ dL_law_270 (fw_ge D) (fun v H1 hmv hv => ?_)
  obtain ⟨hms1, hE1⟩ := lw_mid hW hmv
  have hD : Dt (R_add N th (xs (i + 1)) (xs (i + 2))) := dt_add hN
  obtain ⟨c1, rfl, hv⟩ := hv
  rcases hv with ⟨rfl, t, hR, hH1, hO1⟩ | ⟨hc0, hc4, hR, hH1, y1, hO1⟩
  · have hE := hE1
    refine pb_blk B.hx B.hb (lv' := [(5, .int (nI 0)), (4, .int (nI i)), (0, .ref b), (1, .ref q), (2, .ref mo), (3, .ref out)]) (st' := [.int ((nI i) + 1), .ref b, .ref mo]) hl bkL_law_273_281 rfl (fun ls hl => ?_)
    rw [show nI i + 1 = nI (i + 1) from nI_add i 1]
    refine l_scr B hX hbl hE (k := i + 1) (by omega) (by omega) (by omega) dL_law_281 ?_
    refine pb_blk B.hx B.hb (lv' := [(5, .int (nI 0)), (4, .int (nI i)), (0, .ref b), (1, .ref q), (2, .ref mo), (3, .ref out)]) (st' := [.int ((nI i) + 2), .ref b, .int (xs (i + 1)), .ref mo]) hl bkL_law_282_287 rfl (fun ls hl => ?_)
    rw [show nI i + 2 = nI (i + 2) from nI_add i 2]
    refine l_scr B hX hbl hE (k := i + 2) (by omega) (by omega) (by omega) dL_law_287 ?_
    refine l_callM B (c_X6_add l G mo S ct N th as (xs (i + 1)) (xs (i + 2)) hP hB) cy_X6_add im_X6_add se_X6_add wd_M_L_109 hms1 hmo rfl hl.1 rfl (Nat.le_of_ble_eq_true rfl) ⟨by decide, by decide⟩ ⟨rfl, rfl⟩ ⟨by show cells + 300 ≤ 717796; omega, by show slots + 10000 ≤ 6942715; omega⟩ dL_law_288 (fun v H2 S2 ct2 hz he hms2 hv => ?_)
    obtain ⟨c2, t2, hR2, hS2, g3⟩ := hv
    have hcc := hD 0 t c2 t2 hR hR2
    obtain ⟨hc, ht⟩ := hcc
    subst hc
    obtain rfl := ht rfl
    rcases g3 with ⟨_, rfl, hP2⟩ | ⟨h9, _⟩
    · refine pb_blk B.hx B.hb (lv' := [(6, .int (nI N)), (5, .int (nI 0)), (4, .int (nI i)), (0, .ref b), (1, .ref q), (2, .ref mo), (3, .ref out)]) (st' := [.ref mo]) hl bkL_law_291_294 rfl (fun ls hl => ?_)
      refine n_callV (ci := 5) B (c_X6_thrown l G (fun _ => False) mo S2 ct2 (nI 0) hS2) cy_X6_thrown im_X6_thrown se_X6_thrown wd_M_L_100 rfl hms2.1 hms2 rfl hl.1 rfl (Nat.le_of_ble_eq_true rfl) ⟨by decide, by decide⟩ ⟨by show cells + 300 + 0 ≤ 717796; omega, by show slots + 10000 + 0 ≤ 6942715; omega⟩ dL_law_294 (fun v hv => ?_)
      rw [po_X6_thrown] at hv
      subst hv
      refine pb_blk B.hx B.hb (lv' := [(6, .int (nI N)), (5, .int (nI 0)), (4, .int (nI i)), (0, .ref b), (1, .ref q), (2, .ref mo), (3, .ref out)]) (st' := [.int (nI 0), .int (nI 0)]) hl bkL_law_297_299 rfl (fun ls hl => ?_)
      refine lv_icmp_eq (tgt := 304) B.hx B.hb dL_law_299 (by decide) (fun h1 => ?_) (fun h1 => absurd h1 (not_not_intro rfl))
      refine pb_blk B.hx B.hb (lv' := [(6, .int (nI N)), (5, .int (nI 0)), (4, .int (nI i)), (0, .ref b), (1, .ref q), (2, .ref mo), (3, .ref out)]) (st' := [.int (nI 0)]) hl bkL_law_304_306 rfl (fun ls hl => ?_)
      refine lv_if_ne (tgt := 321) B.hx B.hb dL_law_306 (by decide) (fun h2 => absurd h2 (not_not_intro rfl)) (fun h2 => ?_)
      refine pb_blk B.hx B.hb (lv' := [(6, .int (nI N)), (5, .int (nI 0)), (4, .int (nI i)), (0, .ref b), (1, .ref q), (2, .ref mo), (3, .ref out)]) (st' := [.int 0, .ref out]) hl bkL_law_309_311 rfl (fun ls hl => ?_)
      obtain ⟨fo, ho1, ho2⟩ := hO1.kept (he out D.2.2.2.2.2.2.2.2)
      refine z_lald B ho1 (show vp_in (nI 0) 1 from vp_in_nI (by decide) (by decide)) (v := .long (nI N).toInt64) ho2 dL_law_311 ?_
      refine pb_blk B.hx B.hb (lv' := [(6, .int (nI N)), (5, .int (nI 0)), (4, .int (nI i)), (0, .ref b), (1, .ref q), (2, .ref mo), (3, .ref out)]) (st' := [.int (lg_cmp ((nI N).toInt64) (((nI N)).toInt64))]) hl bkL_law_312_316 rfl (fun ls hl => ?_)
      refine lv_if_eq (tgt := 321) B.hx B.hb dL_law_316 (by decide) (fun h3 => ?_) (fun h3 => absurd h3 (not_not_intro ((lg_cmp_eq _ _).mpr rfl)))
      refine pb_blk B.hx B.hb (lv' := [(6, .int (nI N)), (5, .int (nI 0)), (4, .int (nI i)), (0, .ref b), (1, .ref q), (2, .ref mo), (3, .ref out)]) (st' := []) hl bkL_law_321_1590 rfl (fun ls hl => ?_)
      exact kk H2 (N + 1) (upT th N _) as S2 ct2 ls (lw_fin D hE1 hz he hH1 hO1 hms2 hP2 (iv_add hI hR2)) (lv_sub hl [2, 3, 4, 5, 6] rfl)
    · exact absurd rfl h9
  · have hE := hE1
    refine pb_blk B.hx B.hb (lv' := [(5, .int (nI c1)), (4, .int (nI i)), (0, .ref b), (1, .ref q), (2, .ref mo), (3, .ref out)]) (st' := [.int ((nI i) + 1), .ref b, .ref mo]) hl bkL_law_273_281 rfl (fun ls hl => ?_)
    rw [show nI i + 1 = nI (i + 1) from nI_add i 1]
    refine l_scr B hX hbl hE (k := i + 1) (by omega) (by omega) (by omega) dL_law_281 ?_
    refine pb_blk B.hx B.hb (lv' := [(5, .int (nI c1)), (4, .int (nI i)), (0, .ref b), (1, .ref q), (2, .ref mo), (3, .ref out)]) (st' := [.int ((nI i) + 2), .ref b, .int (xs (i + 1)), .ref mo]) hl bkL_law_282_287 rfl (fun ls hl => ?_)
    rw [show nI i + 2 = nI (i + 2) from nI_add i 2]
    refine l_scr B hX hbl hE (k := i + 2) (by omega) (by omega) (by omega) dL_law_287 ?_
    refine l_callM B (c_X6_add l G mo S ct N th as (xs (i + 1)) (xs (i + 2)) hP hB) cy_X6_add im_X6_add se_X6_add wd_M_L_109 hms1 hmo rfl hl.1 rfl (Nat.le_of_ble_eq_true rfl) ⟨by decide, by decide⟩ ⟨rfl, rfl⟩ ⟨by show cells + 300 ≤ 717796; omega, by show slots + 10000 ≤ 6942715; omega⟩ dL_law_288 (fun v H2 S2 ct2 hz he hms2 hv => ?_)
    obtain ⟨c2, t2, hR2, hS2, g3⟩ := hv
    have hcc := hD c1 t2 c2 t2 (hR t2) hR2
    obtain ⟨hc, ht⟩ := hcc
    subst hc
    rcases g3 with ⟨h9, _⟩ | ⟨_, ⟨r9, rfl⟩, hP2⟩
    · exact absurd h9 hc0
    · refine pb_blk B.hx B.hb (lv' := [(6, .int r9), (5, .int (nI c1)), (4, .int (nI i)), (0, .ref b), (1, .ref q), (2, .ref mo), (3, .ref out)]) (st' := [.ref mo]) hl bkL_law_291_294 rfl (fun ls hl => ?_)
      refine n_callV (ci := 5) B (c_X6_thrown l G (fun _ => False) mo S2 ct2 (nI c1) hS2) cy_X6_thrown im_X6_thrown se_X6_thrown wd_M_L_100 rfl hms2.1 hms2 rfl hl.1 rfl (Nat.le_of_ble_eq_true rfl) ⟨by decide, by decide⟩ ⟨by show cells + 300 + 0 ≤ 717796; omega, by show slots + 10000 + 0 ≤ 6942715; omega⟩ dL_law_294 (fun v hv => ?_)
      rw [po_X6_thrown] at hv
      subst hv
      refine pb_blk B.hx B.hb (lv' := [(6, .int r9), (5, .int (nI c1)), (4, .int (nI i)), (0, .ref b), (1, .ref q), (2, .ref mo), (3, .ref out)]) (st' := [.int (nI c1), .int (nI c1)]) hl bkL_law_297_299 rfl (fun ls hl => ?_)
      refine lv_icmp_eq (tgt := 304) B.hx B.hb dL_law_299 (by decide) (fun h1 => ?_) (fun h1 => absurd h1 (not_not_intro rfl))
      refine pb_blk B.hx B.hb (lv' := [(6, .int r9), (5, .int (nI c1)), (4, .int (nI i)), (0, .ref b), (1, .ref q), (2, .ref mo), (3, .ref out)]) (st' := [.int (nI c1)]) hl bkL_law_304_306 rfl (fun ls hl => ?_)
      refine lv_if_ne (tgt := 321) B.hx B.hb dL_law_306 (by decide) (fun h2 => ?_) (fun h2 => absurd h2 (ni_ne hc0 hc4))
      refine pb_blk B.hx B.hb (lv' := [(6, .int r9), (5, .int (nI c1)), (4, .int (nI i)), (0, .ref b), (1, .ref q), (2, .ref mo), (3, .ref out)]) (st' := []) hl bkL_law_321_1590 rfl (fun ls hl => ?_)
      exact kk H2 N th as S2 ct2 ls (lw_fin D hE1 hz he hH1 hO1 hms2 hP2 hI) (lv_sub hl [2, 3, 4, 5, 6] rfl)

theorem bkL_law_324_330 : pb_chk cL_law 324 [.aload_n 1, .aload_n 0, .iload 4, .iconst 1, .iadd] = some 330 := by decide +kernel
theorem dL_law_330 : decode cL_law 330 = .ok (.iaload, 1) := by decide +kernel
theorem bkL_law_331_336 : pb_chk cL_law 331 [.aload_n 0, .iload 4, .iconst 2, .iadd] = some 336 := by decide +kernel
theorem dL_law_336 : decode cL_law 336 = .ok (.iaload, 1) := by decide +kernel
theorem bkL_law_337_338 : pb_chk cL_law 337 [.aload_n 3] = some 338 := by decide +kernel
theorem dL_law_338 : decode cL_law 338 = .ok (.invokestatic 110, 3) := by decide +kernel
theorem bkL_law_341_349 : pb_chk cL_law 341 [.istore 5, .aload_n 2, .aload_n 0, .iload 4, .iconst 1, .iadd] = some 349 := by decide +kernel
theorem dL_law_349 : decode cL_law 349 = .ok (.iaload, 1) := by decide +kernel
theorem bkL_law_350_355 : pb_chk cL_law 350 [.aload_n 0, .iload 4, .iconst 2, .iadd] = some 355 := by decide +kernel
theorem dL_law_355 : decode cL_law 355 = .ok (.iaload, 1) := by decide +kernel
theorem dL_law_356 : decode cL_law 356 = .ok (.invokevirtual 112, 3) := by decide +kernel
theorem bkL_law_359_362 : pb_chk cL_law 359 [.istore 6, .aload_n 2] = some 362 := by decide +kernel
theorem dL_law_362 : decode cL_law 362 = .ok (.invokevirtual 100, 3) := by decide +kernel
theorem bkL_law_365_367 : pb_chk cL_law 365 [.iload 5] = some 367 := by decide +kernel
theorem dL_law_367 : decode cL_law 367 = .ok (.if_icmp .eq 5, 3) := by decide +kernel
theorem bkL_law_372_374 : pb_chk cL_law 372 [.iload 5] = some 374 := by decide +kernel
theorem dL_law_374 : decode cL_law 374 = .ok (.ifCond .ne 15, 3) := by decide +kernel
theorem bkL_law_377_379 : pb_chk cL_law 377 [.aload_n 3, .iconst 0] = some 379 := by decide +kernel
theorem dL_law_379 : decode cL_law 379 = .ok (.laload, 1) := by decide +kernel
theorem bkL_law_380_384 : pb_chk cL_law 380 [.iload 6, .i2l, .lcmp] = some 384 := by decide +kernel
theorem dL_law_384 : decode cL_law 384 = .ok (.ifCond .eq 5, 3) := by decide +kernel
theorem bkL_law_389_1590 : pb_chk cL_law 389 [.goto 1201] = some 1590 := by decide +kernel
set_option maxHeartbeats 4000000 in
set_option maxRecDepth 100000 in
theorem lc_less {p : Program} {l : Launch} {e : Env} {s : State} {m : MethodId} {args : Array Value} {below : List Frame} {meth : Method} {c : Code} {G : Gm} {b L q ta out mo N i cells slots : Nat} {xs : Nat → Int32} {th : Nat → Th} {as : St3} {S : Sc} {ct : Ct} {H : Heap} {ls : Array Slot} {Q : State → Prop} (C : LC p l s m args meth c G b L xs) (hW : Lw G s.heap H q ta out mo N th as S ct) (hi : i + 5 ≤ L) (hl : LL ls b q mo out i) (hcs : cells + 300 ≤ 717796 ∧ slots + 10000 ≤ 6942715) (kk : LK p l e s m args below meth c G b q ta out mo i cells slots Q) : W p l e room_1 s m args below meth c H [] cells slots Q (F0 m 324 ls []) := by
  obtain ⟨B, hKT, hst, hX, hbl, hL5⟩ := C
  have hlw := hW
  obtain ⟨hH, hms, hP, ⟨y0, hO⟩, hE, D, hI⟩ := hlw
  have hA := hW.A
  have hB := hI.bds
  have hN := hI.1
  have hmo := D.2.2.2.1
  have hl : lv_has ls 7 [(4, .int (nI i)), (0, .ref b), (1, .ref q), (2, .ref mo), (3, .ref out)] := hl
  refine pb_blk B.hx B.hb (lv' := [(4, .int (nI i)), (0, .ref b), (1, .ref q), (2, .ref mo), (3, .ref out)]) (st' := [.int ((nI i) + 1), .ref b, .ref q]) hl bkL_law_324_330 rfl (fun ls hl => ?_)
  rw [show nI i + 1 = nI (i + 1) from nI_add i 1]
  refine l_scr B hX hbl hE (k := i + 1) (by omega) (by omega) (by omega) dL_law_330 ?_
  refine pb_blk B.hx B.hb (lv' := [(4, .int (nI i)), (0, .ref b), (1, .ref q), (2, .ref mo), (3, .ref out)]) (st' := [.int ((nI i) + 2), .ref b, .int (xs (i + 1)), .ref q]) hl bkL_law_331_336 rfl (fun ls hl => ?_)
  rw [show nI i + 2 = nI (i + 2) from nI_add i 2]
  refine l_scr B hX hbl hE (k := i + 2) (by omega) (by omega) (by omega) dL_law_336 ?_
  refine pb_blk B.hx B.hb (lv' := [(4, .int (nI i)), (0, .ref b), (1, .ref q), (2, .ref mo), (3, .ref out)]) (st' := [.ref out, .int (xs (i + 2)), .int (xs (i + 1)), .ref q]) hl bkL_law_337_338 rfl (fun ls hl => ?_)
  refine l_callS B hKT (c_L_less l hst G (Al q ta out mo) q ta out N th as (xs (i + 1)) (xs (i + 2)) hB (Or.inl (Or.inr (Or.inr rfl))) D.2.2.2.2.1 D.2.2.2.2.2.1) ch_L_less wd_M_L_110 hA ⟨hH, y0, hO⟩ hE rfl hl.1 rfl (Nat.le_of_ble_eq_true rfl) ⟨by decide, by decide⟩ ⟨by show cells + 300 ≤ 717796; omega, by show slots + 10000 ≤ 6942715; omega⟩ dL_law_338 (fw_ge D) (fun v H1 hmv hv => ?_)
  obtain ⟨hms1, hE1⟩ := lw_mid hW hmv
  have hD : Dt (R_less N th (xs (i + 1)) (xs (i + 2))) := dt_less hN
  obtain ⟨c1, rfl, hv⟩ := hv
  rcases hv with ⟨rfl, t, hR, hH1, hO1⟩ | ⟨hc0, hc4, hR, hH1, y1, hO1⟩
  · have hE := hE1
    refine pb_blk B.hx B.hb (lv' := [(5, .int (nI 0)), (4, .int (nI i)), (0, .ref b), (1, .ref q), (2, .ref mo), (3, .ref out)]) (st' := [.int ((nI i) + 1), .ref b, .ref mo]) hl bkL_law_341_349 rfl (fun ls hl => ?_)
    rw [show nI i + 1 = nI (i + 1) from nI_add i 1]
    refine l_scr B hX hbl hE (k := i + 1) (by omega) (by omega) (by omega) dL_law_349 ?_
    refine pb_blk B.hx B.hb (lv' := [(5, .int (nI 0)), (4, .int (nI i)), (0, .ref b), (1, .ref q), (2, .ref mo), (3, .ref out)]) (st' := [.int ((nI i) + 2), .ref b, .int (xs (i + 1)), .ref mo]) hl bkL_law_350_355 rfl (fun ls hl => ?_)
    rw [show nI i + 2 = nI (i + 2) from nI_add i 2]
    refine l_scr B hX hbl hE (k := i + 2) (by omega) (by omega) (by omega) dL_law_355 ?_
    refine l_callM B (c_X6_less l G mo S ct N th as (xs (i + 1)) (xs (i + 2)) hP hB) cy_X6_less im_X6_less se_X6_less wd_M_L_112 hms1 hmo rfl hl.1 rfl (Nat.le_of_ble_eq_true rfl) ⟨by decide, by decide⟩ ⟨rfl, rfl⟩ ⟨by show cells + 300 ≤ 717796; omega, by show slots + 10000 ≤ 6942715; omega⟩ dL_law_356 (fun v H2 S2 ct2 hz he hms2 hv => ?_)
    obtain ⟨c2, t2, hR2, hS2, g3⟩ := hv
    have hcc := hD 0 t c2 t2 hR hR2
    obtain ⟨hc, ht⟩ := hcc
    subst hc
    obtain rfl := ht rfl
    rcases g3 with ⟨_, rfl, hP2⟩ | ⟨h9, _⟩
    · refine pb_blk B.hx B.hb (lv' := [(6, .int (nI N)), (5, .int (nI 0)), (4, .int (nI i)), (0, .ref b), (1, .ref q), (2, .ref mo), (3, .ref out)]) (st' := [.ref mo]) hl bkL_law_359_362 rfl (fun ls hl => ?_)
      refine n_callV (ci := 5) B (c_X6_thrown l G (fun _ => False) mo S2 ct2 (nI 0) hS2) cy_X6_thrown im_X6_thrown se_X6_thrown wd_M_L_100 rfl hms2.1 hms2 rfl hl.1 rfl (Nat.le_of_ble_eq_true rfl) ⟨by decide, by decide⟩ ⟨by show cells + 300 + 0 ≤ 717796; omega, by show slots + 10000 + 0 ≤ 6942715; omega⟩ dL_law_362 (fun v hv => ?_)
      rw [po_X6_thrown] at hv
      subst hv
      refine pb_blk B.hx B.hb (lv' := [(6, .int (nI N)), (5, .int (nI 0)), (4, .int (nI i)), (0, .ref b), (1, .ref q), (2, .ref mo), (3, .ref out)]) (st' := [.int (nI 0), .int (nI 0)]) hl bkL_law_365_367 rfl (fun ls hl => ?_)
      refine lv_icmp_eq (tgt := 372) B.hx B.hb dL_law_367 (by decide) (fun h1 => ?_) (fun h1 => absurd h1 (not_not_intro rfl))
      refine pb_blk B.hx B.hb (lv' := [(6, .int (nI N)), (5, .int (nI 0)), (4, .int (nI i)), (0, .ref b), (1, .ref q), (2, .ref mo), (3, .ref out)]) (st' := [.int (nI 0)]) hl bkL_law_372_374 rfl (fun ls hl => ?_)
      refine lv_if_ne (tgt := 389) B.hx B.hb dL_law_374 (by decide) (fun h2 => absurd h2 (not_not_intro rfl)) (fun h2 => ?_)
      refine pb_blk B.hx B.hb (lv' := [(6, .int (nI N)), (5, .int (nI 0)), (4, .int (nI i)), (0, .ref b), (1, .ref q), (2, .ref mo), (3, .ref out)]) (st' := [.int 0, .ref out]) hl bkL_law_377_379 rfl (fun ls hl => ?_)
      obtain ⟨fo, ho1, ho2⟩ := hO1.kept (he out D.2.2.2.2.2.2.2.2)
      refine z_lald B ho1 (show vp_in (nI 0) 1 from vp_in_nI (by decide) (by decide)) (v := .long (nI N).toInt64) ho2 dL_law_379 ?_
      refine pb_blk B.hx B.hb (lv' := [(6, .int (nI N)), (5, .int (nI 0)), (4, .int (nI i)), (0, .ref b), (1, .ref q), (2, .ref mo), (3, .ref out)]) (st' := [.int (lg_cmp ((nI N).toInt64) (((nI N)).toInt64))]) hl bkL_law_380_384 rfl (fun ls hl => ?_)
      refine lv_if_eq (tgt := 389) B.hx B.hb dL_law_384 (by decide) (fun h3 => ?_) (fun h3 => absurd h3 (not_not_intro ((lg_cmp_eq _ _).mpr rfl)))
      refine pb_blk B.hx B.hb (lv' := [(6, .int (nI N)), (5, .int (nI 0)), (4, .int (nI i)), (0, .ref b), (1, .ref q), (2, .ref mo), (3, .ref out)]) (st' := []) hl bkL_law_389_1590 rfl (fun ls hl => ?_)
      exact kk H2 (N + 1) (upT th N _) as S2 ct2 ls (lw_fin D hE1 hz he hH1 hO1 hms2 hP2 (iv_less hI hR2)) (lv_sub hl [2, 3, 4, 5, 6] rfl)
    · exact absurd rfl h9
  · have hE := hE1
    refine pb_blk B.hx B.hb (lv' := [(5, .int (nI c1)), (4, .int (nI i)), (0, .ref b), (1, .ref q), (2, .ref mo), (3, .ref out)]) (st' := [.int ((nI i) + 1), .ref b, .ref mo]) hl bkL_law_341_349 rfl (fun ls hl => ?_)
    rw [show nI i + 1 = nI (i + 1) from nI_add i 1]
    refine l_scr B hX hbl hE (k := i + 1) (by omega) (by omega) (by omega) dL_law_349 ?_
    refine pb_blk B.hx B.hb (lv' := [(5, .int (nI c1)), (4, .int (nI i)), (0, .ref b), (1, .ref q), (2, .ref mo), (3, .ref out)]) (st' := [.int ((nI i) + 2), .ref b, .int (xs (i + 1)), .ref mo]) hl bkL_law_350_355 rfl (fun ls hl => ?_)
    rw [show nI i + 2 = nI (i + 2) from nI_add i 2]
    refine l_scr B hX hbl hE (k := i + 2) (by omega) (by omega) (by omega) dL_law_355 ?_
    refine l_callM B (c_X6_less l G mo S ct N th as (xs (i + 1)) (xs (i + 2)) hP hB) cy_X6_less im_X6_less se_X6_less wd_M_L_112 hms1 hmo rfl hl.1 rfl (Nat.le_of_ble_eq_true rfl) ⟨by decide, by decide⟩ ⟨rfl, rfl⟩ ⟨by show cells + 300 ≤ 717796; omega, by show slots + 10000 ≤ 6942715; omega⟩ dL_law_356 (fun v H2 S2 ct2 hz he hms2 hv => ?_)
    obtain ⟨c2, t2, hR2, hS2, g3⟩ := hv
    have hcc := hD c1 t2 c2 t2 (hR t2) hR2
    obtain ⟨hc, ht⟩ := hcc
    subst hc
    rcases g3 with ⟨h9, _⟩ | ⟨_, ⟨r9, rfl⟩, hP2⟩
    · exact absurd h9 hc0
    · refine pb_blk B.hx B.hb (lv' := [(6, .int r9), (5, .int (nI c1)), (4, .int (nI i)), (0, .ref b), (1, .ref q), (2, .ref mo), (3, .ref out)]) (st' := [.ref mo]) hl bkL_law_359_362 rfl (fun ls hl => ?_)
      refine n_callV (ci := 5) B (c_X6_thrown l G (fun _ => False) mo S2 ct2 (nI c1) hS2) cy_X6_thrown im_X6_thrown se_X6_thrown wd_M_L_100 rfl hms2.1 hms2 rfl hl.1 rfl (Nat.le_of_ble_eq_true rfl) ⟨by decide, by decide⟩ ⟨by show cells + 300 + 0 ≤ 717796; omega, by show slots + 10000 + 0 ≤ 6942715; omega⟩ dL_law_362 (fun v hv => ?_)
      rw [po_X6_thrown] at hv
      subst hv
      refine pb_blk B.hx B.hb (lv' := [(6, .int r9), (5, .int (nI c1)), (4, .int (nI i)), (0, .ref b), (1, .ref q), (2, .ref mo), (3, .ref out)]) (st' := [.int (nI c1), .int (nI c1)]) hl bkL_law_365_367 rfl (fun ls hl => ?_)
      refine lv_icmp_eq (tgt := 372) B.hx B.hb dL_law_367 (by decide) (fun h1 => ?_) (fun h1 => absurd h1 (not_not_intro rfl))
      refine pb_blk B.hx B.hb (lv' := [(6, .int r9), (5, .int (nI c1)), (4, .int (nI i)), (0, .ref b), (1, .ref q), (2, .ref mo), (3, .ref out)]) (st' := [.int (nI c1)]) hl bkL_law_372_374 rfl (fun ls hl => ?_)
      refine lv_if_ne (tgt := 389) B.hx B.hb dL_law_374 (by decide) (fun h2 => ?_) (fun h2 => absurd h2 (ni_ne hc0 hc4))
      refine pb_blk B.hx B.hb (lv' := [(6, .int r9), (5, .int (nI c1)), (4, .int (nI i)), (0, .ref b), (1, .ref q), (2, .ref mo), (3, .ref out)]) (st' := []) hl bkL_law_389_1590 rfl (fun ls hl => ?_)
      exact kk H2 N th as S2 ct2 ls (lw_fin D hE1 hz he hH1 hO1 hms2 hP2 hI) (lv_sub hl [2, 3, 4, 5, 6] rfl)

theorem bkL_law_392_398 : pb_chk cL_law 392 [.aload_n 1, .aload_n 0, .iload 4, .iconst 1, .iadd] = some 398 := by decide +kernel
theorem dL_law_398 : decode cL_law 398 = .ok (.iaload, 1) := by decide +kernel
theorem bkL_law_399_404 : pb_chk cL_law 399 [.aload_n 0, .iload 4, .iconst 2, .iadd] = some 404 := by decide +kernel
theorem dL_law_404 : decode cL_law 404 = .ok (.iaload, 1) := by decide +kernel
theorem bkL_law_405_406 : pb_chk cL_law 405 [.aload_n 3] = some 406 := by decide +kernel
theorem dL_law_406 : decode cL_law 406 = .ok (.invokestatic 113, 3) := by decide +kernel
theorem bkL_law_409_417 : pb_chk cL_law 409 [.istore 5, .aload_n 2, .aload_n 0, .iload 4, .iconst 1, .iadd] = some 417 := by decide +kernel
theorem dL_law_417 : decode cL_law 417 = .ok (.iaload, 1) := by decide +kernel
theorem bkL_law_418_423 : pb_chk cL_law 418 [.aload_n 0, .iload 4, .iconst 2, .iadd] = some 423 := by decide +kernel
theorem dL_law_423 : decode cL_law 423 = .ok (.iaload, 1) := by decide +kernel
theorem dL_law_424 : decode cL_law 424 = .ok (.invokevirtual 115, 3) := by decide +kernel
theorem bkL_law_427_430 : pb_chk cL_law 427 [.istore 6, .aload_n 2] = some 430 := by decide +kernel
theorem dL_law_430 : decode cL_law 430 = .ok (.invokevirtual 100, 3) := by decide +kernel
theorem bkL_law_433_435 : pb_chk cL_law 433 [.iload 5] = some 435 := by decide +kernel
theorem dL_law_435 : decode cL_law 435 = .ok (.if_icmp .eq 5, 3) := by decide +kernel
theorem bkL_law_440_442 : pb_chk cL_law 440 [.iload 5] = some 442 := by decide +kernel
theorem dL_law_442 : decode cL_law 442 = .ok (.ifCond .ne 15, 3) := by decide +kernel
theorem bkL_law_445_447 : pb_chk cL_law 445 [.aload_n 3, .iconst 0] = some 447 := by decide +kernel
theorem dL_law_447 : decode cL_law 447 = .ok (.laload, 1) := by decide +kernel
theorem bkL_law_448_452 : pb_chk cL_law 448 [.iload 6, .i2l, .lcmp] = some 452 := by decide +kernel
theorem dL_law_452 : decode cL_law 452 = .ok (.ifCond .eq 5, 3) := by decide +kernel
theorem bkL_law_457_1590 : pb_chk cL_law 457 [.goto 1133] = some 1590 := by decide +kernel
set_option maxHeartbeats 4000000 in
set_option maxRecDepth 100000 in
theorem lc_times {p : Program} {l : Launch} {e : Env} {s : State} {m : MethodId} {args : Array Value} {below : List Frame} {meth : Method} {c : Code} {G : Gm} {b L q ta out mo N i cells slots : Nat} {xs : Nat → Int32} {th : Nat → Th} {as : St3} {S : Sc} {ct : Ct} {H : Heap} {ls : Array Slot} {Q : State → Prop} (C : LC p l s m args meth c G b L xs) (hW : Lw G s.heap H q ta out mo N th as S ct) (hi : i + 5 ≤ L) (hl : LL ls b q mo out i) (hcs : cells + 300 ≤ 717796 ∧ slots + 10000 ≤ 6942715) (kk : LK p l e s m args below meth c G b q ta out mo i cells slots Q) : W p l e room_1 s m args below meth c H [] cells slots Q (F0 m 392 ls []) := by
  obtain ⟨B, hKT, hst, hX, hbl, hL5⟩ := C
  have hlw := hW
  obtain ⟨hH, hms, hP, ⟨y0, hO⟩, hE, D, hI⟩ := hlw
  have hA := hW.A
  have hB := hI.bds
  have hN := hI.1
  have hmo := D.2.2.2.1
  have hl : lv_has ls 7 [(4, .int (nI i)), (0, .ref b), (1, .ref q), (2, .ref mo), (3, .ref out)] := hl
  refine pb_blk B.hx B.hb (lv' := [(4, .int (nI i)), (0, .ref b), (1, .ref q), (2, .ref mo), (3, .ref out)]) (st' := [.int ((nI i) + 1), .ref b, .ref q]) hl bkL_law_392_398 rfl (fun ls hl => ?_)
  rw [show nI i + 1 = nI (i + 1) from nI_add i 1]
  refine l_scr B hX hbl hE (k := i + 1) (by omega) (by omega) (by omega) dL_law_398 ?_
  refine pb_blk B.hx B.hb (lv' := [(4, .int (nI i)), (0, .ref b), (1, .ref q), (2, .ref mo), (3, .ref out)]) (st' := [.int ((nI i) + 2), .ref b, .int (xs (i + 1)), .ref q]) hl bkL_law_399_404 rfl (fun ls hl => ?_)
  rw [show nI i + 2 = nI (i + 2) from nI_add i 2]
  refine l_scr B hX hbl hE (k := i + 2) (by omega) (by omega) (by omega) dL_law_404 ?_
  refine pb_blk B.hx B.hb (lv' := [(4, .int (nI i)), (0, .ref b), (1, .ref q), (2, .ref mo), (3, .ref out)]) (st' := [.ref out, .int (xs (i + 2)), .int (xs (i + 1)), .ref q]) hl bkL_law_405_406 rfl (fun ls hl => ?_)
  refine l_callS B hKT (c_L_times l hst G (Al q ta out mo) q ta out N th as (xs (i + 1)) (xs (i + 2)) hB (Or.inl (Or.inr (Or.inr rfl))) D.2.2.2.2.1 D.2.2.2.2.2.1) ch_L_times wd_M_L_113 hA ⟨hH, y0, hO⟩ hE rfl hl.1 rfl (Nat.le_of_ble_eq_true rfl) ⟨by decide, by decide⟩ ⟨by show cells + 300 ≤ 717796; omega, by show slots + 10000 ≤ 6942715; omega⟩ dL_law_406 (fw_ge D) (fun v H1 hmv hv => ?_)
  obtain ⟨hms1, hE1⟩ := lw_mid hW hmv
  have hD : Dt (R_times N th (xs (i + 1)) (xs (i + 2))) := dt_times hN
  obtain ⟨c1, rfl, hv⟩ := hv
  rcases hv with ⟨rfl, t, hR, hH1, hO1⟩ | ⟨hc0, hc4, hR, hH1, y1, hO1⟩
  · have hE := hE1
    refine pb_blk B.hx B.hb (lv' := [(5, .int (nI 0)), (4, .int (nI i)), (0, .ref b), (1, .ref q), (2, .ref mo), (3, .ref out)]) (st' := [.int ((nI i) + 1), .ref b, .ref mo]) hl bkL_law_409_417 rfl (fun ls hl => ?_)
    rw [show nI i + 1 = nI (i + 1) from nI_add i 1]
    refine l_scr B hX hbl hE (k := i + 1) (by omega) (by omega) (by omega) dL_law_417 ?_
    refine pb_blk B.hx B.hb (lv' := [(5, .int (nI 0)), (4, .int (nI i)), (0, .ref b), (1, .ref q), (2, .ref mo), (3, .ref out)]) (st' := [.int ((nI i) + 2), .ref b, .int (xs (i + 1)), .ref mo]) hl bkL_law_418_423 rfl (fun ls hl => ?_)
    rw [show nI i + 2 = nI (i + 2) from nI_add i 2]
    refine l_scr B hX hbl hE (k := i + 2) (by omega) (by omega) (by omega) dL_law_423 ?_
    refine l_callM B (c_X6_times l G mo S ct N th as (xs (i + 1)) (xs (i + 2)) hP hB hI.bdm) cy_X6_times im_X6_times se_X6_times wd_M_L_115 hms1 hmo rfl hl.1 rfl (Nat.le_of_ble_eq_true rfl) ⟨by decide, by decide⟩ ⟨rfl, rfl⟩ ⟨by show cells + 300 ≤ 717796; omega, by show slots + 10000 ≤ 6942715; omega⟩ dL_law_424 (fun v H2 S2 ct2 hz he hms2 hv => ?_)
    obtain ⟨c2, t2, hR2, hS2, g3⟩ := hv
    have hcc := hD 0 t c2 t2 hR hR2
    obtain ⟨hc, ht⟩ := hcc
    subst hc
    obtain rfl := ht rfl
    rcases g3 with ⟨_, rfl, hP2⟩ | ⟨h9, _⟩
    · refine pb_blk B.hx B.hb (lv' := [(6, .int (nI N)), (5, .int (nI 0)), (4, .int (nI i)), (0, .ref b), (1, .ref q), (2, .ref mo), (3, .ref out)]) (st' := [.ref mo]) hl bkL_law_427_430 rfl (fun ls hl => ?_)
      refine n_callV (ci := 5) B (c_X6_thrown l G (fun _ => False) mo S2 ct2 (nI 0) hS2) cy_X6_thrown im_X6_thrown se_X6_thrown wd_M_L_100 rfl hms2.1 hms2 rfl hl.1 rfl (Nat.le_of_ble_eq_true rfl) ⟨by decide, by decide⟩ ⟨by show cells + 300 + 0 ≤ 717796; omega, by show slots + 10000 + 0 ≤ 6942715; omega⟩ dL_law_430 (fun v hv => ?_)
      rw [po_X6_thrown] at hv
      subst hv
      refine pb_blk B.hx B.hb (lv' := [(6, .int (nI N)), (5, .int (nI 0)), (4, .int (nI i)), (0, .ref b), (1, .ref q), (2, .ref mo), (3, .ref out)]) (st' := [.int (nI 0), .int (nI 0)]) hl bkL_law_433_435 rfl (fun ls hl => ?_)
      refine lv_icmp_eq (tgt := 440) B.hx B.hb dL_law_435 (by decide) (fun h1 => ?_) (fun h1 => absurd h1 (not_not_intro rfl))
      refine pb_blk B.hx B.hb (lv' := [(6, .int (nI N)), (5, .int (nI 0)), (4, .int (nI i)), (0, .ref b), (1, .ref q), (2, .ref mo), (3, .ref out)]) (st' := [.int (nI 0)]) hl bkL_law_440_442 rfl (fun ls hl => ?_)
      refine lv_if_ne (tgt := 457) B.hx B.hb dL_law_442 (by decide) (fun h2 => absurd h2 (not_not_intro rfl)) (fun h2 => ?_)
      refine pb_blk B.hx B.hb (lv' := [(6, .int (nI N)), (5, .int (nI 0)), (4, .int (nI i)), (0, .ref b), (1, .ref q), (2, .ref mo), (3, .ref out)]) (st' := [.int 0, .ref out]) hl bkL_law_445_447 rfl (fun ls hl => ?_)
      obtain ⟨fo, ho1, ho2⟩ := hO1.kept (he out D.2.2.2.2.2.2.2.2)
      refine z_lald B ho1 (show vp_in (nI 0) 1 from vp_in_nI (by decide) (by decide)) (v := .long (nI N).toInt64) ho2 dL_law_447 ?_
      refine pb_blk B.hx B.hb (lv' := [(6, .int (nI N)), (5, .int (nI 0)), (4, .int (nI i)), (0, .ref b), (1, .ref q), (2, .ref mo), (3, .ref out)]) (st' := [.int (lg_cmp ((nI N).toInt64) (((nI N)).toInt64))]) hl bkL_law_448_452 rfl (fun ls hl => ?_)
      refine lv_if_eq (tgt := 457) B.hx B.hb dL_law_452 (by decide) (fun h3 => ?_) (fun h3 => absurd h3 (not_not_intro ((lg_cmp_eq _ _).mpr rfl)))
      refine pb_blk B.hx B.hb (lv' := [(6, .int (nI N)), (5, .int (nI 0)), (4, .int (nI i)), (0, .ref b), (1, .ref q), (2, .ref mo), (3, .ref out)]) (st' := []) hl bkL_law_457_1590 rfl (fun ls hl => ?_)
      exact kk H2 (N + 1) (upT th N _) as S2 ct2 ls (lw_fin D hE1 hz he hH1 hO1 hms2 hP2 (iv_times hI hR2)) (lv_sub hl [2, 3, 4, 5, 6] rfl)
    · exact absurd rfl h9
  · have hE := hE1
    refine pb_blk B.hx B.hb (lv' := [(5, .int (nI c1)), (4, .int (nI i)), (0, .ref b), (1, .ref q), (2, .ref mo), (3, .ref out)]) (st' := [.int ((nI i) + 1), .ref b, .ref mo]) hl bkL_law_409_417 rfl (fun ls hl => ?_)
    rw [show nI i + 1 = nI (i + 1) from nI_add i 1]
    refine l_scr B hX hbl hE (k := i + 1) (by omega) (by omega) (by omega) dL_law_417 ?_
    refine pb_blk B.hx B.hb (lv' := [(5, .int (nI c1)), (4, .int (nI i)), (0, .ref b), (1, .ref q), (2, .ref mo), (3, .ref out)]) (st' := [.int ((nI i) + 2), .ref b, .int (xs (i + 1)), .ref mo]) hl bkL_law_418_423 rfl (fun ls hl => ?_)
    rw [show nI i + 2 = nI (i + 2) from nI_add i 2]
    refine l_scr B hX hbl hE (k := i + 2) (by omega) (by omega) (by omega) dL_law_423 ?_
    refine l_callM B (c_X6_times l G mo S ct N th as (xs (i + 1)) (xs (i + 2)) hP hB hI.bdm) cy_X6_times im_X6_times se_X6_times wd_M_L_115 hms1 hmo rfl hl.1 rfl (Nat.le_of_ble_eq_true rfl) ⟨by decide, by decide⟩ ⟨rfl, rfl⟩ ⟨by show cells + 300 ≤ 717796; omega, by show slots + 10000 ≤ 6942715; omega⟩ dL_law_424 (fun v H2 S2 ct2 hz he hms2 hv => ?_)
    obtain ⟨c2, t2, hR2, hS2, g3⟩ := hv
    have hcc := hD c1 t2 c2 t2 (hR t2) hR2
    obtain ⟨hc, ht⟩ := hcc
    subst hc
    rcases g3 with ⟨h9, _⟩ | ⟨_, ⟨r9, rfl⟩, hP2⟩
    · exact absurd h9 hc0
    · refine pb_blk B.hx B.hb (lv' := [(6, .int r9), (5, .int (nI c1)), (4, .int (nI i)), (0, .ref b), (1, .ref q), (2, .ref mo), (3, .ref out)]) (st' := [.ref mo]) hl bkL_law_427_430 rfl (fun ls hl => ?_)
      refine n_callV (ci := 5) B (c_X6_thrown l G (fun _ => False) mo S2 ct2 (nI c1) hS2) cy_X6_thrown im_X6_thrown se_X6_thrown wd_M_L_100 rfl hms2.1 hms2 rfl hl.1 rfl (Nat.le_of_ble_eq_true rfl) ⟨by decide, by decide⟩ ⟨by show cells + 300 + 0 ≤ 717796; omega, by show slots + 10000 + 0 ≤ 6942715; omega⟩ dL_law_430 (fun v hv => ?_)
      rw [po_X6_thrown] at hv
      subst hv
      refine pb_blk B.hx B.hb (lv' := [(6, .int r9), (5, .int (nI c1)), (4, .int (nI i)), (0, .ref b), (1, .ref q), (2, .ref mo), (3, .ref out)]) (st' := [.int (nI c1), .int (nI c1)]) hl bkL_law_433_435 rfl (fun ls hl => ?_)
      refine lv_icmp_eq (tgt := 440) B.hx B.hb dL_law_435 (by decide) (fun h1 => ?_) (fun h1 => absurd h1 (not_not_intro rfl))
      refine pb_blk B.hx B.hb (lv' := [(6, .int r9), (5, .int (nI c1)), (4, .int (nI i)), (0, .ref b), (1, .ref q), (2, .ref mo), (3, .ref out)]) (st' := [.int (nI c1)]) hl bkL_law_440_442 rfl (fun ls hl => ?_)
      refine lv_if_ne (tgt := 457) B.hx B.hb dL_law_442 (by decide) (fun h2 => ?_) (fun h2 => absurd h2 (ni_ne hc0 hc4))
      refine pb_blk B.hx B.hb (lv' := [(6, .int r9), (5, .int (nI c1)), (4, .int (nI i)), (0, .ref b), (1, .ref q), (2, .ref mo), (3, .ref out)]) (st' := []) hl bkL_law_457_1590 rfl (fun ls hl => ?_)
      exact kk H2 N th as S2 ct2 ls (lw_fin D hE1 hz he hH1 hO1 hms2 hP2 hI) (lv_sub hl [2, 3, 4, 5, 6] rfl)

theorem bkL_law_460_466 : pb_chk cL_law 460 [.aload_n 1, .aload_n 0, .iload 4, .iconst 1, .iadd] = some 466 := by decide +kernel
theorem dL_law_466 : decode cL_law 466 = .ok (.iaload, 1) := by decide +kernel
theorem bkL_law_467_472 : pb_chk cL_law 467 [.aload_n 0, .iload 4, .iconst 2, .iadd] = some 472 := by decide +kernel
theorem dL_law_472 : decode cL_law 472 = .ok (.iaload, 1) := by decide +kernel
theorem bkL_law_473_474 : pb_chk cL_law 473 [.aload_n 3] = some 474 := by decide +kernel
theorem dL_law_474 : decode cL_law 474 = .ok (.invokestatic 116, 3) := by decide +kernel
theorem bkL_law_477_485 : pb_chk cL_law 477 [.istore 5, .aload_n 2, .aload_n 0, .iload 4, .iconst 1, .iadd] = some 485 := by decide +kernel
theorem dL_law_485 : decode cL_law 485 = .ok (.iaload, 1) := by decide +kernel
theorem bkL_law_486_491 : pb_chk cL_law 486 [.aload_n 0, .iload 4, .iconst 2, .iadd] = some 491 := by decide +kernel
theorem dL_law_491 : decode cL_law 491 = .ok (.iaload, 1) := by decide +kernel
theorem dL_law_492 : decode cL_law 492 = .ok (.invokevirtual 118, 3) := by decide +kernel
theorem bkL_law_495_498 : pb_chk cL_law 495 [.istore 6, .aload_n 2] = some 498 := by decide +kernel
theorem dL_law_498 : decode cL_law 498 = .ok (.invokevirtual 100, 3) := by decide +kernel
theorem bkL_law_501_503 : pb_chk cL_law 501 [.iload 5] = some 503 := by decide +kernel
theorem dL_law_503 : decode cL_law 503 = .ok (.if_icmp .eq 5, 3) := by decide +kernel
theorem bkL_law_508_510 : pb_chk cL_law 508 [.iload 5] = some 510 := by decide +kernel
theorem dL_law_510 : decode cL_law 510 = .ok (.ifCond .ne 15, 3) := by decide +kernel
theorem bkL_law_513_515 : pb_chk cL_law 513 [.aload_n 3, .iconst 0] = some 515 := by decide +kernel
theorem dL_law_515 : decode cL_law 515 = .ok (.laload, 1) := by decide +kernel
theorem bkL_law_516_520 : pb_chk cL_law 516 [.iload 6, .i2l, .lcmp] = some 520 := by decide +kernel
theorem dL_law_520 : decode cL_law 520 = .ok (.ifCond .eq 5, 3) := by decide +kernel
theorem bkL_law_525_1590 : pb_chk cL_law 525 [.goto 1065] = some 1590 := by decide +kernel
set_option maxHeartbeats 4000000 in
set_option maxRecDepth 100000 in
theorem lc_over {p : Program} {l : Launch} {e : Env} {s : State} {m : MethodId} {args : Array Value} {below : List Frame} {meth : Method} {c : Code} {G : Gm} {b L q ta out mo N i cells slots : Nat} {xs : Nat → Int32} {th : Nat → Th} {as : St3} {S : Sc} {ct : Ct} {H : Heap} {ls : Array Slot} {Q : State → Prop} (C : LC p l s m args meth c G b L xs) (hW : Lw G s.heap H q ta out mo N th as S ct) (hi : i + 5 ≤ L) (hl : LL ls b q mo out i) (hcs : cells + 300 ≤ 717796 ∧ slots + 10000 ≤ 6942715) (kk : LK p l e s m args below meth c G b q ta out mo i cells slots Q) : W p l e room_1 s m args below meth c H [] cells slots Q (F0 m 460 ls []) := by
  obtain ⟨B, hKT, hst, hX, hbl, hL5⟩ := C
  have hlw := hW
  obtain ⟨hH, hms, hP, ⟨y0, hO⟩, hE, D, hI⟩ := hlw
  have hA := hW.A
  have hB := hI.bds
  have hN := hI.1
  have hmo := D.2.2.2.1
  have hl : lv_has ls 7 [(4, .int (nI i)), (0, .ref b), (1, .ref q), (2, .ref mo), (3, .ref out)] := hl
  refine pb_blk B.hx B.hb (lv' := [(4, .int (nI i)), (0, .ref b), (1, .ref q), (2, .ref mo), (3, .ref out)]) (st' := [.int ((nI i) + 1), .ref b, .ref q]) hl bkL_law_460_466 rfl (fun ls hl => ?_)
  rw [show nI i + 1 = nI (i + 1) from nI_add i 1]
  refine l_scr B hX hbl hE (k := i + 1) (by omega) (by omega) (by omega) dL_law_466 ?_
  refine pb_blk B.hx B.hb (lv' := [(4, .int (nI i)), (0, .ref b), (1, .ref q), (2, .ref mo), (3, .ref out)]) (st' := [.int ((nI i) + 2), .ref b, .int (xs (i + 1)), .ref q]) hl bkL_law_467_472 rfl (fun ls hl => ?_)
  rw [show nI i + 2 = nI (i + 2) from nI_add i 2]
  refine l_scr B hX hbl hE (k := i + 2) (by omega) (by omega) (by omega) dL_law_472 ?_
  refine pb_blk B.hx B.hb (lv' := [(4, .int (nI i)), (0, .ref b), (1, .ref q), (2, .ref mo), (3, .ref out)]) (st' := [.ref out, .int (xs (i + 2)), .int (xs (i + 1)), .ref q]) hl bkL_law_473_474 rfl (fun ls hl => ?_)
  refine l_callS B hKT (c_L_over l hst G (Al q ta out mo) q ta out N th as (xs (i + 1)) (xs (i + 2)) hB (Or.inl (Or.inr (Or.inr rfl))) D.2.2.2.2.1 D.2.2.2.2.2.1) ch_L_over wd_M_L_116 hA ⟨hH, y0, hO⟩ hE rfl hl.1 rfl (Nat.le_of_ble_eq_true rfl) ⟨by decide, by decide⟩ ⟨by show cells + 300 ≤ 717796; omega, by show slots + 10000 ≤ 6942715; omega⟩ dL_law_474 (fw_ge D) (fun v H1 hmv hv => ?_)
  obtain ⟨hms1, hE1⟩ := lw_mid hW hmv
  have hD : Dt (R_over N th (xs (i + 1)) (xs (i + 2))) := dt_over hN
  obtain ⟨c1, rfl, hv⟩ := hv
  rcases hv with ⟨rfl, t, hR, hH1, hO1⟩ | ⟨hc0, hc4, hR, hH1, y1, hO1⟩
  · have hE := hE1
    refine pb_blk B.hx B.hb (lv' := [(5, .int (nI 0)), (4, .int (nI i)), (0, .ref b), (1, .ref q), (2, .ref mo), (3, .ref out)]) (st' := [.int ((nI i) + 1), .ref b, .ref mo]) hl bkL_law_477_485 rfl (fun ls hl => ?_)
    rw [show nI i + 1 = nI (i + 1) from nI_add i 1]
    refine l_scr B hX hbl hE (k := i + 1) (by omega) (by omega) (by omega) dL_law_485 ?_
    refine pb_blk B.hx B.hb (lv' := [(5, .int (nI 0)), (4, .int (nI i)), (0, .ref b), (1, .ref q), (2, .ref mo), (3, .ref out)]) (st' := [.int ((nI i) + 2), .ref b, .int (xs (i + 1)), .ref mo]) hl bkL_law_486_491 rfl (fun ls hl => ?_)
    rw [show nI i + 2 = nI (i + 2) from nI_add i 2]
    refine l_scr B hX hbl hE (k := i + 2) (by omega) (by omega) (by omega) dL_law_491 ?_
    refine l_callM B (c_X6_over l G mo S ct N th as (xs (i + 1)) (xs (i + 2)) hP hB) cy_X6_over im_X6_over se_X6_over wd_M_L_118 hms1 hmo rfl hl.1 rfl (Nat.le_of_ble_eq_true rfl) ⟨by decide, by decide⟩ ⟨rfl, rfl⟩ ⟨by show cells + 300 ≤ 717796; omega, by show slots + 10000 ≤ 6942715; omega⟩ dL_law_492 (fun v H2 S2 ct2 hz he hms2 hv => ?_)
    obtain ⟨c2, t2, hR2, hS2, g3⟩ := hv
    have hcc := hD 0 t c2 t2 hR hR2
    obtain ⟨hc, ht⟩ := hcc
    subst hc
    obtain rfl := ht rfl
    rcases g3 with ⟨_, rfl, hP2⟩ | ⟨h9, _⟩
    · refine pb_blk B.hx B.hb (lv' := [(6, .int (nI N)), (5, .int (nI 0)), (4, .int (nI i)), (0, .ref b), (1, .ref q), (2, .ref mo), (3, .ref out)]) (st' := [.ref mo]) hl bkL_law_495_498 rfl (fun ls hl => ?_)
      refine n_callV (ci := 5) B (c_X6_thrown l G (fun _ => False) mo S2 ct2 (nI 0) hS2) cy_X6_thrown im_X6_thrown se_X6_thrown wd_M_L_100 rfl hms2.1 hms2 rfl hl.1 rfl (Nat.le_of_ble_eq_true rfl) ⟨by decide, by decide⟩ ⟨by show cells + 300 + 0 ≤ 717796; omega, by show slots + 10000 + 0 ≤ 6942715; omega⟩ dL_law_498 (fun v hv => ?_)
      rw [po_X6_thrown] at hv
      subst hv
      refine pb_blk B.hx B.hb (lv' := [(6, .int (nI N)), (5, .int (nI 0)), (4, .int (nI i)), (0, .ref b), (1, .ref q), (2, .ref mo), (3, .ref out)]) (st' := [.int (nI 0), .int (nI 0)]) hl bkL_law_501_503 rfl (fun ls hl => ?_)
      refine lv_icmp_eq (tgt := 508) B.hx B.hb dL_law_503 (by decide) (fun h1 => ?_) (fun h1 => absurd h1 (not_not_intro rfl))
      refine pb_blk B.hx B.hb (lv' := [(6, .int (nI N)), (5, .int (nI 0)), (4, .int (nI i)), (0, .ref b), (1, .ref q), (2, .ref mo), (3, .ref out)]) (st' := [.int (nI 0)]) hl bkL_law_508_510 rfl (fun ls hl => ?_)
      refine lv_if_ne (tgt := 525) B.hx B.hb dL_law_510 (by decide) (fun h2 => absurd h2 (not_not_intro rfl)) (fun h2 => ?_)
      refine pb_blk B.hx B.hb (lv' := [(6, .int (nI N)), (5, .int (nI 0)), (4, .int (nI i)), (0, .ref b), (1, .ref q), (2, .ref mo), (3, .ref out)]) (st' := [.int 0, .ref out]) hl bkL_law_513_515 rfl (fun ls hl => ?_)
      obtain ⟨fo, ho1, ho2⟩ := hO1.kept (he out D.2.2.2.2.2.2.2.2)
      refine z_lald B ho1 (show vp_in (nI 0) 1 from vp_in_nI (by decide) (by decide)) (v := .long (nI N).toInt64) ho2 dL_law_515 ?_
      refine pb_blk B.hx B.hb (lv' := [(6, .int (nI N)), (5, .int (nI 0)), (4, .int (nI i)), (0, .ref b), (1, .ref q), (2, .ref mo), (3, .ref out)]) (st' := [.int (lg_cmp ((nI N).toInt64) (((nI N)).toInt64))]) hl bkL_law_516_520 rfl (fun ls hl => ?_)
      refine lv_if_eq (tgt := 525) B.hx B.hb dL_law_520 (by decide) (fun h3 => ?_) (fun h3 => absurd h3 (not_not_intro ((lg_cmp_eq _ _).mpr rfl)))
      refine pb_blk B.hx B.hb (lv' := [(6, .int (nI N)), (5, .int (nI 0)), (4, .int (nI i)), (0, .ref b), (1, .ref q), (2, .ref mo), (3, .ref out)]) (st' := []) hl bkL_law_525_1590 rfl (fun ls hl => ?_)
      exact kk H2 (N + 1) (upT th N _) as S2 ct2 ls (lw_fin D hE1 hz he hH1 hO1 hms2 hP2 (iv_over hI hR2)) (lv_sub hl [2, 3, 4, 5, 6] rfl)
    · exact absurd rfl h9
  · have hE := hE1
    refine pb_blk B.hx B.hb (lv' := [(5, .int (nI c1)), (4, .int (nI i)), (0, .ref b), (1, .ref q), (2, .ref mo), (3, .ref out)]) (st' := [.int ((nI i) + 1), .ref b, .ref mo]) hl bkL_law_477_485 rfl (fun ls hl => ?_)
    rw [show nI i + 1 = nI (i + 1) from nI_add i 1]
    refine l_scr B hX hbl hE (k := i + 1) (by omega) (by omega) (by omega) dL_law_485 ?_
    refine pb_blk B.hx B.hb (lv' := [(5, .int (nI c1)), (4, .int (nI i)), (0, .ref b), (1, .ref q), (2, .ref mo), (3, .ref out)]) (st' := [.int ((nI i) + 2), .ref b, .int (xs (i + 1)), .ref mo]) hl bkL_law_486_491 rfl (fun ls hl => ?_)
    rw [show nI i + 2 = nI (i + 2) from nI_add i 2]
    refine l_scr B hX hbl hE (k := i + 2) (by omega) (by omega) (by omega) dL_law_491 ?_
    refine l_callM B (c_X6_over l G mo S ct N th as (xs (i + 1)) (xs (i + 2)) hP hB) cy_X6_over im_X6_over se_X6_over wd_M_L_118 hms1 hmo rfl hl.1 rfl (Nat.le_of_ble_eq_true rfl) ⟨by decide, by decide⟩ ⟨rfl, rfl⟩ ⟨by show cells + 300 ≤ 717796; omega, by show slots + 10000 ≤ 6942715; omega⟩ dL_law_492 (fun v H2 S2 ct2 hz he hms2 hv => ?_)
    obtain ⟨c2, t2, hR2, hS2, g3⟩ := hv
    have hcc := hD c1 t2 c2 t2 (hR t2) hR2
    obtain ⟨hc, ht⟩ := hcc
    subst hc
    rcases g3 with ⟨h9, _⟩ | ⟨_, ⟨r9, rfl⟩, hP2⟩
    · exact absurd h9 hc0
    · refine pb_blk B.hx B.hb (lv' := [(6, .int r9), (5, .int (nI c1)), (4, .int (nI i)), (0, .ref b), (1, .ref q), (2, .ref mo), (3, .ref out)]) (st' := [.ref mo]) hl bkL_law_495_498 rfl (fun ls hl => ?_)
      refine n_callV (ci := 5) B (c_X6_thrown l G (fun _ => False) mo S2 ct2 (nI c1) hS2) cy_X6_thrown im_X6_thrown se_X6_thrown wd_M_L_100 rfl hms2.1 hms2 rfl hl.1 rfl (Nat.le_of_ble_eq_true rfl) ⟨by decide, by decide⟩ ⟨by show cells + 300 + 0 ≤ 717796; omega, by show slots + 10000 + 0 ≤ 6942715; omega⟩ dL_law_498 (fun v hv => ?_)
      rw [po_X6_thrown] at hv
      subst hv
      refine pb_blk B.hx B.hb (lv' := [(6, .int r9), (5, .int (nI c1)), (4, .int (nI i)), (0, .ref b), (1, .ref q), (2, .ref mo), (3, .ref out)]) (st' := [.int (nI c1), .int (nI c1)]) hl bkL_law_501_503 rfl (fun ls hl => ?_)
      refine lv_icmp_eq (tgt := 508) B.hx B.hb dL_law_503 (by decide) (fun h1 => ?_) (fun h1 => absurd h1 (not_not_intro rfl))
      refine pb_blk B.hx B.hb (lv' := [(6, .int r9), (5, .int (nI c1)), (4, .int (nI i)), (0, .ref b), (1, .ref q), (2, .ref mo), (3, .ref out)]) (st' := [.int (nI c1)]) hl bkL_law_508_510 rfl (fun ls hl => ?_)
      refine lv_if_ne (tgt := 525) B.hx B.hb dL_law_510 (by decide) (fun h2 => ?_) (fun h2 => absurd h2 (ni_ne hc0 hc4))
      refine pb_blk B.hx B.hb (lv' := [(6, .int r9), (5, .int (nI c1)), (4, .int (nI i)), (0, .ref b), (1, .ref q), (2, .ref mo), (3, .ref out)]) (st' := []) hl bkL_law_525_1590 rfl (fun ls hl => ?_)
      exact kk H2 N th as S2 ct2 ls (lw_fin D hE1 hz he hH1 hO1 hms2 hP2 hI) (lv_sub hl [2, 3, 4, 5, 6] rfl)

