/-! the claim out of one walk of the law (the kit's skeleton, with the launch without stack traces handed on) -/
def R_law : String := "FormulaHouseLaw"
def lw_P (b : Addr) (xs : List Int32) (args : Array Value) (s : State) : Prop := args = #[.ref b] ∧ s.IntsAt b xs ∧ xs.length ≤ 2560 ∧ (Jvm.Cond.and given_1 narrow_1).before args s = true
def lw_Q (_ : Array Value) (s : State) (o : Outcome) (t : State) : Prop := o = .returned (some (.int 1)) ∧ Framed s o t [] 717796 6942715
def lw_Z (below : List Frame) (a : Array Value) (s : State) : State → Prop := fun t => ∃ o, t.status = .running ∧ Ended t below o ∧ lw_Q a s o t
/-- the law's own end, with 1 on the stack, nothing written that was there before, its room as the claim has it -/
theorem lw_ret {p : Program} {l : Launch} {e : Env} {s : State} {m : MethodId} {below : List Frame} {meth : Method} {c : Code} {b : Nat} (hx : p.tables.exec = Jvm.exec) (hb : c.code = code) (hr : meth.sig.returnType = ret) (hlocks : meth.locks = false) {pc : Nat} {H : Heap} {ls : Array Slot} (hdg : decode code pc = .ok (.ireturn, 1)) : W p l e room_1 s m #[Value.ref b] below meth c H [] 717796 6942715 (lw_Z below #[Value.ref b] s) (F0 m pc ls [.int 1]) := by
  intro T hT X
  obtain ⟨fs, hret, hrun, hended, hW, hframe⟩ := X.leave (v := some (.int 1)) (hlocks := hlocks) (fun h => by rw [hr] at h; cases h)
  have hmeth' : T.vm.method? m = some meth := X.method'
  refine ⟨T.setFrames fs, ?_, .returned (some (.int 1)), hrun, hended, rfl, ⟨_, rfl⟩, hW, hframe⟩
  jvm_step X.here [X.here.top, hx, hb, hdg, hmeth', hr, ret, narrow_b1]
  (try refine ⟨rfl, ?_⟩); (try refine ⟨rfl, ?_⟩)
  first | (intro acts; rw [hret _ acts rfl rfl rfl]) | rw [hret _ _ rfl rfl rfl]
  exact Steps.refl _

def lw_At (p : Program) (s : State) (m : MethodId) (meth : Method) (c : Code) (b L : Nat) (xs : Nat → Int32) : Prop :=
  p.tables.exec = Jvm.exec ∧ c.code = code ∧ meth.sig.returnType = ret ∧ c.maxLocals = 7 ∧ s.vm.findClass R_law = some m.cls ∧ (∀ w ∈ lw_tbl, w.before #[Value.ref b] s = true) ∧ va_X b L xs s s.heap ∧ b < s.heap.size ∧ meth.locks = false ∧ (Jvm.Cond.and given_1 narrow_1).before #[Value.ref b] s = true ∧ meth.name = x.name
theorem l5 {L i : Nat} (hL : L ≤ 2560) (hi : i < 2 ^ 30) : (nI L - 5 < nI i) ↔ L < i + 5 := by
  have e5 : (5 : Int32).toInt = 5 := rfl
  have e : (nI L - 5).toInt = (L : Int) - 5 := by
    rw [Int32.toInt_sub, nI_toI (by omega), e5]
    exact Int.bmod_eq_of_le (by omega) (by omega)
  rw [Int32.lt_iff_toInt_lt, e, nI_toI (by omega)]
  omega

theorem bkL_law_23_26 : pb_chk cL_law 23 [.iload 4, .aload_n 0] = some 26 := by decide +kernel
theorem dL_law_26 : decode cL_law 26 = .ok (.arraylength, 1) := by decide +kernel
theorem bkL_law_27_29 : pb_chk cL_law 27 [.iconst 5, .isub] = some 29 := by decide +kernel
theorem dL_law_29 : decode cL_law 29 = .ok (.if_icmp .gt 1567, 3) := by decide +kernel
theorem bkL_law_1596_1597 : pb_chk cL_law 1596 [.iconst 1] = some 1597 := by decide +kernel
theorem dL_law_1597 : decode cL_law 1597 = .ok (.ireturn, 1) := by decide +kernel
theorem bkL_law_1590_23 : pb_chk cL_law 1590 [.iinc 4 5, .goto (-1570)] = some 23 := by decide +kernel
theorem bkL_law_32_35 : pb_chk cL_law 32 [.aload_n 0, .iload 4] = some 35 := by decide +kernel
theorem dL_law_35 : decode cL_law 35 = .ok (.iaload, 1) := by decide +kernel
theorem bkL_law_36_39 : pb_chk cL_law 36 [.bipush 31, .iand] = some 39 := by decide +kernel
theorem dL_law_39 : decode cL_law 39 = .ok (.tableswitch 1551 0 22 #[105, 173, 217, 285, 353, 421, 489, 545, 601, 669, 737, 805, 873, 929, 985, 1041, 1121, 1177, 1269, 1344, 1407, 1463, 1538], 105) := by decide +kernel
set_option maxHeartbeats 4000000 in
set_option maxRecDepth 100000 in
theorem law_loop {p : Program} {l : Launch} {e : Env} {s : State} {m : MethodId} {below : List Frame} {meth : Method} {c : Code} {G : Gm} {b L q ta out mo : Nat} {xs : Nat → Int32} (C : LC p l s m #[Value.ref b] meth c G b L xs) : ∀ (n k : Nat) (H : Heap) (N : Nat) (th : Nat → Th) (as : St3) (S : Sc) (ct : Ct) (ls : Array Slot), 514 ≤ k + n → 5 * k ≤ L + 4 → Lw G s.heap H q ta out mo N th as S ct → LL ls b q mo out (5 * k) → W p l e room_1 s m #[Value.ref b] below meth c H [] (100 + 300 * k) (60000 + 10000 * k) (lw_Z below #[Value.ref b] s) (F0 m 23 ls []) := by
  intro n
  induction n with
  | zero =>
    intro k H N th as S ct ls h1 h2
    have := C.2.2.2.2.2
    omega
  | succ n ih =>
    intro k H N th as S ct ls hn hk hW hl
    have hl : lv_has ls 7 [(4, .int (nI (5 * k))), (0, .ref b), (1, .ref q), (2, .ref mo), (3, .ref out)] := hl
    obtain ⟨B, hKT, hst, hX, hbl, hL5⟩ := id C
    have hE := hW.2.2.2.2.1
    refine pb_blk B.hx B.hb (lv' := [(4, .int (nI (5 * k))), (0, .ref b), (1, .ref q), (2, .ref mo), (3, .ref out)]) (st' := [.ref b, .int (nI (5 * k))]) hl bkL_law_23_26 rfl (fun ls hl => ?_)
    refine l_len B hX hbl hE dL_law_26 ?_
    refine pb_blk B.hx B.hb (lv' := [(4, .int (nI (5 * k))), (0, .ref b), (1, .ref q), (2, .ref mo), (3, .ref out)]) (st' := [.int ((nI L) - 5), .int (nI (5 * k))]) hl bkL_law_27_29 rfl (fun ls hl => ?_)
    refine lv_icmp_gt (tgt := 1596) B.hx B.hb dL_law_29 (by decide) (fun h1 => ?_) (fun h1 => ?_)
    · refine pb_blk B.hx B.hb (lv' := [(4, .int (nI (5 * k))), (0, .ref b), (1, .ref q), (2, .ref mo), (3, .ref out)]) (st' := [.int 1]) hl bkL_law_1596_1597 rfl (fun ls hl => ?_)
      refine W.widen (k := 717796) (n := 6942715) (by omega) (by omega) ?_
      exact lw_ret B.hx B.hb B.hr B.hlk dL_law_1597
    · have hi5 : 5 * k + 5 ≤ L := Nat.le_of_not_lt (fun q => h1 ((l5 hL5 (show 5 * k < 2 ^ 30 by omega)).mpr q))
      have kk : LK p l e s m #[Value.ref b] below meth c G b q ta out mo (5 * k) (100 + 300 * k) (60000 + 10000 * k) (lw_Z below #[Value.ref b] s) := by
        intro H2 N2 th2 as2 S2 ct2 ls hW2 hl2
        have hl : lv_has ls 7 [(4, .int (nI (5 * k))), (0, .ref b), (1, .ref q), (2, .ref mo), (3, .ref out)] := hl2
        refine pb_blk B.hx B.hb (lv' := [(4, .int ((nI (5 * k)) + 5)), (0, .ref b), (1, .ref q), (2, .ref mo), (3, .ref out)]) (st' := []) hl bkL_law_1590_23 rfl (fun ls hl => ?_)
        exact W.widen (k := 100 + 300 * (k + 1)) (n := 60000 + 10000 * (k + 1)) (by omega) (by omega) (ih (k + 1) H2 N2 th2 as2 S2 ct2 ls (by omega) (by omega) hW2 (by show lv_has ls 7 [(4, .int (nI (5 * (k + 1)))), (0, .ref b), (1, .ref q), (2, .ref mo), (3, .ref out)]; rw [show nI (5 * (k + 1)) = nI (5 * k) + 5 from (nI_add (5 * k) 5).symm]; exact lv_sub hl [0, 1, 2, 3, 4] rfl))
      refine pb_blk B.hx B.hb (lv' := [(4, .int (nI (5 * k))), (0, .ref b), (1, .ref q), (2, .ref mo), (3, .ref out)]) (st' := [.int (nI (5 * k)), .ref b]) hl bkL_law_32_35 rfl (fun ls hl => ?_)
      refine l_scr B hX hbl hE (k := 5 * k) (by omega) (by omega) (by omega) dL_law_35 ?_
      refine pb_blk B.hx B.hb (lv' := [(4, .int (nI (5 * k))), (0, .ref b), (1, .ref q), (2, .ref mo), (3, .ref out)]) (st' := [.int ((xs (5 * k)) &&& 31)]) hl bkL_law_36_39 rfl (fun ls hl => ?_)
      have hl : LL ls b q mo out (5 * k) := hl
      obtain ⟨z, hz⟩ : ∃ z : Int32, z = xs (5 * k) &&& 31 := ⟨_, rfl⟩
      rw [← hz]
      have hcs : 100 + 300 * k + 300 ≤ 717796 ∧ 60000 + 10000 * k + 10000 ≤ 6942715 := ⟨by omega, by omega⟩
      rcases Decidable.em (z.toInt < 0 ∨ 22 < z.toInt) with ho | ho
      · refine lv_tableOut (tgt := 1590) B.hx B.hb dL_law_39 ho (by decide) ?_
        exact W.widen (k := 100 + 300 * k + 300) (n := 60000 + 10000 * k + 10000) (by omega) (by omega) (kk H N th as S ct ls hW hl)
      · have h1 : ¬ z.toInt < 0 := fun q => ho (Or.inl q)
        have h2 : ¬ 22 < z.toInt := fun q => ho (Or.inr q)
        have hz3 : z.toInt = 0 ∨ z.toInt = 1 ∨ z.toInt = 2 ∨ z.toInt = 3 ∨ z.toInt = 4 ∨ z.toInt = 5 ∨ z.toInt = 6 ∨ z.toInt = 7 ∨ z.toInt = 8 ∨ z.toInt = 9 ∨ z.toInt = 10 ∨ z.toInt = 11 ∨ z.toInt = 12 ∨ z.toInt = 13 ∨ z.toInt = 14 ∨ z.toInt = 15 ∨ z.toInt = 16 ∨ z.toInt = 17 ∨ z.toInt = 18 ∨ z.toInt = 19 ∨ z.toInt = 20 ∨ z.toInt = 21 ∨ z.toInt = 22 := by omega
        rcases hz3 with h3 | h3 | h3 | h3 | h3 | h3 | h3 | h3 | h3 | h3 | h3 | h3 | h3 | h3 | h3 | h3 | h3 | h3 | h3 | h3 | h3 | h3 | h3
        · refine lv_tableIn (tgt := 144) (off := 105) B.hx B.hb dL_law_39 h1 h2 (by rw [h3]; rfl) (by decide) ?_
          exact lc_number C hW hi5 hl hcs kk
        · refine lv_tableIn (tgt := 212) (off := 173) B.hx B.hb dL_law_39 h1 h2 (by rw [h3]; rfl) (by decide) ?_
          exact lc_letter C hW hi5 hl hcs kk
        · refine lv_tableIn (tgt := 256) (off := 217) B.hx B.hb dL_law_39 h1 h2 (by rw [h3]; rfl) (by decide) ?_
          exact lc_add C hW hi5 hl hcs kk
        · refine lv_tableIn (tgt := 324) (off := 285) B.hx B.hb dL_law_39 h1 h2 (by rw [h3]; rfl) (by decide) ?_
          exact lc_less C hW hi5 hl hcs kk
        · refine lv_tableIn (tgt := 392) (off := 353) B.hx B.hb dL_law_39 h1 h2 (by rw [h3]; rfl) (by decide) ?_
          exact lc_times C hW hi5 hl hcs kk
        · refine lv_tableIn (tgt := 460) (off := 421) B.hx B.hb dL_law_39 h1 h2 (by rw [h3]; rfl) (by decide) ?_
          exact lc_over C hW hi5 hl hcs kk
        · refine lv_tableIn (tgt := 528) (off := 489) B.hx B.hb dL_law_39 h1 h2 (by rw [h3]; rfl) (by decide) ?_
          exact lc_derive C hW hi5 hl hcs kk
        · refine lv_tableIn (tgt := 584) (off := 545) B.hx B.hb dL_law_39 h1 h2 (by rw [h3]; rfl) (by decide) ?_
          exact lc_integral C hW hi5 hl hcs kk
        · refine lv_tableIn (tgt := 640) (off := 601) B.hx B.hb dL_law_39 h1 h2 (by rw [h3]; rfl) (by decide) ?_
          exact lc_put C hW hi5 hl hcs kk
        · refine lv_tableIn (tgt := 708) (off := 669) B.hx B.hb dL_law_39 h1 h2 (by rw [h3]; rfl) (by decide) ?_
          exact lc_where C hW hi5 hl hcs kk
        · refine lv_tableIn (tgt := 776) (off := 737) B.hx B.hb dL_law_39 h1 h2 (by rw [h3]; rfl) (by decide) ?_
          exact lc_both C hW hi5 hl hcs kk
        · refine lv_tableIn (tgt := 844) (off := 805) B.hx B.hb dL_law_39 h1 h2 (by rw [h3]; rfl) (by decide) ?_
          exact lc_either C hW hi5 hl hcs kk
        · refine lv_tableIn (tgt := 912) (off := 873) B.hx B.hb dL_law_39 h1 h2 (by rw [h3]; rfl) (by decide) ?_
          exact lc_other C hW hi5 hl hcs kk
        · refine lv_tableIn (tgt := 968) (off := 929) B.hx B.hb dL_law_39 h1 h2 (by rw [h3]; rfl) (by decide) ?_
          exact lc_kind C hW hi5 hl hcs kk
        · refine lv_tableIn (tgt := 1024) (off := 985) B.hx B.hb dL_law_39 h1 h2 (by rw [h3]; rfl) (by decide) ?_
          exact lc_degree C hW hi5 hl hcs kk
        · refine lv_tableIn (tgt := 1080) (off := 1041) B.hx B.hb dL_law_39 h1 h2 (by rw [h3]; rfl) (by decide) ?_
          exact lc_at C hW hi5 hl hcs kk
        · refine lv_tableIn (tgt := 1160) (off := 1121) B.hx B.hb dL_law_39 h1 h2 (by rw [h3]; rfl) (by decide) ?_
          exact lc_pieces C hW hi5 hl hcs kk
        · refine lv_tableIn (tgt := 1216) (off := 1177) B.hx B.hb dL_law_39 h1 h2 (by rw [h3]; rfl) (by decide) ?_
          exact lc_end C hW hi5 hl hcs kk
        · refine lv_tableIn (tgt := 1308) (off := 1269) B.hx B.hb dL_law_39 h1 h2 (by rw [h3]; rfl) (by decide) ?_
          exact lc_holds C hW hi5 hl hcs kk
        · refine lv_tableIn (tgt := 1383) (off := 1344) B.hx B.hb dL_law_39 h1 h2 (by rw [h3]; rfl) (by decide) ?_
          exact lc_assume C hW hi5 hl hcs kk
        · refine lv_tableIn (tgt := 1446) (off := 1407) B.hx B.hb dL_law_39 h1 h2 (by rw [h3]; rfl) (by decide) ?_
          exact lc_sign C hW hi5 hl hcs kk
        · refine lv_tableIn (tgt := 1502) (off := 1463) B.hx B.hb dL_law_39 h1 h2 (by rw [h3]; rfl) (by decide) ?_
          exact lc_same C hW hi5 hl hcs kk
        · refine lv_tableIn (tgt := 1577) (off := 1538) B.hx B.hb dL_law_39 h1 h2 (by rw [h3]; rfl) (by decide) ?_
          exact lc_count C hW hi5 hl hcs kk

theorem House.grow {G : Gm} {A A' : Nat → Prop} {H H' : Heap} {q ta N : Nat} {th : Nat → Th} {as : St3} (h : House G A H q ta N th as) (m : Mv A H A' H') (hq : H'[q]? = H[q]?) (ht : H'[ta]? = H[ta]?) (aq : A' q) (at_ : A' ta) : House G A' H' q ta N th as := by
  obtain ⟨aa, h1, h2, h3, h4, h5, ⟨f, h6, h7⟩, h8⟩ := h
  refine ⟨aa, h1.kept (q := (q, _)) hq, aq, at_, h4, h5, ⟨f, ht.trans h6, fun k hk => ?_⟩, h8.mv m⟩
  obtain ⟨x, e1, hx⟩ := h7 k hk
  exact ⟨x, e1, hx.mv m⟩

theorem dL_law_0 : decode cL_law 0 = .ok (.new 8, 3) := by decide +kernel
theorem bkL_law_3_4 : pb_chk cL_law 3 [.dup] = some 4 := by decide +kernel
theorem dL_law_4 : decode cL_law 4 = .ok (.invokespecial 90, 3) := by decide +kernel
theorem bkL_law_7_8 : pb_chk cL_law 7 [.astore_n 1] = some 8 := by decide +kernel
theorem dL_law_8 : decode cL_law 8 = .ok (.new 91, 3) := by decide +kernel
theorem bkL_law_11_12 : pb_chk cL_law 11 [.dup] = some 12 := by decide +kernel
theorem dL_law_12 : decode cL_law 12 = .ok (.invokespecial 93, 3) := by decide +kernel
theorem bkL_law_15_17 : pb_chk cL_law 15 [.astore_n 2, .iconst 1] = some 17 := by decide +kernel
theorem dL_law_17 : decode cL_law 17 = .ok (.newarray .long, 2) := by decide +kernel
theorem bkL_law_19_23 : pb_chk cL_law 19 [.astore_n 3, .iconst 0, .istore 4] = some 23 := by decide +kernel
set_option maxHeartbeats 4000000 in
set_option maxRecDepth 100000 in
theorem whole_start {p : Program} {e : Env} {s : State} {m : MethodId} {below : List Frame} {meth : Method} {c : Code} (l : Launch) (hst : l.stackTraces = false) {b L : Nat} {xs : Nat → Int32} (hL : L ≤ 2560) (C0 : lw_At p s m meth c b L xs) : W p l e room_1 s m #[Value.ref b] below meth c s.heap [] 0 0 (lw_Z below #[Value.ref b] s) (entryFrame m ([Value.ref b] : List Value).toArray 7) := by
  obtain ⟨hx, hb, hr, hml, hown, hts, hX, hbl, hlocks, hgv, hnm⟩ := C0
  obtain ⟨G, hKK⟩ := st_KK hts hgv
  have hKT := st_KT hts hgv
  have B : Bd p s m #[Value.ref b] meth c G yL_law cL_law 7 (some .boolean) := ⟨hx, hb, hml, hown, fun w hw => hts w (List.mem_filter.mp hw).1, hKK, hr, hlocks, hnm⟩
  have hl := lv_entry ([.ref b]) (n := 7) (Nat.le_of_ble_eq_true rfl)
  rw [lg_entry_eq]
  generalize (lg_sl ([.ref b]) ++ List.replicate (7 - (lg_sl ([.ref b])).length) Slot.unset).toArray = ls at hl ⊢
  have hl : lv_has ls 7 [(0, .ref b)] := hl
  refine z_new B ciX5 wd_C_L_8 hfs_X5 (Nat.le_of_ble_eq_true rfl) (Nat.le_of_ble_eq_true rfl) dL_law_0 (fun H1 ob1 z1 o1 => ?_)
  refine pb_blk B.hx B.hb (lv' := [(0, .ref b)]) (st' := [.ref s.heap.size, .ref s.heap.size]) hl bkL_law_3_4 rfl (fun ls hl => ?_)
  refine c_ctor B (c_X5_init l G (fun _ => False) s.heap.size) cy_X5_init im_X5_init rfl wd_M_L_90 (Nat.le_refl _) (fun _ h => h.elim) ⟨ob1, z1, fun h => h⟩ rfl hl.1 rfl (Nat.le_of_ble_eq_true rfl) ⟨by decide, by decide⟩ ⟨by decide, by decide⟩ dL_law_4 (fun H2 z2 o2 hp => ?_)
  obtain ⟨hH, hlt⟩ := hp
  have hsz := hH.lt
  refine pb_blk B.hx B.hb (lv' := [(1, .ref s.heap.size), (0, .ref b)]) (st' := []) hl bkL_law_7_8 rfl (fun ls hl => ?_)
  refine z_new B ciX6 wd_C_L_91 hfs_X6 (Nat.le_of_ble_eq_true rfl) (Nat.le_of_ble_eq_true rfl) dL_law_8 (fun H3 ob3 z3 o3 => ?_)
  refine pb_blk B.hx B.hb (lv' := [(1, .ref s.heap.size), (0, .ref b)]) (st' := [.ref H2.size, .ref H2.size]) hl bkL_law_11_12 rfl (fun ls hl => ?_)
  refine c_ctor B (c_X6_init l G (fun _ => False) H2.size) cy_X6_init im_X6_init rfl wd_M_L_93 (by omega) (fun _ h => h.elim) ⟨ob3, z3⟩ rfl hl.1 rfl (Nat.le_of_ble_eq_true rfl) ⟨by decide, by decide⟩ ⟨by decide, by decide⟩ dL_law_12 (fun H4 z4 o4 hms => ?_)
  have hm17 := hms.lt (H2.size + 17) ⟨by omega, Nat.le_refl _⟩
  refine pb_blk B.hx B.hb (lv' := [(2, .ref H2.size), (1, .ref s.heap.size), (0, .ref b)]) (st' := [.int 1]) hl bkL_law_15_17 rfl (fun ls hl => ?_)
  refine z_newa (atype := .long) (ty := .long) B 1 rfl rfl id wa_J (by decide) (N := 1) (by decide) (by decide) (Nat.le_of_ble_eq_true rfl) (Nat.le_of_ble_eq_true rfl) dL_law_17 (fun H5 w5 z5 o5 => ?_)
  refine pb_blk B.hx B.hb (lv' := [(4, .int 0), (3, .ref H4.size), (2, .ref H2.size), (1, .ref s.heap.size), (0, .ref b)]) (st' := []) hl bkL_law_19_23 rfl (fun ls hl => ?_)
  have h45 : ∀ x, x < H2.size → H5[x]? = H2[x]? := fun x hx => (o5 x (by omega)).trans ((o4 x (by omega) (by omega)).trans (o3 x hx))
  have D : Dj s.heap.size s.heap.size H1.size H4.size H2.size := ⟨Nat.le_refl _, by omega, by omega, by omega, by omega, by omega, fun h => by have := h.1; omega, fun h => by have := h.1; omega, fun h => by have := h.2; omega⟩
  have hmv : Mv (Aq (Aq (fun _ => False) s.heap.size) H1.size) H2 (Al s.heap.size H1.size H4.size H2.size) H5 := ⟨by omega, fun x hx hn => ⟨fun h => ?_, h45 x hx⟩⟩
  · have hH5 := House.grow hH hmv (h45 _ (by omega)) (h45 _ (by omega)) (Or.inl (Or.inl rfl)) (Or.inl (Or.inr (Or.inl rfl)))
    have hms5 := hms.kept (H1 := H5) (fun x hx => o5 x (hms.lt x hx))
    have hE5 : Ex s.heap H5 := ⟨by omega, fun x hx => (h45 x (by omega)).trans ((o2 x (by omega) (by omega)).trans (o1 x hx))⟩
    refine W.widen (k := 100 + 300 * 0) (n := 60000 + 10000 * 0) (Nat.le_of_ble_eq_true rfl) (Nat.le_of_ble_eq_true rfl) ?_
    exact law_loop ⟨B, hKT, hst, hX, hbl, hL⟩ 514 0 H5 0 _ as0 S00 ct00 ls (by omega) (by omega) ⟨hH5, hms5, pst0 _, ⟨0, _, w5, rfl⟩, hE5, D, iv0 _⟩ (lv_sub hl [0, 4, 3, 2, 1] rfl)
  · rcases h with (h | h | h) | h
    · exact hn (Or.inl (Or.inr h))
    · exact hn (Or.inr h)
    · omega
    · have := h.1; omega

