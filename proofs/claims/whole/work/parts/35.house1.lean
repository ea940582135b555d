def po_X5_found (G : Gm) (A : Nat → Prop) (q ta N : Nat) (th : Nat → Th) (as : St3) (f0 : Int32) : Option Value → Heap → Prop := fun v H => ∃ k x, k < N ∧ f0 = nI k ∧ v = some (.ref x) ∧ TA G A H x (th k)
def px_X5_found (q ta N : Nat) (th : Nat → Th) (as : St3) (f0 : Int32) : String → Prop := fun E => E = eIO ∧ ¬ Tr N f0
theorem bkX5_found_0_1 : pb_chk cX5_found 0 [.iload_n 1] = some 1 := by decide +kernel
theorem dX5_found_1 : decode cX5_found 1 = .ok (.ifCond .lt 20, 3) := by decide +kernel
theorem bkX5_found_21_31 : pb_chk cX5_found 21 [.aconst_null, .goto 9] = some 31 := by decide +kernel
theorem dX5_found_31 : decode cX5_found 31 = .ok (.astore_n 2, 1) := by decide +kernel
theorem dX5_found_32 : decode cX5_found 32 = .ok (.aload_n 2, 1) := by decide +kernel
theorem dX5_found_33 : decode cX5_found 33 = .ok (.ifnonnull 13, 3) := by decide +kernel
theorem dX5_found_36 : decode cX5_found 36 = .ok (.new 152, 3) := by decide +kernel
theorem dX5_found_39 : decode cX5_found 39 = .ok (.dup, 1) := by decide +kernel
theorem dX5_found_40 : decode cX5_found 40 = .ok (.ldc 185, 2) := by decide +kernel
theorem dX5_found_42 : decode cX5_found 42 = .ok (.invokespecial 156, 3) := by decide +kernel
theorem dX5_found_45 : decode cX5_found 45 = .ok (.athrow, 1) := by decide +kernel
theorem bkX5_found_4_6 : pb_chk cX5_found 4 [.iload_n 1, .aload_n 0] = some 6 := by decide +kernel
theorem dX5_found_6 : decode cX5_found 6 = .ok (.getfield 15, 3) := by decide +kernel
theorem dX5_found_9 : decode cX5_found 9 = .ok (.if_icmp .ge 12, 3) := by decide +kernel
theorem bkX5_found_12_14 : pb_chk cX5_found 12 [.iload_n 1, .aload_n 0] = some 14 := by decide +kernel
theorem dX5_found_14 : decode cX5_found 14 = .ok (.getfield 11, 3) := by decide +kernel
theorem dX5_found_17 : decode cX5_found 17 = .ok (.arraylength, 1) := by decide +kernel
theorem dX5_found_18 : decode cX5_found 18 = .ok (.if_icmp .lt 7, 3) := by decide +kernel
theorem bkX5_found_25_26 : pb_chk cX5_found 25 [.aload_n 0] = some 26 := by decide +kernel
theorem dX5_found_26 : decode cX5_found 26 = .ok (.getfield 11, 3) := by decide +kernel
theorem bkX5_found_29_30 : pb_chk cX5_found 29 [.iload_n 1] = some 30 := by decide +kernel
theorem dX5_found_30 : decode cX5_found 30 = .ok (.aaload, 1) := by decide +kernel
theorem bkX5_found_31_33 : pb_chk cX5_found 31 [.astore_n 2, .aload_n 2] = some 33 := by decide +kernel
theorem bkX5_found_46_47 : pb_chk cX5_found 46 [.aload_n 2] = some 47 := by decide +kernel
theorem dX5_found_47 : decode cX5_found 47 = .ok (.areturn, 1) := by decide +kernel
set_option maxHeartbeats 4000000 in
set_option maxRecDepth 100000 in
theorem c_X5_found (l : Launch) (hst : l.stackTraces = false) (G : Gm) (A : Nat → Prop) (q ta N : Nat) (th : Nat → Th) (as : St3) (f0 : Int32) : Mx l yX5_found cX5_found 3 (some (.object "FormulaHouse$Thing")) (⟨6, 1, 6, 82⟩ : Room) G A (fun _ => False) [.ref q, .int f0] (fun H => House G A H q ta N th as) (po_X5_found G A q ta N th as f0) (px_X5_found q ta N th as f0) := by
  refine of_metX (by decide) (Nat.le_of_ble_eq_true rfl) ?_
  intro p e s m below meth c ls B hT htb hA ⟨aa, ob, hq1, hq2, hq3, hN, ⟨f, hr, hf⟩, hls⟩ hl
  have obf := obF ob
  refine pb_blk B.hx B.hb (lv' := [(0, .ref q), (1, .int f0)]) (st' := [.int f0]) hl bkX5_found_0_1 rfl (fun ls hl => ?_)
  refine lv_if_lt (tgt := 21) B.hx B.hb dX5_found_1 (by decide) (fun h1 => ?_) (fun h1 => ?_)
  · have hno : ¬ Tr N f0 := fun ⟨j, hj, e9⟩ => absurd h1 (by rw [e9]; exact nI_pos (by omega))
    refine pb_blk B.hx B.hb (lv' := [(0, .ref q), (1, .int f0)]) (st' := [.null]) hl bkX5_found_21_31 rfl (fun ls hl => ?_)
    refine lv_astore_nN B.hx B.hb dX5_found_31 rfl hl (by decide) rfl (fun ls hl => ?_)
    refine lv_aload_nN B.hx B.hb dX5_found_32 rfl (lv_at hl 0 rfl) ?_
    refine lv_ifnonnullN B.hx B.hb dX5_found_33 ?_
    exact x_throw B hst hT htb ts_X5_185 Ex.rf hl.1 dX5_found_36 dX5_found_39 dX5_found_40 dX5_found_42 dX5_found_45 ⟨by decide, by decide⟩ ⟨by decide, by decide⟩ (⟨rfl, hno⟩) ⟨by decide, by decide⟩
  · obtain ⟨k, hk, rfl⟩ := nI_of h1
    refine pb_blk B.hx B.hb (lv' := [(0, .ref q), (1, .int (nI k))]) (st' := [.ref q, .int (nI k)]) hl bkX5_found_4_6 rfl (fun ls hl => ?_)
    refine z_get B ciX5 1 (by decide) obf wd_F_X5_15 rfl dX5_found_6 ?_
    refine lv_icmp_ge (tgt := 21) B.hx B.hb dX5_found_9 (by decide) (fun h2 => ?_) (fun h2 => ?_)
    · have hno : ¬ Tr N (nI k) := fun h9 => absurd ((tr_of hN hk rfl).mp h9) (by have := nI_nlt_le (show N < 2 ^ 31 by omega) (k2_nlt h2); omega)
      refine pb_blk B.hx B.hb (lv' := [(0, .ref q), (1, .int (nI k))]) (st' := [.null]) hl bkX5_found_21_31 rfl (fun ls hl => ?_)
      refine lv_astore_nN B.hx B.hb dX5_found_31 rfl hl (by decide) rfl (fun ls hl => ?_)
      refine lv_aload_nN B.hx B.hb dX5_found_32 rfl (lv_at hl 0 rfl) ?_
      refine lv_ifnonnullN B.hx B.hb dX5_found_33 ?_
      exact x_throw B hst hT htb ts_X5_185 Ex.rf hl.1 dX5_found_36 dX5_found_39 dX5_found_40 dX5_found_42 dX5_found_45 ⟨by decide, by decide⟩ ⟨by decide, by decide⟩ (⟨rfl, hno⟩) ⟨by decide, by decide⟩
    · have hkN : k < N := (nI_ltI hk (by omega)).mp (k2_lt h2)
      refine pb_blk B.hx B.hb (lv' := [(0, .ref q), (1, .int (nI k))]) (st' := [.ref q, .int (nI k)]) hl bkX5_found_12_14 rfl (fun ls hl => ?_)
      refine z_get B ciX5 0 (by decide) obf wd_F_X5_11 rfl dX5_found_14 ?_
      refine z_alen B 4 rfl hr dX5_found_17 ?_
      refine lv_icmp_lt (tgt := 25) B.hx B.hb dX5_found_18 (by decide) (fun h3 => ?_) (fun h3 => ?_)
      · obtain ⟨x, ex, hx⟩ := hf k hkN
        refine pb_blk B.hx B.hb (lv' := [(0, .ref q), (1, .int (nI k))]) (st' := [.ref q]) hl bkX5_found_25_26 rfl (fun ls hl => ?_)
        refine z_get B ciX5 0 (by decide) obf wd_F_X5_11 rfl dX5_found_26 ?_
        refine pb_blk B.hx B.hb (lv' := [(0, .ref q), (1, .int (nI k))]) (st' := [.int (nI k), .ref ta]) hl bkX5_found_29_30 rfl (fun ls hl => ?_)
        refine z_aald B 4 rfl hr (vp_in_nI (show k < 80 by omega) (by omega)) (v := .ref x) (by rw [nI_clamp (by omega)]; exact ex) dX5_found_30 ?_
        refine pb_blk B.hx B.hb (lv' := [(2, .ref x), (0, .ref q), (1, .int (nI k))]) (st' := [.ref x]) hl bkX5_found_31_33 rfl (fun ls hl => ?_)
        refine lv_ifnonnull (tgt := 46) B.hx B.hb dX5_found_33 (by decide) ?_
        refine pb_blk B.hx B.hb (lv' := [(2, .ref x), (0, .ref q), (1, .int (nI k))]) (st' := [.ref x]) hl bkX5_found_46_47 rfl (fun ls hl => ?_)
        exact x_aret B (Or.inl ⟨_, rfl⟩) dX5_found_47 (Ex.rf.mv _) ⟨k, x, hkN, rfl, rfl, hx⟩ (fun _ h => nomatch h) (by (try dsimp only); omega) (by (try dsimp only); omega)
      · exact absurd ((nI_ltI (show k < 2 ^ 31 by omega) (by decide)).mpr (show k < 80 by omega)) h3

def po_X5_asFormula (G : Gm) (A : Nat → Prop) (x : Nat) (t : Th) : Option Value → Heap → Prop := fun v H => v = some (.ref x) ∧ ∃ u, t = .inl u
def px_X5_asFormula (x : Nat) (t : Th) : String → Prop := fun E => E = eIA ∧ ¬ ∃ u, t = .inl u
theorem bkX5_asFormula_0_1 : pb_chk cX5_asFormula 0 [.aload_n 0] = some 1 := by decide +kernel
theorem dX5_asFormula_1 : decode cX5_asFormula 1 = .ok (.instanceof 43, 3) := by decide +kernel
theorem dX5_asFormula_4 : decode cX5_asFormula 4 = .ok (.ifCond .eq 10, 3) := by decide +kernel
theorem bkX5_asFormula_7_8 : pb_chk cX5_asFormula 7 [.aload_n 0] = some 8 := by decide +kernel
theorem dX5_asFormula_8 : decode cX5_asFormula 8 = .ok (.checkcast 43, 3) := by decide +kernel
theorem bkX5_asFormula_11_13 : pb_chk cX5_asFormula 11 [.astore_n 1, .aload_n 1] = some 13 := by decide +kernel
theorem dX5_asFormula_13 : decode cX5_asFormula 13 = .ok (.areturn, 1) := by decide +kernel
theorem dX5_asFormula_14 : decode cX5_asFormula 14 = .ok (.new 105, 3) := by decide +kernel
theorem dX5_asFormula_17 : decode cX5_asFormula 17 = .ok (.dup, 1) := by decide +kernel
theorem dX5_asFormula_18 : decode cX5_asFormula 18 = .ok (.ldc 187, 2) := by decide +kernel
theorem dX5_asFormula_20 : decode cX5_asFormula 20 = .ok (.invokespecial 109, 3) := by decide +kernel
theorem dX5_asFormula_23 : decode cX5_asFormula 23 = .ok (.athrow, 1) := by decide +kernel
set_option maxHeartbeats 4000000 in
set_option maxRecDepth 100000 in
theorem c_X5_asFormula (l : Launch) (hst : l.stackTraces = false) (G : Gm) (A : Nat → Prop) (x : Nat) (t : Th) : Mx l yX5_asFormula cX5_asFormula 2 (some (.object "FormulaHouse$Formula")) (⟨6, 1, 6, 82⟩ : Room) G A (fun _ => False) [.ref x] (fun H => TA G A H x t) (po_X5_asFormula G A x t) (px_X5_asFormula x t) := by
  refine of_metX (by decide) (Nat.le_of_ble_eq_true rfl) ?_
  intro p e s m below meth c ls B hT htb hA hx hl
  cases t with
  | inl z =>
    obtain ⟨fs, ho⟩ : ∃ fs, va_at G.1 vwCl (x, .inr (0, fs)) s.heap := Fo.ob hx
    refine pb_blk B.hx B.hb (lv' := [(0, .ref x)]) (st' := [.ref x]) hl bkX5_asFormula_0_1 rfl (fun ls hl => ?_)
    refine z_instY B (ci := 0) rfl ho B.hK.2.c00 wd_C_X5_43 dX5_asFormula_1 ?_
    refine lv_if_eq (tgt := 14) B.hx B.hb dX5_asFormula_4 (by decide) (fun h => absurd h (by decide)) (fun _ => ?_)
    refine pb_blk B.hx B.hb (lv' := [(0, .ref x)]) (st' := [.ref x]) hl bkX5_asFormula_7_8 rfl (fun ls hl => ?_)
    refine z_castY B (ci := 0) rfl ho B.hK.2.c00 wd_C_X5_43 dX5_asFormula_8 ?_
    refine pb_blk B.hx B.hb (lv' := [(1, .ref x), (0, .ref x)]) (st' := [.ref x]) hl bkX5_asFormula_11_13 rfl (fun ls hl => ?_)
    exact x_aret B (Or.inl ⟨_, rfl⟩) dX5_asFormula_13 (Ex.rf.mv _) ⟨rfl, _, rfl⟩ (fun _ h => nomatch h) (by (try dsimp only); omega) (by (try dsimp only); omega)
  | inr z =>
    obtain ⟨fs, ho⟩ : ∃ fs, va_at G.1 vwCl (x, .inr (2, fs)) s.heap := Ls.ob hx
    refine pb_blk B.hx B.hb (lv' := [(0, .ref x)]) (st' := [.ref x]) hl bkX5_asFormula_0_1 rfl (fun ls hl => ?_)
    refine z_instN B (ci := 2) rfl ho B.hK.2.n20 wd_C_X5_43 dX5_asFormula_1 ?_
    refine lv_if_eq (tgt := 14) B.hx B.hb dX5_asFormula_4 (by decide) (fun _ => ?_) (fun h => absurd h (by decide))
    exact x_throw B hst hT htb ts_X5_187 Ex.rf hl.1 dX5_asFormula_14 dX5_asFormula_17 dX5_asFormula_18 dX5_asFormula_20 dX5_asFormula_23 ⟨by decide, by decide⟩ ⟨by decide, by decide⟩ (⟨rfl, fun ⟨u, e⟩ => nomatch e⟩) ⟨by decide, by decide⟩

def po_X5_asSet (G : Gm) (A : Nat → Prop) (x : Nat) (t : Th) : Option Value → Heap → Prop := fun v H => v = some (.ref x) ∧ ∃ u, t = .inr u
def px_X5_asSet (x : Nat) (t : Th) : String → Prop := fun E => E = eIA ∧ ¬ ∃ u, t = .inr u
theorem bkX5_asSet_0_1 : pb_chk cX5_asSet 0 [.aload_n 0] = some 1 := by decide +kernel
theorem dX5_asSet_1 : decode cX5_asSet 1 = .ok (.instanceof 20, 3) := by decide +kernel
theorem dX5_asSet_4 : decode cX5_asSet 4 = .ok (.ifCond .eq 10, 3) := by decide +kernel
theorem dX5_asSet_14 : decode cX5_asSet 14 = .ok (.new 105, 3) := by decide +kernel
theorem dX5_asSet_17 : decode cX5_asSet 17 = .ok (.dup, 1) := by decide +kernel
theorem dX5_asSet_18 : decode cX5_asSet 18 = .ok (.ldc 191, 2) := by decide +kernel
theorem dX5_asSet_20 : decode cX5_asSet 20 = .ok (.invokespecial 109, 3) := by decide +kernel
theorem dX5_asSet_23 : decode cX5_asSet 23 = .ok (.athrow, 1) := by decide +kernel
theorem bkX5_asSet_7_8 : pb_chk cX5_asSet 7 [.aload_n 0] = some 8 := by decide +kernel
theorem dX5_asSet_8 : decode cX5_asSet 8 = .ok (.checkcast 20, 3) := by decide +kernel
theorem bkX5_asSet_11_13 : pb_chk cX5_asSet 11 [.astore_n 1, .aload_n 1] = some 13 := by decide +kernel
theorem dX5_asSet_13 : decode cX5_asSet 13 = .ok (.areturn, 1) := by decide +kernel
set_option maxHeartbeats 4000000 in
set_option maxRecDepth 100000 in
theorem c_X5_asSet (l : Launch) (hst : l.stackTraces = false) (G : Gm) (A : Nat → Prop) (x : Nat) (t : Th) : Mx l yX5_asSet cX5_asSet 2 (some (.object "FormulaHouse$LineSet")) (⟨6, 1, 6, 82⟩ : Room) G A (fun _ => False) [.ref x] (fun H => TA G A H x t) (po_X5_asSet G A x t) (px_X5_asSet x t) := by
  refine of_metX (by decide) (Nat.le_of_ble_eq_true rfl) ?_
  intro p e s m below meth c ls B hT htb hA hx hl
  cases t with
  | inl z =>
    obtain ⟨fs, ho⟩ : ∃ fs, va_at G.1 vwCl (x, .inr (0, fs)) s.heap := Fo.ob hx
    refine pb_blk B.hx B.hb (lv' := [(0, .ref x)]) (st' := [.ref x]) hl bkX5_asSet_0_1 rfl (fun ls hl => ?_)
    refine z_instN B (ci := 0) rfl ho B.hK.2.n02 wd_C_X5_20 dX5_asSet_1 ?_
    refine lv_if_eq (tgt := 14) B.hx B.hb dX5_asSet_4 (by decide) (fun _ => ?_) (fun h => absurd h (by decide))
    exact x_throw B hst hT htb ts_X5_191 Ex.rf hl.1 dX5_asSet_14 dX5_asSet_17 dX5_asSet_18 dX5_asSet_20 dX5_asSet_23 ⟨by decide, by decide⟩ ⟨by decide, by decide⟩ (⟨rfl, fun ⟨u, e⟩ => nomatch e⟩) ⟨by decide, by decide⟩
  | inr z =>
    obtain ⟨fs, ho⟩ : ∃ fs, va_at G.1 vwCl (x, .inr (2, fs)) s.heap := Ls.ob hx
    refine pb_blk B.hx B.hb (lv' := [(0, .ref x)]) (st' := [.ref x]) hl bkX5_asSet_0_1 rfl (fun ls hl => ?_)
    refine z_instY B (ci := 2) rfl ho B.hK.2.c22 wd_C_X5_20 dX5_asSet_1 ?_
    refine lv_if_eq (tgt := 14) B.hx B.hb dX5_asSet_4 (by decide) (fun h => absurd h (by decide)) (fun _ => ?_)
    refine pb_blk B.hx B.hb (lv' := [(0, .ref x)]) (st' := [.ref x]) hl bkX5_asSet_7_8 rfl (fun ls hl => ?_)
    refine z_castY B (ci := 2) rfl ho B.hK.2.c22 wd_C_X5_20 dX5_asSet_8 ?_
    refine pb_blk B.hx B.hb (lv' := [(1, .ref x), (0, .ref x)]) (st' := [.ref x]) hl bkX5_asSet_11_13 rfl (fun ls hl => ?_)
    exact x_aret B (Or.inl ⟨_, rfl⟩) dX5_asSet_13 (Ex.rf.mv _) ⟨rfl, _, rfl⟩ (fun _ h => nomatch h) (by (try dsimp only); omega) (by (try dsimp only); omega)

def po_X5_asNumber (G : Gm) (A : Nat → Prop) (x : Nat) (t : Th) : Option Value → Heap → Prop := fun v H => ∃ u y, t = .inl u ∧ dgI u ≤ 0 ∧ v = some (.ref y) ∧ Fr G A H y (u 0)
def px_X5_asNumber (x : Nat) (t : Th) : String → Prop := fun E => E = eIA ∧ ¬ ∃ u, t = .inl u ∧ dgI u ≤ 0
theorem bkX5_asNumber_0_1 : pb_chk cX5_asNumber 0 [.aload_n 0] = some 1 := by decide +kernel
theorem dX5_asNumber_1 : decode cX5_asNumber 1 = .ok (.instanceof 43, 3) := by decide +kernel
theorem dX5_asNumber_4 : decode cX5_asNumber 4 = .ok (.ifCond .eq 21, 3) := by decide +kernel
theorem bkX5_asNumber_7_8 : pb_chk cX5_asNumber 7 [.aload_n 0] = some 8 := by decide +kernel
theorem dX5_asNumber_8 : decode cX5_asNumber 8 = .ok (.checkcast 43, 3) := by decide +kernel
theorem bkX5_asNumber_11_13 : pb_chk cX5_asNumber 11 [.astore_n 1, .aload_n 1] = some 13 := by decide +kernel
theorem dX5_asNumber_13 : decode cX5_asNumber 13 = .ok (.getfield 76, 3) := by decide +kernel
theorem dX5_asNumber_16 : decode cX5_asNumber 16 = .ok (.ifCond .gt 9, 3) := by decide +kernel
theorem dX5_asNumber_25 : decode cX5_asNumber 25 = .ok (.new 105, 3) := by decide +kernel
theorem dX5_asNumber_28 : decode cX5_asNumber 28 = .ok (.dup, 1) := by decide +kernel
theorem dX5_asNumber_29 : decode cX5_asNumber 29 = .ok (.ldc 189, 2) := by decide +kernel
theorem dX5_asNumber_31 : decode cX5_asNumber 31 = .ok (.invokespecial 109, 3) := by decide +kernel
theorem dX5_asNumber_34 : decode cX5_asNumber 34 = .ok (.athrow, 1) := by decide +kernel
theorem bkX5_asNumber_19_21 : pb_chk cX5_asNumber 19 [.aload_n 1, .iconst 0] = some 21 := by decide +kernel
theorem dX5_asNumber_21 : decode cX5_asNumber 21 = .ok (.invokevirtual 141, 3) := by decide +kernel
theorem dX5_asNumber_24 : decode cX5_asNumber 24 = .ok (.areturn, 1) := by decide +kernel
set_option maxHeartbeats 4000000 in
set_option maxRecDepth 100000 in
theorem c_X5_asNumber (l : Launch) (hst : l.stackTraces = false) (G : Gm) (A : Nat → Prop) (x : Nat) (t : Th) : Mx l yX5_asNumber cX5_asNumber 2 (some (.object "FormulaHouse$Fraction")) (⟨6, 1, 6, 82⟩ : Room) G A (fun _ => False) [.ref x] (fun H => TA G A H x t) (po_X5_asNumber G A x t) (px_X5_asNumber x t) := by
  refine of_metX (by decide) (Nat.le_of_ble_eq_true rfl) ?_
  intro p e s m below meth c ls B hT htb hA hx hl
  cases t with
  | inl z =>
    have hx : Fo G A s.heap x z := hx
    obtain ⟨ra, ob, -⟩ := id hx
    have ho := ob.2
    refine pb_blk B.hx B.hb (lv' := [(0, .ref x)]) (st' := [.ref x]) hl bkX5_asNumber_0_1 rfl (fun ls hl => ?_)
    refine z_instY B (ci := 0) rfl ho B.hK.2.c00 wd_C_X5_43 dX5_asNumber_1 ?_
    refine lv_if_eq (tgt := 25) B.hx B.hb dX5_asNumber_4 (by decide) (fun h => absurd h (by decide)) (fun _ => ?_)
    refine pb_blk B.hx B.hb (lv' := [(0, .ref x)]) (st' := [.ref x]) hl bkX5_asNumber_7_8 rfl (fun ls hl => ?_)
    refine z_castY B (ci := 0) rfl ho B.hK.2.c00 wd_C_X5_43 dX5_asNumber_8 ?_
    refine pb_blk B.hx B.hb (lv' := [(1, .ref x), (0, .ref x)]) (st' := [.ref x]) hl bkX5_asNumber_11_13 rfl (fun ls hl => ?_)
    refine z_get B ciX0 1 (by decide) ob wd_F_X5_76 rfl dX5_asNumber_13 ?_
    refine lv_if_gt (tgt := 25) B.hx B.hb dX5_asNumber_16 (by decide) (fun h1 => ?_) (fun h1 => ?_)
    · exact x_throw B hst hT htb ts_X5_189 Ex.rf hl.1 dX5_asNumber_25 dX5_asNumber_28 dX5_asNumber_29 dX5_asNumber_31 dX5_asNumber_34 ⟨by decide, by decide⟩ ⟨by decide, by decide⟩ (⟨rfl, fun ⟨u, e, h9⟩ => absurd h9 (by cases e; exact k4_nle h1)⟩) ⟨by decide, by decide⟩
    · refine pb_blk B.hx B.hb (lv' := [(1, .ref x), (0, .ref x)]) (st' := [.int 0, .ref x]) hl bkX5_asNumber_19_21 rfl (fun ls hl => ?_)
      refine n_callV B (c_X0_fraction l G A x 0 z s.heap (by decide)) cy_X0_fraction im_X0_fraction se_X0_fraction wd_M_X5_141 rfl ho ⟨rfl, hx⟩ rfl hl.1 rfl (Nat.le_of_ble_eq_true rfl) ⟨by decide, by decide⟩ ⟨Nat.zero_le _, Nat.zero_le _⟩ dX5_asNumber_21 (fun v hv => ?_)
      obtain ⟨y0, rfl, hy⟩ := hv
      exact x_aret B (Or.inl ⟨_, rfl⟩) dX5_asNumber_24 (Ex.rf.mv _) ⟨z, y0, rfl, k4_le h1, rfl, hy⟩ (fun _ h => nomatch h) (by (try dsimp only); omega) (by (try dsimp only); omega)
  | inr z =>
    obtain ⟨fs, ho⟩ : ∃ fs, va_at G.1 vwCl (x, .inr (2, fs)) s.heap := Ls.ob hx
    refine pb_blk B.hx B.hb (lv' := [(0, .ref x)]) (st' := [.ref x]) hl bkX5_asNumber_0_1 rfl (fun ls hl => ?_)
    refine z_instN B (ci := 2) rfl ho B.hK.2.n20 wd_C_X5_43 dX5_asNumber_1 ?_
    refine lv_if_eq (tgt := 25) B.hx B.hb dX5_asNumber_4 (by decide) (fun _ => ?_) (fun h => absurd h (by decide))
    exact x_throw B hst hT htb ts_X5_189 Ex.rf hl.1 dX5_asNumber_25 dX5_asNumber_28 dX5_asNumber_29 dX5_asNumber_31 dX5_asNumber_34 ⟨by decide, by decide⟩ ⟨by decide, by decide⟩ (⟨rfl, fun ⟨u, e, _⟩ => nomatch e⟩) ⟨by decide, by decide⟩

def po_X5_refuseDegree (G : Gm) (A : Nat → Prop) (d0 : Int32) : Option Value → Heap → Prop := fun v H => v = none ∧ d0 ≤ 3
def px_X5_refuseDegree (d0 : Int32) : String → Prop := fun E => E = eIS ∧ ¬ d0 ≤ 3
theorem bkX5_refuseDegree_0_2 : pb_chk cX5_refuseDegree 0 [.iload_n 0, .iconst 3] = some 2 := by decide +kernel
theorem dX5_refuseDegree_2 : decode cX5_refuseDegree 2 = .ok (.if_icmp .le 13, 3) := by decide +kernel
theorem dX5_refuseDegree_15 : decode cX5_refuseDegree 15 = .ok (.return_, 1) := by decide +kernel
theorem dX5_refuseDegree_5 : decode cX5_refuseDegree 5 = .ok (.new 193, 3) := by decide +kernel
theorem dX5_refuseDegree_8 : decode cX5_refuseDegree 8 = .ok (.dup, 1) := by decide +kernel
theorem dX5_refuseDegree_9 : decode cX5_refuseDegree 9 = .ok (.ldc 195, 2) := by decide +kernel
theorem dX5_refuseDegree_11 : decode cX5_refuseDegree 11 = .ok (.invokespecial 197, 3) := by decide +kernel
theorem dX5_refuseDegree_14 : decode cX5_refuseDegree 14 = .ok (.athrow, 1) := by decide +kernel
set_option maxHeartbeats 4000000 in
set_option maxRecDepth 100000 in
theorem c_X5_refuseDegree (l : Launch) (hst : l.stackTraces = false) (G : Gm) (A : Nat → Prop) (d0 : Int32) : Mx l yX5_refuseDegree cX5_refuseDegree 1 none (⟨6, 1, 6, 82⟩ : Room) G A (fun _ => False) [.int d0] (fun _ => True) (po_X5_refuseDegree G A d0) (px_X5_refuseDegree d0) := by
  refine of_metX (by decide) (Nat.le_of_ble_eq_true rfl) ?_
  intro p e s m below meth c ls B hT htb hA _ hl
  refine pb_blk B.hx B.hb (lv' := [(0, .int d0)]) (st' := [.int 3, .int d0]) hl bkX5_refuseDegree_0_2 rfl (fun ls hl => ?_)
  refine lv_icmp_le (tgt := 15) B.hx B.hb dX5_refuseDegree_2 (by decide) (fun h1 => ?_) (fun h1 => ?_)
  · exact x_vret B dX5_refuseDegree_15 (Ex.rf.mv _) ⟨rfl, h1⟩ (fun _ h => nomatch h) (by (try dsimp only); omega) (by (try dsimp only); omega)
  · exact x_throw B hst hT htb ts_X5_195 Ex.rf hl.1 dX5_refuseDegree_5 dX5_refuseDegree_8 dX5_refuseDegree_9 dX5_refuseDegree_11 dX5_refuseDegree_14 ⟨by decide, by decide⟩ ⟨by decide, by decide⟩ (⟨rfl, h1⟩) ⟨by decide, by decide⟩

def po_X5_keep (G : Gm) (A : Nat → Prop) (q ta N : Nat) (th : Nat → Th) (as : St3) (x : Nat) (t : Th) : Option Value → Heap → Prop := fun v H => v = some (.int (nI N)) ∧ N < 80 ∧ tgT t = false ∧ House G A H q ta (N + 1) (upT th N t) as
def px_X5_keep (q ta N : Nat) (th : Nat → Th) (as : St3) (x : Nat) (t : Th) : String → Prop := fun E => E = eIS ∧ (80 ≤ N ∨ tgT t = true)
theorem bkX5_keep_0_1 : pb_chk cX5_keep 0 [.aload_n 0] = some 1 := by decide +kernel
theorem dX5_keep_1 : decode cX5_keep 1 = .ok (.getfield 15, 3) := by decide +kernel
theorem bkX5_keep_4_5 : pb_chk cX5_keep 4 [.aload_n 0] = some 5 := by decide +kernel
theorem dX5_keep_5 : decode cX5_keep 5 = .ok (.getfield 11, 3) := by decide +kernel
theorem dX5_keep_8 : decode cX5_keep 8 = .ok (.arraylength, 1) := by decide +kernel
theorem dX5_keep_9 : decode cX5_keep 9 = .ok (.if_icmp .lt 13, 3) := by decide +kernel
theorem bkX5_keep_22_23 : pb_chk cX5_keep 22 [.aload_n 1] = some 23 := by decide +kernel
theorem dX5_keep_23 : decode cX5_keep 23 = .ok (.invokevirtual 200, 3) := by decide +kernel
theorem dX5_keep_26 : decode cX5_keep 26 = .ok (.ifCond .eq 13, 3) := by decide +kernel
theorem bkX5_keep_39_40 : pb_chk cX5_keep 39 [.aload_n 0] = some 40 := by decide +kernel
theorem dX5_keep_40 : decode cX5_keep 40 = .ok (.getfield 15, 3) := by decide +kernel
theorem bkX5_keep_43_45 : pb_chk cX5_keep 43 [.istore_n 2, .aload_n 0] = some 45 := by decide +kernel
theorem dX5_keep_45 : decode cX5_keep 45 = .ok (.getfield 11, 3) := by decide +kernel
theorem bkX5_keep_48_50 : pb_chk cX5_keep 48 [.iload_n 2, .aload_n 1] = some 50 := by decide +kernel
theorem dX5_keep_50 : decode cX5_keep 50 = .ok (.aastore, 1) := by decide +kernel
theorem bkX5_keep_51_55 : pb_chk cX5_keep 51 [.aload_n 0, .iload_n 2, .iconst 1, .iadd] = some 55 := by decide +kernel
theorem dX5_keep_55 : decode cX5_keep 55 = .ok (.putfield 15, 3) := by decide +kernel
theorem bkX5_keep_58_59 : pb_chk cX5_keep 58 [.iload_n 2] = some 59 := by decide +kernel
theorem dX5_keep_59 : decode cX5_keep 59 = .ok (.ireturn, 1) := by decide +kernel
theorem dX5_keep_29 : decode cX5_keep 29 = .ok (.new 193, 3) := by decide +kernel
theorem dX5_keep_32 : decode cX5_keep 32 = .ok (.dup, 1) := by decide +kernel
theorem dX5_keep_33 : decode cX5_keep 33 = .ok (.ldc 203, 2) := by decide +kernel
theorem dX5_keep_35 : decode cX5_keep 35 = .ok (.invokespecial 197, 3) := by decide +kernel
theorem dX5_keep_38 : decode cX5_keep 38 = .ok (.athrow, 1) := by decide +kernel
theorem dX5_keep_12 : decode cX5_keep 12 = .ok (.new 193, 3) := by decide +kernel
theorem dX5_keep_15 : decode cX5_keep 15 = .ok (.dup, 1) := by decide +kernel
theorem dX5_keep_16 : decode cX5_keep 16 = .ok (.ldc 198, 2) := by decide +kernel
theorem dX5_keep_18 : decode cX5_keep 18 = .ok (.invokespecial 197, 3) := by decide +kernel
theorem dX5_keep_21 : decode cX5_keep 21 = .ok (.athrow, 1) := by decide +kernel
set_option maxHeartbeats 4000000 in
set_option maxRecDepth 100000 in
theorem c_X5_keep (l : Launch) (hst : l.stackTraces = false) (G : Gm) (A : Nat → Prop) (q ta N : Nat) (th : Nat → Th) (as : St3) (x : Nat) (t : Th) (hn : ∀ z, t = .inr z → z.1 < 2 ^ 20) : Mx l yX5_keep cX5_keep 3 (some .int) (⟨6, 1, 6, 82⟩ : Room) G A (F2 q ta) [.ref q, .ref x] (fun H => House G A H q ta N th as ∧ TA G A H x t) (po_X5_keep G A q ta N th as x t) (px_X5_keep q ta N th as x t) := by
  refine of_metX (by decide) (Nat.le_of_ble_eq_true rfl) ?_
  intro p e s m below meth c ls B hT htb hA ⟨⟨aa, ob, hq1, hq2, hq3, hN, ⟨f, hr, hf⟩, hls⟩, hx⟩ hl
  have obf := obF ob
  refine pb_blk B.hx B.hb (lv' := [(0, .ref q), (1, .ref x)]) (st' := [.ref q]) hl bkX5_keep_0_1 rfl (fun ls hl => ?_)
  refine z_get B ciX5 1 (by decide) obf wd_F_X5_15 rfl dX5_keep_1 ?_
  refine pb_blk B.hx B.hb (lv' := [(0, .ref q), (1, .ref x)]) (st' := [.ref q, .int (nI N)]) hl bkX5_keep_4_5 rfl (fun ls hl => ?_)
  refine z_get B ciX5 0 (by decide) obf wd_F_X5_11 rfl dX5_keep_5 ?_
  refine z_alen B 4 rfl hr dX5_keep_8 ?_
  refine lv_icmp_lt (tgt := 22) B.hx B.hb dX5_keep_9 (by decide) (fun h1 => ?_) (fun h1 => ?_)
  · have hN8 : N < 80 := (nI_ltI (by omega) (by decide)).mp h1
    have hxA := hx.no
    have hqx : x ≠ ta := fun e9 => hxA.1 (by rw [e9]; exact hq2)
    cases t with
    | inl z =>
      obtain ⟨fs, ho⟩ : ∃ fs, va_at G.1 vwCl (x, .inr (0, fs)) s.heap := Fo.ob hx
      refine pb_blk B.hx B.hb (lv' := [(0, .ref q), (1, .ref x)]) (st' := [.ref x]) hl bkX5_keep_22_23 rfl (fun ls hl => ?_)
      refine n_callA (x := xTg) B (c_X0_isTooGreat l G A x z) cy_X0_isTooGreat im_X0_isTooGreat sa_g0 sm_Tg wd_M_X5_t200 B.hK.2.dt (by decide +kernel) rfl ho hx rfl hl.1 rfl (Nat.le_of_ble_eq_true rfl) ⟨by decide, by decide⟩ ⟨by decide, by decide⟩ dX5_keep_23 (fun v hv => ?_)
      rw [po_X0_isTooGreat] at hv
      subst hv
      refine lv_if_eq (tgt := 39) B.hx B.hb dX5_keep_26 (by decide) (fun h2 => ?_) (fun h2 => ?_)
      · have e0 : tgT (.inl z) = false := (b2i_0 _).mp h2
        refine pb_blk B.hx B.hb (lv' := [(0, .ref q), (1, .ref x)]) (st' := [.ref q]) hl bkX5_keep_39_40 rfl (fun ls hl => ?_)
        refine z_get B ciX5 1 (by decide) obf wd_F_X5_15 rfl dX5_keep_40 ?_
        refine pb_blk B.hx B.hb (lv' := [(2, .int (nI N)), (0, .ref q), (1, .ref x)]) (st' := [.ref q]) hl bkX5_keep_43_45 rfl (fun ls hl => ?_)
        refine z_get B ciX5 0 (by decide) obf wd_F_X5_11 rfl dX5_keep_45 ?_
        refine pb_blk B.hx B.hb (lv' := [(2, .int (nI N)), (0, .ref q), (1, .ref x)]) (st' := [.ref x, .int (nI N), .ref ta]) hl bkX5_keep_48_50 rfl (fun ls hl => ?_)
        refine z_aastT B (ci := 0) rfl B.hK.2.c04 hr ho (vp_in_nI hN8 (by decide)) dX5_keep_50 (fun H1 w1 z1 o1 => ?_)
        rw [nI_clamp (by omega)] at w1
        have ob1 := ob.kept (q := (q, _)) (o1 q hq3)
        refine pb_blk B.hx B.hb (lv' := [(2, .int (nI N)), (0, .ref q), (1, .ref x)]) (st' := [.int ((nI N) + 1), .ref q]) hl bkX5_keep_51_55 rfl (fun ls hl => ?_)
        rw [nI_1]
        refine z_put0 B ciX5 1 (by decide) ob1 wd_F_X5_15 (Or.inl rfl) rfl rfl (Nat.le_of_ble_eq_true rfl) dX5_keep_55 (fun H2 i2 ob2 z2 o2 => ?_)
        refine pb_blk B.hx B.hb (lv' := [(2, .int (nI N)), (0, .ref q), (1, .ref x)]) (st' := [.int (nI N)]) hl bkX5_keep_58_59 rfl (fun ls hl => ?_)
        have hM : Mv (F2 q ta) s.heap (F2 q ta) H2 := ⟨by omega, fun y _ hF => ⟨hF, (o2 y (fun e9 => hF (Or.inl e9))).trans (o1 y (fun e9 => hF (Or.inr e9)))⟩⟩
        have hMA : Mv A s.heap A H2 := hM.weak (fun y hy => hy.elim (fun e9 => by rw [e9]; exact hq1) (fun e9 => by rw [e9]; exact hq2))
        have hx2 : TA G A H2 x (.inl z) := hx.mv hMA
        have hth : ∀ k, k < N + 1 → ∃ y, updV f N (.ref x) k = .ref y ∧ TA G A H2 y (upT th N (.inl z) k) := fun k hk => by
          by_cases e9 : k = N
          · rw [e9, upT_at]; exact ⟨x, updV_at, hx2⟩
          · obtain ⟨y, ey, hy⟩ := hf k (by omega)
            rw [upT_ne _ _ e9]; exact ⟨y, by simp [updV, e9, ey], hy.mv hMA⟩
        exact x_iret B dX5_keep_59 hM ⟨rfl, hN8, e0, aa, ob2, hq1, hq2, hq3, by omega, ⟨_, (o2 ta (fun e9 => hq3 e9.symm)).trans w1, hth⟩, hls.mv hMA⟩ (fun z hz => by simp at hz; rcases hz with rfl | rfl; exact Or.inr rfl; exact Or.inl rfl) (by (try dsimp only); omega) (by (try dsimp only); omega)
      · have e0 := ts9 (fun q => h2 ((b2i_0 _).mpr q))
        exact x_throw B hst hT htb ts_X5_203 Ex.rf hl.1 dX5_keep_29 dX5_keep_32 dX5_keep_33 dX5_keep_35 dX5_keep_38 ⟨by decide, by decide⟩ ⟨by decide, by decide⟩ (⟨rfl, Or.inr e0⟩) ⟨by decide, by decide⟩
    | inr z =>
      obtain ⟨fs, ho⟩ : ∃ fs, va_at G.1 vwCl (x, .inr (2, fs)) s.heap := Ls.ob hx
      refine pb_blk B.hx B.hb (lv' := [(0, .ref q), (1, .ref x)]) (st' := [.ref x]) hl bkX5_keep_22_23 rfl (fun ls hl => ?_)
      refine n_callA (x := xTg) B (c_X2_isTooGreat l G A x z.1 z.2.1 z.2.2 (hn z rfl)) cy_X2_isTooGreat im_X2_isTooGreat sa_g2 sm_Tg wd_M_X5_t200 B.hK.2.dt (by decide +kernel) rfl ho hx rfl hl.1 rfl (Nat.le_of_ble_eq_true rfl) ⟨by decide, by decide⟩ ⟨by decide, by decide⟩ dX5_keep_23 (fun v hv => ?_)
      rw [po_X2_isTooGreat] at hv
      subst hv
      refine lv_if_eq (tgt := 39) B.hx B.hb dX5_keep_26 (by decide) (fun h2 => ?_) (fun h2 => ?_)
      · have e0 : tgT (.inr z) = false := (b2i_0 _).mp h2
        refine pb_blk B.hx B.hb (lv' := [(0, .ref q), (1, .ref x)]) (st' := [.ref q]) hl bkX5_keep_39_40 rfl (fun ls hl => ?_)
        refine z_get B ciX5 1 (by decide) obf wd_F_X5_15 rfl dX5_keep_40 ?_
        refine pb_blk B.hx B.hb (lv' := [(2, .int (nI N)), (0, .ref q), (1, .ref x)]) (st' := [.ref q]) hl bkX5_keep_43_45 rfl (fun ls hl => ?_)
        refine z_get B ciX5 0 (by decide) obf wd_F_X5_11 rfl dX5_keep_45 ?_
        refine pb_blk B.hx B.hb (lv' := [(2, .int (nI N)), (0, .ref q), (1, .ref x)]) (st' := [.ref x, .int (nI N), .ref ta]) hl bkX5_keep_48_50 rfl (fun ls hl => ?_)
        refine z_aastT B (ci := 2) rfl B.hK.2.c24 hr ho (vp_in_nI hN8 (by decide)) dX5_keep_50 (fun H1 w1 z1 o1 => ?_)
        rw [nI_clamp (by omega)] at w1
        have ob1 := ob.kept (q := (q, _)) (o1 q hq3)
        refine pb_blk B.hx B.hb (lv' := [(2, .int (nI N)), (0, .ref q), (1, .ref x)]) (st' := [.int ((nI N) + 1), .ref q]) hl bkX5_keep_51_55 rfl (fun ls hl => ?_)
        rw [nI_1]
        refine z_put0 B ciX5 1 (by decide) ob1 wd_F_X5_15 (Or.inl rfl) rfl rfl (Nat.le_of_ble_eq_true rfl) dX5_keep_55 (fun H2 i2 ob2 z2 o2 => ?_)
        refine pb_blk B.hx B.hb (lv' := [(2, .int (nI N)), (0, .ref q), (1, .ref x)]) (st' := [.int (nI N)]) hl bkX5_keep_58_59 rfl (fun ls hl => ?_)
        have hM : Mv (F2 q ta) s.heap (F2 q ta) H2 := ⟨by omega, fun y _ hF => ⟨hF, (o2 y (fun e9 => hF (Or.inl e9))).trans (o1 y (fun e9 => hF (Or.inr e9)))⟩⟩
        have hMA : Mv A s.heap A H2 := hM.weak (fun y hy => hy.elim (fun e9 => by rw [e9]; exact hq1) (fun e9 => by rw [e9]; exact hq2))
        have hx2 : TA G A H2 x (.inr z) := hx.mv hMA
        have hth : ∀ k, k < N + 1 → ∃ y, updV f N (.ref x) k = .ref y ∧ TA G A H2 y (upT th N (.inr z) k) := fun k hk => by
          by_cases e9 : k = N
          · rw [e9, upT_at]; exact ⟨x, updV_at, hx2⟩
          · obtain ⟨y, ey, hy⟩ := hf k (by omega)
            rw [upT_ne _ _ e9]; exact ⟨y, by simp [updV, e9, ey], hy.mv hMA⟩
        exact x_iret B dX5_keep_59 hM ⟨rfl, hN8, e0, aa, ob2, hq1, hq2, hq3, by omega, ⟨_, (o2 ta (fun e9 => hq3 e9.symm)).trans w1, hth⟩, hls.mv hMA⟩ (fun z hz => by simp at hz; rcases hz with rfl | rfl; exact Or.inr rfl; exact Or.inl rfl) (by (try dsimp only); omega) (by (try dsimp only); omega)
      · have e0 := ts9 (fun q => h2 ((b2i_0 _).mpr q))
        exact x_throw B hst hT htb ts_X5_203 Ex.rf hl.1 dX5_keep_29 dX5_keep_32 dX5_keep_33 dX5_keep_35 dX5_keep_38 ⟨by decide, by decide⟩ ⟨by decide, by decide⟩ (⟨rfl, Or.inr e0⟩) ⟨by decide, by decide⟩
  · exact x_throw B hst hT htb ts_X5_198 Ex.rf hl.1 dX5_keep_12 dX5_keep_15 dX5_keep_16 dX5_keep_18 dX5_keep_21 ⟨by decide, by decide⟩ ⟨by decide, by decide⟩ (⟨rfl, Or.inl (nI_nlt_le (by decide) h1)⟩) ⟨by decide, by decide⟩

