theorem tell_n {u : Nat → Rat} {n : Nat} {pt : Nat → Rat} {sg : Nat → Int32} (h : TellR u n pt sg) : n ≤ 2 := by
  rcases h with ⟨-, h, -⟩ | ⟨-, h, -⟩ | ⟨-, -, h, -⟩ | ⟨-, r, -, -, ⟨-, h, -⟩ | ⟨-, h, -⟩⟩ <;> omega
theorem czp_P {P : Rat → Prop} {pt : Nat → Rat} {b : Nat → Bool} {n : Nat} (h : ∀ k, k < n → P (pt k)) : ∀ j, j < czn b n → P (czp pt b n j) := by
  induction n with
  | zero => intro j hj; exact absurd hj (Nat.not_lt_zero _)
  | succ n ih =>
    intro j hj
    cases hc : chg b n with
    | false =>
      rw [czn_n hc] at hj
      rw [czp_n hc]
      exact ih (fun k hk => h k (by omega)) j hj
    | true =>
      rw [czn_y hc] at hj
      rw [czp_y hc]
      show P (if j = czn b n then pt n else czp pt b n j)
      split
      · exact h n (by omega)
      · exact ih (fun k hk => h k (by omega)) j (by omega)
theorem l2i_sm {n : Int64} (h : -100 ≤ n.toInt ∧ n.toInt ≤ 100) : n.toInt32.toInt = n.toInt := by
  rw [Int64.toInt_toInt32]
  exact Int.bmod_eq_of_le (by omega) (by omega)

def po_X5_where (G : Gm) (A : Nat → Prop) (q ta N : Nat) (th : Nat → Th) (as : St3) (f0 g0 : Int32) : Option Value → Heap → Prop := fun v H => v = some (.int (nI N)) ∧ ∃ t, R_where N th f0 g0 0 t ∧ House G A H q ta (N + 1) (upT th N t) as
def px_X5_where (q ta N : Nat) (th : Nat → Th) (as : St3) (f0 g0 : Int32) : String → Prop := fun E => ∃ c, (E, c) ∈ X123 ∧ ∀ t, R_where N th f0 g0 c t
theorem bkX5_where_0_2 : pb_chk cX5_where 0 [.aload_n 0, .iload_n 1] = some 2 := by decide +kernel
theorem dX5_where_2 : decode cX5_where 2 = .ok (.invokevirtual 59, 3) := by decide +kernel
theorem dX5_where_5 : decode cX5_where 5 = .ok (.invokestatic 63, 3) := by decide +kernel
theorem bkX5_where_8_10 : pb_chk cX5_where 8 [.astore_n 3, .iload_n 2] = some 10 := by decide +kernel
theorem dX5_where_10 : decode cX5_where 10 = .ok (.ifCond .eq 23, 3) := by decide +kernel
theorem bkX5_where_33_35 : pb_chk cX5_where 33 [.aload_n 0, .aload_n 3] = some 35 := by decide +kernel
theorem dX5_where_35 : decode cX5_where 35 = .ok (.invokestatic 110, 3) := by decide +kernel
theorem bkX5_where_38_39 : pb_chk cX5_where 38 [.iload_n 2] = some 39 := by decide +kernel
theorem dX5_where_39 : decode cX5_where 39 = .ok (.invokevirtual 116, 3) := by decide +kernel
theorem dX5_where_42 : decode cX5_where 42 = .ok (.invokevirtual 48, 3) := by decide +kernel
theorem dX5_where_45 : decode cX5_where 45 = .ok (.ireturn, 1) := by decide +kernel
theorem bkX5_where_13_15 : pb_chk cX5_where 13 [.iload_n 2, .iconst 1] = some 15 := by decide +kernel
theorem dX5_where_15 : decode cX5_where 15 = .ok (.if_icmp .eq 18, 3) := by decide +kernel
theorem bkX5_where_18_20 : pb_chk cX5_where 18 [.iload_n 2, .iconst 2] = some 20 := by decide +kernel
theorem dX5_where_20 : decode cX5_where 20 = .ok (.if_icmp .eq 13, 3) := by decide +kernel
theorem dX5_where_23 : decode cX5_where 23 = .ok (.new 105, 3) := by decide +kernel
theorem dX5_where_26 : decode cX5_where 26 = .ok (.dup, 1) := by decide +kernel
theorem dX5_where_27 : decode cX5_where 27 = .ok (.ldc 107, 2) := by decide +kernel
theorem dX5_where_29 : decode cX5_where 29 = .ok (.invokespecial 109, 3) := by decide +kernel
theorem dX5_where_32 : decode cX5_where 32 = .ok (.athrow, 1) := by decide +kernel
set_option maxHeartbeats 4000000 in
set_option maxRecDepth 100000 in
theorem c_X5_where (l : Launch) (hst : l.stackTraces = false) (G : Gm) (A : Nat → Prop) (q ta N : Nat) (th : Nat → Th) (as : St3) (f0 g0 : Int32) (hB : Bds N th as) : Mx l yX5_where cX5_where 4 (some .int) (⟨8, 300, 10000, 160⟩ : Room) G A (F2 q ta) [.ref q, .int f0, .int g0] (fun H => House G A H q ta N th as) (po_X5_where G A q ta N th as f0 g0) (px_X5_where q ta N th as f0 g0) := by
  refine of_metX (by decide) (Nat.le_of_ble_eq_true rfl) ?_
  intro p e s m below meth c ls B hT htb hA hh hl
  obtain ⟨fs9, ho⟩ := hh.ob
  refine pb_blk B.hx B.hb (lv' := [(0, .ref q), (1, .int f0), (2, .int g0)]) (st' := [.int f0, .ref q]) hl bkX5_where_0_2 rfl (fun ls hl => ?_)
  refine x_callV0 B hT htb (c_X5_found l hst G A q ta N th as f0) cy_X5_found im_X5_found se_X5_found wd_M_X5_59 rfl ho (hA_up hA (Ex.rf).1) hh (Ex.rf) rfl hl.1 rfl (Nat.le_of_ble_eq_true rfl) ⟨by decide, by decide⟩ ⟨by decide, by decide⟩ dX5_where_2 (fun _ h => nomatch h) ⟨by decide, by decide⟩ (fun E h => ⟨1, by rw [h.1]; decide, fun t => Or.inl ⟨rfl, h.2⟩⟩) (fun v H1 hE hv => ?_)
  obtain ⟨i, x1, hi, ei, rfl, hx1⟩ := hv
  have eH1 := (Ex.rf).trans hE
  have hh := hh.ex hE
  refine x_callS0 B hT htb (c_X5_asFormula l hst G A x1 (th i)) cy_X5_asFormula st_X5_asFormula wd_M_X5_63 (hA_up hA (eH1).1) hx1 (eH1) rfl hl.1 rfl (Nat.le_of_ble_eq_true rfl) ⟨by decide, by decide⟩ ⟨by decide, by decide⟩ dX5_where_5 (fun _ h => nomatch h) ⟨by decide, by decide⟩ (fun E h => ⟨2, by rw [h.1]; decide, fun t => Or.inr ⟨i, hi, ei, Or.inl ⟨rfl, h.2⟩⟩⟩) (fun v H2 hE hv => ?_)
  obtain ⟨rfl, u, ti⟩ := hv
  have eH2 := (eH1).trans hE
  have hx1 := hx1.mv (hE.mv A)
  have hh := hh.ex hE
  have fx1 : Fo G A H2 x1 u := by rw [ti] at hx1; exact hx1
  have hsu := hB.1 i hi u ti
  refine pb_blk B.hx B.hb (lv' := [(3, .ref x1), (0, .ref q), (1, .int f0), (2, .int g0)]) (st' := [.int g0]) hl bkX5_where_8_10 rfl (fun ls hl => ?_)
  refine lv_if_eq (tgt := 33) B.hx B.hb dX5_where_10 (by decide) (fun h1 => ?_) (fun h1 => ?_)
  · have hop : opOK g0 := Or.inl h1
    refine pb_blk B.hx B.hb (lv' := [(3, .ref x1), (0, .ref q), (1, .int f0), (2, .int g0)]) (st' := [.ref x1, .ref q]) hl bkX5_where_33_35 rfl (fun ls hl => ?_)
    refine x_callS0 B hT htb (c_X3_told l hst G A x1 u hsu) cy_X3_told st_X3_told wd_M_X5_110 (hA_up hA (eH2).1) fx1 (eH2) rfl hl.1 rfl (Nat.le_of_ble_eq_true rfl) ⟨by decide, by decide⟩ ⟨by decide, by decide⟩ dX5_where_35 (fun _ h => nomatch h) ⟨by decide, by decide⟩ (fun E h => ⟨3, by rw [h.1]; decide, fun t => Or.inr ⟨i, hi, ei, Or.inr ⟨u, ti, Or.inr ⟨hop, Or.inl ⟨rfl, h.2⟩⟩⟩⟩⟩) (fun v H3 hE hv => ?_)
    obtain ⟨y1, n, pt, sg, rfl, ht, hy1⟩ := hv
    have eH3 := (eH2).trans hE
    have hx1 := hx1.mv (hE.mv A)
    have fx1 := fx1.mv (hE.mv A)
    have hh := hh.ex hE
    have hn2 := tell_n ht
    obtain ⟨fs1, ho1⟩ := hy1.ob
    refine pb_blk B.hx B.hb (lv' := [(3, .ref x1), (0, .ref q), (1, .int f0), (2, .int g0)]) (st' := [.int g0, .ref y1, .ref q]) hl bkX5_where_38_39 rfl (fun ls hl => ?_)
    refine z_callV B (c_X3_chosen l G A y1 n g0 pt sg hn2) cy_X3_chosen im_X3_chosen se_X3_chosen wd_M_X5_116 rfl ho1 (hA_up hA (eH3).1) hy1 rfl hl.1 rfl (Nat.le_of_ble_eq_true rfl) ⟨by decide, by decide⟩ ⟨by decide, by decide⟩ dX5_where_39 (fun v H4 hE hv => ?_)
    obtain ⟨y, rfl, hy⟩ := hv
    have eH4 := (eH3).trans hE
    have hx1 := hx1.mv (hE.mv A)
    have fx1 := fx1.mv (hE.mv A)
    have hy1 := hy1.mv (hE.mv A)
    have hh := hh.ex hE
    obtain ⟨fs9, ho⟩ := hh.ob
    refine x_callV B hT htb (c_X5_keep l hst G A q ta N th as y (.inr (whS g0 n pt sg)) (fun z h9 => by cases h9; exact Nat.lt_of_le_of_lt (czn_le _ _) (by omega))) cy_X5_keep im_X5_keep se_X5_keep wd_M_X5_48 rfl ho (hA_up hA (eH4).1) ⟨hh, hy⟩ (eH4) rfl hl.1 rfl (Nat.le_of_ble_eq_true rfl) ⟨by decide, by decide⟩ ⟨by decide, by decide⟩ dX5_where_42 (fun _ h => nomatch h) (fun _ h => h) ⟨by decide, by decide⟩ (fun E h => ⟨3, by rw [h.1]; decide, fun t => Or.inr ⟨i, hi, ei, Or.inr ⟨u, ti, Or.inr ⟨hop, Or.inr ⟨n, pt, sg, ht, Or.inl ⟨rfl, h.2⟩⟩⟩⟩⟩⟩) (fun v H5 L hL hM hv => ?_)
    obtain ⟨rfl, hN8, htg, hh2⟩ := hv
    exact x_iret B dX5_where_45 (((eH4).mv _).trans hM) ⟨rfl, (.inr (whS g0 n pt sg)), Or.inr ⟨i, hi, ei, Or.inr ⟨u, ti, Or.inr ⟨hop, Or.inr ⟨n, pt, sg, ht, Or.inr ⟨rfl, hN8, htg, rfl⟩⟩⟩⟩⟩, hh2⟩ (fun z hz => hL z hz) (Nat.le_of_ble_eq_true rfl) (Nat.le_of_ble_eq_true rfl)
  · refine pb_blk B.hx B.hb (lv' := [(3, .ref x1), (0, .ref q), (1, .int f0), (2, .int g0)]) (st' := [.int 1, .int g0]) hl bkX5_where_13_15 rfl (fun ls hl => ?_)
    refine lv_icmp_eq (tgt := 33) B.hx B.hb dX5_where_15 (by decide) (fun h2 => ?_) (fun h2 => ?_)
    · have hop : opOK g0 := Or.inr (Or.inl h2)
      refine pb_blk B.hx B.hb (lv' := [(3, .ref x1), (0, .ref q), (1, .int f0), (2, .int g0)]) (st' := [.ref x1, .ref q]) hl bkX5_where_33_35 rfl (fun ls hl => ?_)
      refine x_callS0 B hT htb (c_X3_told l hst G A x1 u hsu) cy_X3_told st_X3_told wd_M_X5_110 (hA_up hA (eH2).1) fx1 (eH2) rfl hl.1 rfl (Nat.le_of_ble_eq_true rfl) ⟨by decide, by decide⟩ ⟨by decide, by decide⟩ dX5_where_35 (fun _ h => nomatch h) ⟨by decide, by decide⟩ (fun E h => ⟨3, by rw [h.1]; decide, fun t => Or.inr ⟨i, hi, ei, Or.inr ⟨u, ti, Or.inr ⟨hop, Or.inl ⟨rfl, h.2⟩⟩⟩⟩⟩) (fun v H3 hE hv => ?_)
      obtain ⟨y1, n, pt, sg, rfl, ht, hy1⟩ := hv
      have eH3 := (eH2).trans hE
      have hx1 := hx1.mv (hE.mv A)
      have fx1 := fx1.mv (hE.mv A)
      have hh := hh.ex hE
      have hn2 := tell_n ht
      obtain ⟨fs1, ho1⟩ := hy1.ob
      refine pb_blk B.hx B.hb (lv' := [(3, .ref x1), (0, .ref q), (1, .int f0), (2, .int g0)]) (st' := [.int g0, .ref y1, .ref q]) hl bkX5_where_38_39 rfl (fun ls hl => ?_)
      refine z_callV B (c_X3_chosen l G A y1 n g0 pt sg hn2) cy_X3_chosen im_X3_chosen se_X3_chosen wd_M_X5_116 rfl ho1 (hA_up hA (eH3).1) hy1 rfl hl.1 rfl (Nat.le_of_ble_eq_true rfl) ⟨by decide, by decide⟩ ⟨by decide, by decide⟩ dX5_where_39 (fun v H4 hE hv => ?_)
      obtain ⟨y, rfl, hy⟩ := hv
      have eH4 := (eH3).trans hE
      have hx1 := hx1.mv (hE.mv A)
      have fx1 := fx1.mv (hE.mv A)
      have hy1 := hy1.mv (hE.mv A)
      have hh := hh.ex hE
      obtain ⟨fs9, ho⟩ := hh.ob
      refine x_callV B hT htb (c_X5_keep l hst G A q ta N th as y (.inr (whS g0 n pt sg)) (fun z h9 => by cases h9; exact Nat.lt_of_le_of_lt (czn_le _ _) (by omega))) cy_X5_keep im_X5_keep se_X5_keep wd_M_X5_48 rfl ho (hA_up hA (eH4).1) ⟨hh, hy⟩ (eH4) rfl hl.1 rfl (Nat.le_of_ble_eq_true rfl) ⟨by decide, by decide⟩ ⟨by decide, by decide⟩ dX5_where_42 (fun _ h => nomatch h) (fun _ h => h) ⟨by decide, by decide⟩ (fun E h => ⟨3, by rw [h.1]; decide, fun t => Or.inr ⟨i, hi, ei, Or.inr ⟨u, ti, Or.inr ⟨hop, Or.inr ⟨n, pt, sg, ht, Or.inl ⟨rfl, h.2⟩⟩⟩⟩⟩⟩) (fun v H5 L hL hM hv => ?_)
      obtain ⟨rfl, hN8, htg, hh2⟩ := hv
      exact x_iret B dX5_where_45 (((eH4).mv _).trans hM) ⟨rfl, (.inr (whS g0 n pt sg)), Or.inr ⟨i, hi, ei, Or.inr ⟨u, ti, Or.inr ⟨hop, Or.inr ⟨n, pt, sg, ht, Or.inr ⟨rfl, hN8, htg, rfl⟩⟩⟩⟩⟩, hh2⟩ (fun z hz => hL z hz) (Nat.le_of_ble_eq_true rfl) (Nat.le_of_ble_eq_true rfl)
    · refine pb_blk B.hx B.hb (lv' := [(3, .ref x1), (0, .ref q), (1, .int f0), (2, .int g0)]) (st' := [.int 2, .int g0]) hl bkX5_where_18_20 rfl (fun ls hl => ?_)
      refine lv_icmp_eq (tgt := 33) B.hx B.hb dX5_where_20 (by decide) (fun h3 => ?_) (fun h3 => ?_)
      · have hop : opOK g0 := Or.inr (Or.inr h3)
        refine pb_blk B.hx B.hb (lv' := [(3, .ref x1), (0, .ref q), (1, .int f0), (2, .int g0)]) (st' := [.ref x1, .ref q]) hl bkX5_where_33_35 rfl (fun ls hl => ?_)
        refine x_callS0 B hT htb (c_X3_told l hst G A x1 u hsu) cy_X3_told st_X3_told wd_M_X5_110 (hA_up hA (eH2).1) fx1 (eH2) rfl hl.1 rfl (Nat.le_of_ble_eq_true rfl) ⟨by decide, by decide⟩ ⟨by decide, by decide⟩ dX5_where_35 (fun _ h => nomatch h) ⟨by decide, by decide⟩ (fun E h => ⟨3, by rw [h.1]; decide, fun t => Or.inr ⟨i, hi, ei, Or.inr ⟨u, ti, Or.inr ⟨hop, Or.inl ⟨rfl, h.2⟩⟩⟩⟩⟩) (fun v H3 hE hv => ?_)
        obtain ⟨y1, n, pt, sg, rfl, ht, hy1⟩ := hv
        have eH3 := (eH2).trans hE
        have hx1 := hx1.mv (hE.mv A)
        have fx1 := fx1.mv (hE.mv A)
        have hh := hh.ex hE
        have hn2 := tell_n ht
        obtain ⟨fs1, ho1⟩ := hy1.ob
        refine pb_blk B.hx B.hb (lv' := [(3, .ref x1), (0, .ref q), (1, .int f0), (2, .int g0)]) (st' := [.int g0, .ref y1, .ref q]) hl bkX5_where_38_39 rfl (fun ls hl => ?_)
        refine z_callV B (c_X3_chosen l G A y1 n g0 pt sg hn2) cy_X3_chosen im_X3_chosen se_X3_chosen wd_M_X5_116 rfl ho1 (hA_up hA (eH3).1) hy1 rfl hl.1 rfl (Nat.le_of_ble_eq_true rfl) ⟨by decide, by decide⟩ ⟨by decide, by decide⟩ dX5_where_39 (fun v H4 hE hv => ?_)
        obtain ⟨y, rfl, hy⟩ := hv
        have eH4 := (eH3).trans hE
        have hx1 := hx1.mv (hE.mv A)
        have fx1 := fx1.mv (hE.mv A)
        have hy1 := hy1.mv (hE.mv A)
        have hh := hh.ex hE
        obtain ⟨fs9, ho⟩ := hh.ob
        refine x_callV B hT htb (c_X5_keep l hst G A q ta N th as y (.inr (whS g0 n pt sg)) (fun z h9 => by cases h9; exact Nat.lt_of_le_of_lt (czn_le _ _) (by omega))) cy_X5_keep im_X5_keep se_X5_keep wd_M_X5_48 rfl ho (hA_up hA (eH4).1) ⟨hh, hy⟩ (eH4) rfl hl.1 rfl (Nat.le_of_ble_eq_true rfl) ⟨by decide, by decide⟩ ⟨by decide, by decide⟩ dX5_where_42 (fun _ h => nomatch h) (fun _ h => h) ⟨by decide, by decide⟩ (fun E h => ⟨3, by rw [h.1]; decide, fun t => Or.inr ⟨i, hi, ei, Or.inr ⟨u, ti, Or.inr ⟨hop, Or.inr ⟨n, pt, sg, ht, Or.inl ⟨rfl, h.2⟩⟩⟩⟩⟩⟩) (fun v H5 L hL hM hv => ?_)
        obtain ⟨rfl, hN8, htg, hh2⟩ := hv
        exact x_iret B dX5_where_45 (((eH4).mv _).trans hM) ⟨rfl, (.inr (whS g0 n pt sg)), Or.inr ⟨i, hi, ei, Or.inr ⟨u, ti, Or.inr ⟨hop, Or.inr ⟨n, pt, sg, ht, Or.inr ⟨rfl, hN8, htg, rfl⟩⟩⟩⟩⟩, hh2⟩ (fun z hz => hL z hz) (Nat.le_of_ble_eq_true rfl) (Nat.le_of_ble_eq_true rfl)
      · exact x_throw B hst hT htb ts_X5_107 (eH2) hl.1 dX5_where_23 dX5_where_26 dX5_where_27 dX5_where_29 dX5_where_32 ⟨by decide, by decide⟩ ⟨by decide, by decide⟩ (⟨2, by decide, fun t => Or.inr ⟨i, hi, ei, Or.inr ⟨u, ti, Or.inl ⟨rfl, fun h9 => h9.elim h1 (fun h9 => h9.elim h2 h3)⟩⟩⟩⟩) ⟨by decide, by decide⟩

def po_X5_both (G : Gm) (A : Nat → Prop) (q ta N : Nat) (th : Nat → Th) (as : St3) (f0 g0 : Int32) : Option Value → Heap → Prop := fun v H => v = some (.int (nI N)) ∧ ∃ t, R_join true N th f0 g0 0 t ∧ House G A H q ta (N + 1) (upT th N t) as
def px_X5_both (q ta N : Nat) (th : Nat → Th) (as : St3) (f0 g0 : Int32) : String → Prop := fun E => ∃ c, (E, c) ∈ X123 ∧ ∀ t, R_join true N th f0 g0 c t
theorem bkX5_both_0_2 : pb_chk cX5_both 0 [.aload_n 0, .iload_n 1] = some 2 := by decide +kernel
theorem dX5_both_2 : decode cX5_both 2 = .ok (.invokevirtual 59, 3) := by decide +kernel
theorem bkX5_both_5_8 : pb_chk cX5_both 5 [.astore_n 3, .aload_n 0, .iload_n 2] = some 8 := by decide +kernel
theorem dX5_both_8 : decode cX5_both 8 = .ok (.invokevirtual 59, 3) := by decide +kernel
theorem bkX5_both_11_15 : pb_chk cX5_both 11 [.astore 4, .aload_n 0, .aload_n 3] = some 15 := by decide +kernel
theorem dX5_both_15 : decode cX5_both 15 = .ok (.invokestatic 120, 3) := by decide +kernel
theorem bkX5_both_18_20 : pb_chk cX5_both 18 [.aload 4] = some 20 := by decide +kernel
theorem dX5_both_20 : decode cX5_both 20 = .ok (.invokestatic 120, 3) := by decide +kernel
theorem dX5_both_23 : decode cX5_both 23 = .ok (.invokevirtual 124, 3) := by decide +kernel
theorem dX5_both_26 : decode cX5_both 26 = .ok (.invokevirtual 48, 3) := by decide +kernel
theorem dX5_both_29 : decode cX5_both 29 = .ok (.ireturn, 1) := by decide +kernel
set_option maxHeartbeats 4000000 in
set_option maxRecDepth 100000 in
theorem c_X5_both (l : Launch) (hst : l.stackTraces = false) (G : Gm) (A : Nat → Prop) (q ta N : Nat) (th : Nat → Th) (as : St3) (f0 g0 : Int32) (hB : Bds N th as) : Mx l yX5_both cX5_both 5 (some .int) (⟨8, 300, 10000, 160⟩ : Room) G A (F2 q ta) [.ref q, .int f0, .int g0] (fun H => House G A H q ta N th as) (po_X5_both G A q ta N th as f0 g0) (px_X5_both q ta N th as f0 g0) := by
  refine of_metX (by decide) (Nat.le_of_ble_eq_true rfl) ?_
  intro p e s m below meth c ls B hT htb hA hh hl
  obtain ⟨fs9, ho⟩ := hh.ob
  refine pb_blk B.hx B.hb (lv' := [(0, .ref q), (1, .int f0), (2, .int g0)]) (st' := [.int f0, .ref q]) hl bkX5_both_0_2 rfl (fun ls hl => ?_)
  refine x_callV0 B hT htb (c_X5_found l hst G A q ta N th as f0) cy_X5_found im_X5_found se_X5_found wd_M_X5_59 rfl ho (hA_up hA (Ex.rf).1) hh (Ex.rf) rfl hl.1 rfl (Nat.le_of_ble_eq_true rfl) ⟨by decide, by decide⟩ ⟨by decide, by decide⟩ dX5_both_2 (fun _ h => nomatch h) ⟨by decide, by decide⟩ (fun E h => ⟨1, by rw [h.1]; decide, fun t => Or.inl ⟨rfl, fun h9 => h.2 h9.1⟩⟩) (fun v H1 hE hv => ?_)
  obtain ⟨i, x1, hi, ei, rfl, hx1⟩ := hv
  have eH1 := (Ex.rf).trans hE
  have hh := hh.ex hE
  obtain ⟨fs9, ho⟩ := hh.ob
  refine pb_blk B.hx B.hb (lv' := [(3, .ref x1), (0, .ref q), (1, .int f0), (2, .int g0)]) (st' := [.int g0, .ref q]) hl bkX5_both_5_8 rfl (fun ls hl => ?_)
  refine x_callV0 B hT htb (c_X5_found l hst G A q ta N th as g0) cy_X5_found im_X5_found se_X5_found wd_M_X5_59 rfl ho (hA_up hA (eH1).1) hh (eH1) rfl hl.1 rfl (Nat.le_of_ble_eq_true rfl) ⟨by decide, by decide⟩ ⟨by decide, by decide⟩ dX5_both_8 (fun _ h => nomatch h) ⟨by decide, by decide⟩ (fun E h => ⟨1, by rw [h.1]; decide, fun t => Or.inl ⟨rfl, fun h9 => h.2 h9.2⟩⟩) (fun v H2 hE hv => ?_)
  obtain ⟨j, x2, hj, ej, rfl, hx2⟩ := hv
  have eH2 := (eH1).trans hE
  have hx1 := hx1.mv (hE.mv A)
  have hh := hh.ex hE
  refine pb_blk B.hx B.hb (lv' := [(4, .ref x2), (3, .ref x1), (0, .ref q), (1, .int f0), (2, .int g0)]) (st' := [.ref x1, .ref q]) hl bkX5_both_11_15 rfl (fun ls hl => ?_)
  refine x_callS0 B hT htb (c_X5_asSet l hst G A x1 (th i)) cy_X5_asSet st_X5_asSet wd_M_X5_120 (hA_up hA (eH2).1) hx1 (eH2) rfl hl.1 rfl (Nat.le_of_ble_eq_true rfl) ⟨by decide, by decide⟩ ⟨by decide, by decide⟩ dX5_both_15 (fun _ h => nomatch h) ⟨by decide, by decide⟩ (fun E h => ⟨2, by rw [h.1]; decide, fun t => Or.inr ⟨i, j, hi, hj, ei, ej, Or.inl ⟨rfl, fun h9 => h.2 h9.1⟩⟩⟩) (fun v H3 hE hv => ?_)
  obtain ⟨rfl, sa, ti⟩ := hv
  have eH3 := (eH2).trans hE
  have hx1 := hx1.mv (hE.mv A)
  have hx2 := hx2.mv (hE.mv A)
  have hh := hh.ex hE
  have fx1 : Ls G A H3 x1 sa.1 sa.2.1 sa.2.2 := by rw [ti] at hx1; exact hx1
  refine pb_blk B.hx B.hb (lv' := [(4, .ref x2), (3, .ref x1), (0, .ref q), (1, .int f0), (2, .int g0)]) (st' := [.ref x2, .ref x1, .ref q]) hl bkX5_both_18_20 rfl (fun ls hl => ?_)
  refine x_callS0 B hT htb (c_X5_asSet l hst G A x2 (th j)) cy_X5_asSet st_X5_asSet wd_M_X5_120 (hA_up hA (eH3).1) hx2 (eH3) rfl hl.1 rfl (Nat.le_of_ble_eq_true rfl) ⟨by decide, by decide⟩ ⟨by decide, by decide⟩ dX5_both_20 (fun _ h => nomatch h) ⟨by decide, by decide⟩ (fun E h => ⟨2, by rw [h.1]; decide, fun t => Or.inr ⟨i, j, hi, hj, ei, ej, Or.inl ⟨rfl, fun h9 => h.2 h9.2⟩⟩⟩) (fun v H4 hE hv => ?_)
  obtain ⟨rfl, sb, tj⟩ := hv
  have eH4 := (eH3).trans hE
  have hx1 := hx1.mv (hE.mv A)
  have hx2 := hx2.mv (hE.mv A)
  have fx1 := fx1.mv (hE.mv A)
  have hh := hh.ex hE
  have fx2 : Ls G A H4 x2 sb.1 sb.2.1 sb.2.2 := by rw [tj] at hx2; exact hx2
  obtain ⟨ba1, ba2⟩ := hB.2.1 i hi sa ti
  obtain ⟨bb1, bb2⟩ := hB.2.1 j hj sb tj
  have hcz := hB.2.2.2.1 i j hi hj sa sb ti tj true
  obtain ⟨fs1, ho1⟩ := fx1.ob
  refine z_callV B (c_X2_met l G A x1 x2 sa.1 sb.1 sa.2.1 sb.2.1 sa.2.2 sb.2.2 ba1 bb1 (fun k hk => (ba2 k hk).bg) (fun k hk => (bb2 k hk).bg) hcz) cy_X2_met im_X2_met se_X2_met wd_M_X5_124 rfl ho1 (hA_up hA (eH4).1) ⟨fx1, fx2⟩ rfl hl.1 rfl (Nat.le_of_ble_eq_true rfl) ⟨by decide, by decide⟩ ⟨by decide, by decide⟩ dX5_both_23 (fun v H5 hE hv => ?_)
  obtain ⟨y, J, rfl, hJ, hy⟩ := hv
  have eH5 := (eH4).trans hE
  have hx1 := hx1.mv (hE.mv A)
  have hx2 := hx2.mv (hE.mv A)
  have fx1 := fx1.mv (hE.mv A)
  have fx2 := fx2.mv (hE.mv A)
  have hh := hh.ex hE
  obtain ⟨fs9, ho⟩ := hh.ob
  refine x_callV B hT htb (c_X5_keep l hst G A q ta N th as y (.inr (jn true sa sb J)) (fun z h9 => by cases h9; exact Nat.lt_of_le_of_lt (hcz J hJ) (by decide))) cy_X5_keep im_X5_keep se_X5_keep wd_M_X5_48 rfl ho (hA_up hA (eH5).1) ⟨hh, hy⟩ (eH5) rfl hl.1 rfl (Nat.le_of_ble_eq_true rfl) ⟨by decide, by decide⟩ ⟨by decide, by decide⟩ dX5_both_26 (fun _ h => nomatch h) (fun _ h => h) ⟨by decide, by decide⟩ (fun E h => ⟨3, by rw [h.1]; decide, fun t => Or.inr ⟨i, j, hi, hj, ei, ej, Or.inr ⟨sa, sb, ti, tj, J, hJ, Or.inl ⟨rfl, h.2⟩⟩⟩⟩) (fun v H6 L hL hM hv => ?_)
  obtain ⟨rfl, hN8, htg, hh2⟩ := hv
  exact x_iret B dX5_both_29 (((eH5).mv _).trans hM) ⟨rfl, (.inr (jn true sa sb J)), Or.inr ⟨i, j, hi, hj, ei, ej, Or.inr ⟨sa, sb, ti, tj, J, hJ, Or.inr ⟨rfl, hN8, htg, rfl⟩⟩⟩, hh2⟩ (fun z hz => hL z hz) (Nat.le_of_ble_eq_true rfl) (Nat.le_of_ble_eq_true rfl)

def po_X5_either (G : Gm) (A : Nat → Prop) (q ta N : Nat) (th : Nat → Th) (as : St3) (f0 g0 : Int32) : Option Value → Heap → Prop := fun v H => v = some (.int (nI N)) ∧ ∃ t, R_join false N th f0 g0 0 t ∧ House G A H q ta (N + 1) (upT th N t) as
def px_X5_either (q ta N : Nat) (th : Nat → Th) (as : St3) (f0 g0 : Int32) : String → Prop := fun E => ∃ c, (E, c) ∈ X123 ∧ ∀ t, R_join false N th f0 g0 c t
theorem bkX5_either_0_2 : pb_chk cX5_either 0 [.aload_n 0, .iload_n 1] = some 2 := by decide +kernel
theorem dX5_either_2 : decode cX5_either 2 = .ok (.invokevirtual 59, 3) := by decide +kernel
theorem bkX5_either_5_8 : pb_chk cX5_either 5 [.astore_n 3, .aload_n 0, .iload_n 2] = some 8 := by decide +kernel
theorem dX5_either_8 : decode cX5_either 8 = .ok (.invokevirtual 59, 3) := by decide +kernel
theorem bkX5_either_11_15 : pb_chk cX5_either 11 [.astore 4, .aload_n 0, .aload_n 3] = some 15 := by decide +kernel
theorem dX5_either_15 : decode cX5_either 15 = .ok (.invokestatic 120, 3) := by decide +kernel
theorem bkX5_either_18_20 : pb_chk cX5_either 18 [.aload 4] = some 20 := by decide +kernel
theorem dX5_either_20 : decode cX5_either 20 = .ok (.invokestatic 120, 3) := by decide +kernel
theorem dX5_either_23 : decode cX5_either 23 = .ok (.invokevirtual 128, 3) := by decide +kernel
theorem dX5_either_26 : decode cX5_either 26 = .ok (.invokevirtual 48, 3) := by decide +kernel
theorem dX5_either_29 : decode cX5_either 29 = .ok (.ireturn, 1) := by decide +kernel
set_option maxHeartbeats 4000000 in
set_option maxRecDepth 100000 in
theorem c_X5_either (l : Launch) (hst : l.stackTraces = false) (G : Gm) (A : Nat → Prop) (q ta N : Nat) (th : Nat → Th) (as : St3) (f0 g0 : Int32) (hB : Bds N th as) : Mx l yX5_either cX5_either 5 (some .int) (⟨8, 300, 10000, 160⟩ : Room) G A (F2 q ta) [.ref q, .int f0, .int g0] (fun H => House G A H q ta N th as) (po_X5_either G A q ta N th as f0 g0) (px_X5_either q ta N th as f0 g0) := by
  refine of_metX (by decide) (Nat.le_of_ble_eq_true rfl) ?_
  intro p e s m below meth c ls B hT htb hA hh hl
  obtain ⟨fs9, ho⟩ := hh.ob
  refine pb_blk B.hx B.hb (lv' := [(0, .ref q), (1, .int f0), (2, .int g0)]) (st' := [.int f0, .ref q]) hl bkX5_either_0_2 rfl (fun ls hl => ?_)
  refine x_callV0 B hT htb (c_X5_found l hst G A q ta N th as f0) cy_X5_found im_X5_found se_X5_found wd_M_X5_59 rfl ho (hA_up hA (Ex.rf).1) hh (Ex.rf) rfl hl.1 rfl (Nat.le_of_ble_eq_true rfl) ⟨by decide, by decide⟩ ⟨by decide, by decide⟩ dX5_either_2 (fun _ h => nomatch h) ⟨by decide, by decide⟩ (fun E h => ⟨1, by rw [h.1]; decide, fun t => Or.inl ⟨rfl, fun h9 => h.2 h9.1⟩⟩) (fun v H1 hE hv => ?_)
  obtain ⟨i, x1, hi, ei, rfl, hx1⟩ := hv
  have eH1 := (Ex.rf).trans hE
  have hh := hh.ex hE
  obtain ⟨fs9, ho⟩ := hh.ob
  refine pb_blk B.hx B.hb (lv' := [(3, .ref x1), (0, .ref q), (1, .int f0), (2, .int g0)]) (st' := [.int g0, .ref q]) hl bkX5_either_5_8 rfl (fun ls hl => ?_)
  refine x_callV0 B hT htb (c_X5_found l hst G A q ta N th as g0) cy_X5_found im_X5_found se_X5_found wd_M_X5_59 rfl ho (hA_up hA (eH1).1) hh (eH1) rfl hl.1 rfl (Nat.le_of_ble_eq_true rfl) ⟨by decide, by decide⟩ ⟨by decide, by decide⟩ dX5_either_8 (fun _ h => nomatch h) ⟨by decide, by decide⟩ (fun E h => ⟨1, by rw [h.1]; decide, fun t => Or.inl ⟨rfl, fun h9 => h.2 h9.2⟩⟩) (fun v H2 hE hv => ?_)
  obtain ⟨j, x2, hj, ej, rfl, hx2⟩ := hv
  have eH2 := (eH1).trans hE
  have hx1 := hx1.mv (hE.mv A)
  have hh := hh.ex hE
  refine pb_blk B.hx B.hb (lv' := [(4, .ref x2), (3, .ref x1), (0, .ref q), (1, .int f0), (2, .int g0)]) (st' := [.ref x1, .ref q]) hl bkX5_either_11_15 rfl (fun ls hl => ?_)
  refine x_callS0 B hT htb (c_X5_asSet l hst G A x1 (th i)) cy_X5_asSet st_X5_asSet wd_M_X5_120 (hA_up hA (eH2).1) hx1 (eH2) rfl hl.1 rfl (Nat.le_of_ble_eq_true rfl) ⟨by decide, by decide⟩ ⟨by decide, by decide⟩ dX5_either_15 (fun _ h => nomatch h) ⟨by decide, by decide⟩ (fun E h => ⟨2, by rw [h.1]; decide, fun t => Or.inr ⟨i, j, hi, hj, ei, ej, Or.inl ⟨rfl, fun h9 => h.2 h9.1⟩⟩⟩) (fun v H3 hE hv => ?_)
  obtain ⟨rfl, sa, ti⟩ := hv
  have eH3 := (eH2).trans hE
  have hx1 := hx1.mv (hE.mv A)
  have hx2 := hx2.mv (hE.mv A)
  have hh := hh.ex hE
  have fx1 : Ls G A H3 x1 sa.1 sa.2.1 sa.2.2 := by rw [ti] at hx1; exact hx1
  refine pb_blk B.hx B.hb (lv' := [(4, .ref x2), (3, .ref x1), (0, .ref q), (1, .int f0), (2, .int g0)]) (st' := [.ref x2, .ref x1, .ref q]) hl bkX5_either_18_20 rfl (fun ls hl => ?_)
  refine x_callS0 B hT htb (c_X5_asSet l hst G A x2 (th j)) cy_X5_asSet st_X5_asSet wd_M_X5_120 (hA_up hA (eH3).1) hx2 (eH3) rfl hl.1 rfl (Nat.le_of_ble_eq_true rfl) ⟨by decide, by decide⟩ ⟨by decide, by decide⟩ dX5_either_20 (fun _ h => nomatch h) ⟨by decide, by decide⟩ (fun E h => ⟨2, by rw [h.1]; decide, fun t => Or.inr ⟨i, j, hi, hj, ei, ej, Or.inl ⟨rfl, fun h9 => h.2 h9.2⟩⟩⟩) (fun v H4 hE hv => ?_)
  obtain ⟨rfl, sb, tj⟩ := hv
  have eH4 := (eH3).trans hE
  have hx1 := hx1.mv (hE.mv A)
  have hx2 := hx2.mv (hE.mv A)
  have fx1 := fx1.mv (hE.mv A)
  have hh := hh.ex hE
  have fx2 : Ls G A H4 x2 sb.1 sb.2.1 sb.2.2 := by rw [tj] at hx2; exact hx2
  obtain ⟨ba1, ba2⟩ := hB.2.1 i hi sa ti
  obtain ⟨bb1, bb2⟩ := hB.2.1 j hj sb tj
  have hcz := hB.2.2.2.1 i j hi hj sa sb ti tj false
  obtain ⟨fs1, ho1⟩ := fx1.ob
  refine z_callV B (c_X2_joined l G A x1 x2 sa.1 sb.1 sa.2.1 sb.2.1 sa.2.2 sb.2.2 ba1 bb1 (fun k hk => (ba2 k hk).bg) (fun k hk => (bb2 k hk).bg) hcz) cy_X2_joined im_X2_joined se_X2_joined wd_M_X5_128 rfl ho1 (hA_up hA (eH4).1) ⟨fx1, fx2⟩ rfl hl.1 rfl (Nat.le_of_ble_eq_true rfl) ⟨by decide, by decide⟩ ⟨by decide, by decide⟩ dX5_either_23 (fun v H5 hE hv => ?_)
  obtain ⟨y, J, rfl, hJ, hy⟩ := hv
  have eH5 := (eH4).trans hE
  have hx1 := hx1.mv (hE.mv A)
  have hx2 := hx2.mv (hE.mv A)
  have fx1 := fx1.mv (hE.mv A)
  have fx2 := fx2.mv (hE.mv A)
  have hh := hh.ex hE
  obtain ⟨fs9, ho⟩ := hh.ob
  refine x_callV B hT htb (c_X5_keep l hst G A q ta N th as y (.inr (jn false sa sb J)) (fun z h9 => by cases h9; exact Nat.lt_of_le_of_lt (hcz J hJ) (by decide))) cy_X5_keep im_X5_keep se_X5_keep wd_M_X5_48 rfl ho (hA_up hA (eH5).1) ⟨hh, hy⟩ (eH5) rfl hl.1 rfl (Nat.le_of_ble_eq_true rfl) ⟨by decide, by decide⟩ ⟨by decide, by decide⟩ dX5_either_26 (fun _ h => nomatch h) (fun _ h => h) ⟨by decide, by decide⟩ (fun E h => ⟨3, by rw [h.1]; decide, fun t => Or.inr ⟨i, j, hi, hj, ei, ej, Or.inr ⟨sa, sb, ti, tj, J, hJ, Or.inl ⟨rfl, h.2⟩⟩⟩⟩) (fun v H6 L hL hM hv => ?_)
  obtain ⟨rfl, hN8, htg, hh2⟩ := hv
  exact x_iret B dX5_either_29 (((eH5).mv _).trans hM) ⟨rfl, (.inr (jn false sa sb J)), Or.inr ⟨i, j, hi, hj, ei, ej, Or.inr ⟨sa, sb, ti, tj, J, hJ, Or.inr ⟨rfl, hN8, htg, rfl⟩⟩⟩, hh2⟩ (fun z hz => hL z hz) (Nat.le_of_ble_eq_true rfl) (Nat.le_of_ble_eq_true rfl)

def po_X5_other (G : Gm) (A : Nat → Prop) (q ta N : Nat) (th : Nat → Th) (as : St3) (f0 : Int32) : Option Value → Heap → Prop := fun v H => v = some (.int (nI N)) ∧ ∃ t, R_other N th f0 0 t ∧ House G A H q ta (N + 1) (upT th N t) as
def px_X5_other (q ta N : Nat) (th : Nat → Th) (as : St3) (f0 : Int32) : String → Prop := fun E => ∃ c, (E, c) ∈ X123 ∧ ∀ t, R_other N th f0 c t
theorem bkX5_other_0_3 : pb_chk cX5_other 0 [.aload_n 0, .aload_n 0, .iload_n 1] = some 3 := by decide +kernel
theorem dX5_other_3 : decode cX5_other 3 = .ok (.invokevirtual 59, 3) := by decide +kernel
theorem dX5_other_6 : decode cX5_other 6 = .ok (.invokestatic 120, 3) := by decide +kernel
theorem dX5_other_9 : decode cX5_other 9 = .ok (.invokevirtual 131, 3) := by decide +kernel
theorem dX5_other_12 : decode cX5_other 12 = .ok (.invokevirtual 48, 3) := by decide +kernel
theorem dX5_other_15 : decode cX5_other 15 = .ok (.ireturn, 1) := by decide +kernel
set_option maxHeartbeats 4000000 in
set_option maxRecDepth 100000 in
theorem c_X5_other (l : Launch) (hst : l.stackTraces = false) (G : Gm) (A : Nat → Prop) (q ta N : Nat) (th : Nat → Th) (as : St3) (f0 : Int32) (hB : Bds N th as) : Mx l yX5_other cX5_other 2 (some .int) (⟨8, 300, 10000, 160⟩ : Room) G A (F2 q ta) [.ref q, .int f0] (fun H => House G A H q ta N th as) (po_X5_other G A q ta N th as f0) (px_X5_other q ta N th as f0) := by
  refine of_metX (by decide) (Nat.le_of_ble_eq_true rfl) ?_
  intro p e s m below meth c ls B hT htb hA hh hl
  obtain ⟨fs9, ho⟩ := hh.ob
  refine pb_blk B.hx B.hb (lv' := [(0, .ref q), (1, .int f0)]) (st' := [.int f0, .ref q, .ref q]) hl bkX5_other_0_3 rfl (fun ls hl => ?_)
  refine x_callV0 B hT htb (c_X5_found l hst G A q ta N th as f0) cy_X5_found im_X5_found se_X5_found wd_M_X5_59 rfl ho (hA_up hA (Ex.rf).1) hh (Ex.rf) rfl hl.1 rfl (Nat.le_of_ble_eq_true rfl) ⟨by decide, by decide⟩ ⟨by decide, by decide⟩ dX5_other_3 (fun _ h => nomatch h) ⟨by decide, by decide⟩ (fun E h => ⟨1, by rw [h.1]; decide, fun t => Or.inl ⟨rfl, h.2⟩⟩) (fun v H1 hE hv => ?_)
  obtain ⟨i, x1, hi, ei, rfl, hx1⟩ := hv
  have eH1 := (Ex.rf).trans hE
  have hh := hh.ex hE
  refine x_callS0 B hT htb (c_X5_asSet l hst G A x1 (th i)) cy_X5_asSet st_X5_asSet wd_M_X5_120 (hA_up hA (eH1).1) hx1 (eH1) rfl hl.1 rfl (Nat.le_of_ble_eq_true rfl) ⟨by decide, by decide⟩ ⟨by decide, by decide⟩ dX5_other_6 (fun _ h => nomatch h) ⟨by decide, by decide⟩ (fun E h => ⟨2, by rw [h.1]; decide, fun t => Or.inr ⟨i, hi, ei, Or.inl ⟨rfl, h.2⟩⟩⟩) (fun v H2 hE hv => ?_)
  obtain ⟨rfl, sa, ti⟩ := hv
  have eH2 := (eH1).trans hE
  have hx1 := hx1.mv (hE.mv A)
  have hh := hh.ex hE
  have fx1 : Ls G A H2 x1 sa.1 sa.2.1 sa.2.2 := by rw [ti] at hx1; exact hx1
  obtain ⟨ba1, ba2⟩ := hB.2.1 i hi sa ti
  obtain ⟨fs1, ho1⟩ := fx1.ob
  refine z_callV B (c_X2_rest l G A x1 sa.1 sa.2.1 sa.2.2 ba1) cy_X2_rest im_X2_rest se_X2_rest wd_M_X5_131 rfl ho1 (hA_up hA (eH2).1) fx1 rfl hl.1 rfl (Nat.le_of_ble_eq_true rfl) ⟨by decide, by decide⟩ ⟨by decide, by decide⟩ dX5_other_9 (fun v H3 hE hv => ?_)
  obtain ⟨y, rfl, hy⟩ := hv
  have eH3 := (eH2).trans hE
  have hx1 := hx1.mv (hE.mv A)
  have fx1 := fx1.mv (hE.mv A)
  have hh := hh.ex hE
  obtain ⟨fs9, ho⟩ := hh.ob
  refine x_callV B hT htb (c_X5_keep l hst G A q ta N th as y (.inr (sa.1, sa.2.1, fun j => !sa.2.2 j)) (fun z h9 => by cases h9; exact Nat.lt_of_le_of_lt ba1 (by decide))) cy_X5_keep im_X5_keep se_X5_keep wd_M_X5_48 rfl ho (hA_up hA (eH3).1) ⟨hh, hy⟩ (eH3) rfl hl.1 rfl (Nat.le_of_ble_eq_true rfl) ⟨by decide, by decide⟩ ⟨by decide, by decide⟩ dX5_other_12 (fun _ h => nomatch h) (fun _ h => h) ⟨by decide, by decide⟩ (fun E h => ⟨3, by rw [h.1]; decide, fun t => Or.inr ⟨i, hi, ei, Or.inr ⟨sa, ti, Or.inl ⟨rfl, h.2⟩⟩⟩⟩) (fun v H4 L hL hM hv => ?_)
  obtain ⟨rfl, hN8, htg, hh2⟩ := hv
  exact x_iret B dX5_other_15 (((eH3).mv _).trans hM) ⟨rfl, (.inr (sa.1, sa.2.1, fun j => !sa.2.2 j)), Or.inr ⟨i, hi, ei, Or.inr ⟨sa, ti, Or.inr ⟨rfl, hN8, htg, rfl⟩⟩⟩, hh2⟩ (fun z hz => hL z hz) (Nat.le_of_ble_eq_true rfl) (Nat.le_of_ble_eq_true rfl)

def po_X5_kind (G : Gm) (A : Nat → Prop) (q ta N : Nat) (th : Nat → Th) (as : St3) (f0 : Int32) : Option Value → Heap → Prop := fun v H => ∃ r, v = some (.int r) ∧ R_kind N th f0 0 r
def px_X5_kind (q ta N : Nat) (th : Nat → Th) (as : St3) (f0 : Int32) : String → Prop := fun E => ∃ c, (E, c) ∈ X1 ∧ ∀ r, R_kind N th f0 c r
theorem bkX5_kind_0_2 : pb_chk cX5_kind 0 [.aload_n 0, .iload_n 1] = some 2 := by decide +kernel
theorem dX5_kind_2 : decode cX5_kind 2 = .ok (.invokevirtual 59, 3) := by decide +kernel
theorem dX5_kind_5 : decode cX5_kind 5 = .ok (.invokevirtual 135, 3) := by decide +kernel
theorem dX5_kind_8 : decode cX5_kind 8 = .ok (.ireturn, 1) := by decide +kernel
set_option maxHeartbeats 4000000 in
set_option maxRecDepth 100000 in
theorem c_X5_kind (l : Launch) (hst : l.stackTraces = false) (G : Gm) (A : Nat → Prop) (q ta N : Nat) (th : Nat → Th) (as : St3) (f0 : Int32) (hB : Bds N th as) : Mx l yX5_kind cX5_kind 2 (some .int) (⟨8, 300, 10000, 160⟩ : Room) G A (fun _ => False) [.ref q, .int f0] (fun H => House G A H q ta N th as) (po_X5_kind G A q ta N th as f0) (px_X5_kind q ta N th as f0) := by
  refine of_metX (by decide) (Nat.le_of_ble_eq_true rfl) ?_
  intro p e s m below meth c ls B hT htb hA hh hl
  obtain ⟨fs9, ho⟩ := hh.ob
  refine pb_blk B.hx B.hb (lv' := [(0, .ref q), (1, .int f0)]) (st' := [.int f0, .ref q]) hl bkX5_kind_0_2 rfl (fun ls hl => ?_)
  refine x_callV0 B hT htb (c_X5_found l hst G A q ta N th as f0) cy_X5_found im_X5_found se_X5_found wd_M_X5_59 rfl ho (hA_up hA (Ex.rf).1) hh (Ex.rf) rfl hl.1 rfl (Nat.le_of_ble_eq_true rfl) ⟨by decide, by decide⟩ ⟨by decide, by decide⟩ dX5_kind_2 (fun _ h => nomatch h) ⟨by decide, by decide⟩ (fun E h => ⟨1, by rw [h.1]; decide, fun t => Or.inl ⟨rfl, h.2⟩⟩) (fun v H1 hE hv => ?_)
  obtain ⟨i, x1, hi, ei, rfl, hx1⟩ := hv
  have eH1 := (Ex.rf).trans hE
  have hh := hh.ex hE
  cases hti : th i with
  | inl z =>
    rw [hti] at hx1
    obtain ⟨fs, ho⟩ : ∃ fs, va_at G.1 vwCl (x1, .inr (0, fs)) H1 := Fo.ob hx1
    refine n_callA (x := xTk) B (c_X0_whichKind l G A x1 z) cy_X0_whichKind im_X0_whichKind sa_k0 sm_Tk wd_M_X5_t135 B.hK.2.dk (by decide +kernel) rfl ho hx1 rfl hl.1 rfl (Nat.le_of_ble_eq_true rfl) ⟨by decide, by decide⟩ ⟨by decide, by decide⟩ dX5_kind_5 (fun v hv => ?_)
    rw [po_X0_whichKind] at hv
    subst hv
    exact x_iret B dX5_kind_8 ((eH1).mv _) ⟨_, rfl, Or.inr ⟨i, hi, ei, rfl, by rw [hti]; rfl⟩⟩ (fun _ h => nomatch h) (Nat.le_of_ble_eq_true rfl) (Nat.le_of_ble_eq_true rfl)
  | inr z =>
    rw [hti] at hx1
    obtain ⟨fs, ho⟩ : ∃ fs, va_at G.1 vwCl (x1, .inr (2, fs)) H1 := Ls.ob hx1
    refine n_callA (x := xTk) B (c_X2_whichKind l G A x1) cy_X2_whichKind im_X2_whichKind sa_k2 sm_Tk wd_M_X5_t135 B.hK.2.dk (by decide +kernel) rfl ho trivial rfl hl.1 rfl (Nat.le_of_ble_eq_true rfl) ⟨by decide, by decide⟩ ⟨by decide, by decide⟩ dX5_kind_5 (fun v hv => ?_)
    rw [po_X2_whichKind] at hv
    subst hv
    exact x_iret B dX5_kind_8 ((eH1).mv _) ⟨_, rfl, Or.inr ⟨i, hi, ei, rfl, by rw [hti]; rfl⟩⟩ (fun _ h => nomatch h) (Nat.le_of_ble_eq_true rfl) (Nat.le_of_ble_eq_true rfl)

def po_X5_degree (G : Gm) (A : Nat → Prop) (q ta N : Nat) (th : Nat → Th) (as : St3) (f0 : Int32) : Option Value → Heap → Prop := fun v H => ∃ r, v = some (.int r) ∧ R_degree N th f0 0 r
def px_X5_degree (q ta N : Nat) (th : Nat → Th) (as : St3) (f0 : Int32) : String → Prop := fun E => ∃ c, (E, c) ∈ X12 ∧ ∀ r, R_degree N th f0 c r
theorem bkX5_degree_0_2 : pb_chk cX5_degree 0 [.aload_n 0, .iload_n 1] = some 2 := by decide +kernel
theorem dX5_degree_2 : decode cX5_degree 2 = .ok (.invokevirtual 59, 3) := by decide +kernel
theorem dX5_degree_5 : decode cX5_degree 5 = .ok (.invokestatic 63, 3) := by decide +kernel
theorem dX5_degree_8 : decode cX5_degree 8 = .ok (.getfield 76, 3) := by decide +kernel
theorem dX5_degree_11 : decode cX5_degree 11 = .ok (.ireturn, 1) := by decide +kernel
set_option maxHeartbeats 4000000 in
set_option maxRecDepth 100000 in
theorem c_X5_degree (l : Launch) (hst : l.stackTraces = false) (G : Gm) (A : Nat → Prop) (q ta N : Nat) (th : Nat → Th) (as : St3) (f0 : Int32) (hB : Bds N th as) : Mx l yX5_degree cX5_degree 2 (some .int) (⟨8, 300, 10000, 160⟩ : Room) G A (fun _ => False) [.ref q, .int f0] (fun H => House G A H q ta N th as) (po_X5_degree G A q ta N th as f0) (px_X5_degree q ta N th as f0) := by
  refine of_metX (by decide) (Nat.le_of_ble_eq_true rfl) ?_
  intro p e s m below meth c ls B hT htb hA hh hl
  obtain ⟨fs9, ho⟩ := hh.ob
  refine pb_blk B.hx B.hb (lv' := [(0, .ref q), (1, .int f0)]) (st' := [.int f0, .ref q]) hl bkX5_degree_0_2 rfl (fun ls hl => ?_)
  refine x_callV0 B hT htb (c_X5_found l hst G A q ta N th as f0) cy_X5_found im_X5_found se_X5_found wd_M_X5_59 rfl ho (hA_up hA (Ex.rf).1) hh (Ex.rf) rfl hl.1 rfl (Nat.le_of_ble_eq_true rfl) ⟨by decide, by decide⟩ ⟨by decide, by decide⟩ dX5_degree_2 (fun _ h => nomatch h) ⟨by decide, by decide⟩ (fun E h => ⟨1, by rw [h.1]; decide, fun t => Or.inl ⟨rfl, h.2⟩⟩) (fun v H1 hE hv => ?_)
  obtain ⟨i, x1, hi, ei, rfl, hx1⟩ := hv
  have eH1 := (Ex.rf).trans hE
  have hh := hh.ex hE
  refine x_callS0 B hT htb (c_X5_asFormula l hst G A x1 (th i)) cy_X5_asFormula st_X5_asFormula wd_M_X5_63 (hA_up hA (eH1).1) hx1 (eH1) rfl hl.1 rfl (Nat.le_of_ble_eq_true rfl) ⟨by decide, by decide⟩ ⟨by decide, by decide⟩ dX5_degree_5 (fun _ h => nomatch h) ⟨by decide, by decide⟩ (fun E h => ⟨2, by rw [h.1]; decide, fun t => Or.inr ⟨i, hi, ei, Or.inl ⟨rfl, h.2⟩⟩⟩) (fun v H2 hE hv => ?_)
  obtain ⟨rfl, u, ti⟩ := hv
  have eH2 := (eH1).trans hE
  have hx1 := hx1.mv (hE.mv A)
  have hh := hh.ex hE
  have fx1 : Fo G A H2 x1 u := by rw [ti] at hx1; exact hx1
  obtain ⟨ra1, ob1, -⟩ := id fx1
  refine z_get B ciX0 1 (by decide) ob1 wd_F_X5_76 rfl dX5_degree_8 ?_
  exact x_iret B dX5_degree_11 ((eH2).mv _) ⟨_, rfl, Or.inr ⟨i, hi, ei, Or.inr ⟨u, ti, rfl, rfl⟩⟩⟩ (fun _ h => nomatch h) (Nat.le_of_ble_eq_true rfl) (Nat.le_of_ble_eq_true rfl)

def po_X5_at (G : Gm) (A : Nat → Prop) (q ta N : Nat) (th : Nat → Th) (as : St3) (f0 g0 k0 : Int32) : Option Value → Heap → Prop := fun v H => ∃ r, v = some (.int r) ∧ R_at N th f0 g0 k0 0 r
def px_X5_at (q ta N : Nat) (th : Nat → Th) (as : St3) (f0 g0 k0 : Int32) : String → Prop := fun E => ∃ c, (E, c) ∈ X12 ∧ ∀ r, R_at N th f0 g0 k0 c r
theorem bkX5_at_0_2 : pb_chk cX5_at 0 [.aload_n 0, .iload_n 1] = some 2 := by decide +kernel
theorem dX5_at_2 : decode cX5_at 2 = .ok (.invokevirtual 59, 3) := by decide +kernel
theorem dX5_at_5 : decode cX5_at 5 = .ok (.invokestatic 63, 3) := by decide +kernel
theorem bkX5_at_8_11 : pb_chk cX5_at 8 [.astore 4, .iload_n 3] = some 11 := by decide +kernel
theorem dX5_at_11 : decode cX5_at 11 = .ok (.ifCond .eq 18, 3) := by decide +kernel
theorem bkX5_at_29_32 : pb_chk cX5_at 29 [.aload 4, .iload_n 2] = some 32 := by decide +kernel
theorem dX5_at_32 : decode cX5_at 32 = .ok (.invokevirtual 141, 3) := by decide +kernel
theorem bkX5_at_35_38 : pb_chk cX5_at 35 [.astore 5, .iload_n 3] = some 38 := by decide +kernel
theorem dX5_at_38 : decode cX5_at 38 = .ok (.ifCond .ne 11, 3) := by decide +kernel
theorem bkX5_at_41_43 : pb_chk cX5_at 41 [.aload 5] = some 43 := by decide +kernel
theorem dX5_at_43 : decode cX5_at 43 = .ok (.getfield 90, 3) := by decide +kernel
theorem bkX5_at_46_55 : pb_chk cX5_at 46 [.goto 8, .l2i] = some 55 := by decide +kernel
theorem dX5_at_55 : decode cX5_at 55 = .ok (.ireturn, 1) := by decide +kernel
theorem bkX5_at_14_16 : pb_chk cX5_at 14 [.iload_n 3, .iconst 1] = some 16 := by decide +kernel
theorem dX5_at_16 : decode cX5_at 16 = .ok (.if_icmp .eq 13, 3) := by decide +kernel
theorem bkX5_at_49_51 : pb_chk cX5_at 49 [.aload 5] = some 51 := by decide +kernel
theorem dX5_at_51 : decode cX5_at 51 = .ok (.getfield 96, 3) := by decide +kernel
theorem bkX5_at_54_55 : pb_chk cX5_at 54 [.l2i] = some 55 := by decide +kernel
theorem dX5_at_19 : decode cX5_at 19 = .ok (.new 105, 3) := by decide +kernel
theorem dX5_at_22 : decode cX5_at 22 = .ok (.dup, 1) := by decide +kernel
theorem dX5_at_23 : decode cX5_at 23 = .ok (.ldc 139, 2) := by decide +kernel
theorem dX5_at_25 : decode cX5_at 25 = .ok (.invokespecial 109, 3) := by decide +kernel
theorem dX5_at_28 : decode cX5_at 28 = .ok (.athrow, 1) := by decide +kernel
set_option maxHeartbeats 4000000 in
set_option maxRecDepth 100000 in
theorem c_X5_at (l : Launch) (hst : l.stackTraces = false) (G : Gm) (A : Nat → Prop) (q ta N : Nat) (th : Nat → Th) (as : St3) (f0 g0 k0 : Int32) (hB : Bds N th as) : Mx l yX5_at cX5_at 6 (some .int) (⟨8, 300, 10000, 160⟩ : Room) G A (fun _ => False) [.ref q, .int f0, .int g0, .int k0] (fun H => House G A H q ta N th as) (po_X5_at G A q ta N th as f0 g0 k0) (px_X5_at q ta N th as f0 g0 k0) := by
  refine of_metX (by decide) (Nat.le_of_ble_eq_true rfl) ?_
  intro p e s m below meth c ls B hT htb hA hh hl
  obtain ⟨fs9, ho⟩ := hh.ob
  refine pb_blk B.hx B.hb (lv' := [(0, .ref q), (1, .int f0), (2, .int g0), (3, .int k0)]) (st' := [.int f0, .ref q]) hl bkX5_at_0_2 rfl (fun ls hl => ?_)
  refine x_callV0 B hT htb (c_X5_found l hst G A q ta N th as f0) cy_X5_found im_X5_found se_X5_found wd_M_X5_59 rfl ho (hA_up hA (Ex.rf).1) hh (Ex.rf) rfl hl.1 rfl (Nat.le_of_ble_eq_true rfl) ⟨by decide, by decide⟩ ⟨by decide, by decide⟩ dX5_at_2 (fun _ h => nomatch h) ⟨by decide, by decide⟩ (fun E h => ⟨1, by rw [h.1]; decide, fun t => Or.inl ⟨rfl, h.2⟩⟩) (fun v H1 hE hv => ?_)
  obtain ⟨i, x1, hi, ei, rfl, hx1⟩ := hv
  have eH1 := (Ex.rf).trans hE
  have hh := hh.ex hE
  refine x_callS0 B hT htb (c_X5_asFormula l hst G A x1 (th i)) cy_X5_asFormula st_X5_asFormula wd_M_X5_63 (hA_up hA (eH1).1) hx1 (eH1) rfl hl.1 rfl (Nat.le_of_ble_eq_true rfl) ⟨by decide, by decide⟩ ⟨by decide, by decide⟩ dX5_at_5 (fun _ h => nomatch h) ⟨by decide, by decide⟩ (fun E h => ⟨2, by rw [h.1]; decide, fun t => Or.inr ⟨i, hi, ei, Or.inl ⟨rfl, h.2⟩⟩⟩) (fun v H2 hE hv => ?_)
  obtain ⟨rfl, u, ti⟩ := hv
  have eH2 := (eH1).trans hE
  have hx1 := hx1.mv (hE.mv A)
  have hh := hh.ex hE
  have fx1 : Fo G A H2 x1 u := by rw [ti] at hx1; exact hx1
  have hsu := hB.1 i hi u ti
  refine pb_blk B.hx B.hb (lv' := [(4, .ref x1), (0, .ref q), (1, .int f0), (2, .int g0), (3, .int k0)]) (st' := [.int k0]) hl bkX5_at_8_11 rfl (fun ls hl => ?_)
  refine lv_if_eq (tgt := 29) B.hx B.hb dX5_at_11 (by decide) (fun h1 => ?_) (fun h1 => ?_)
  · obtain ⟨fs1, ho1⟩ := fx1.ob
    refine pb_blk B.hx B.hb (lv' := [(4, .ref x1), (0, .ref q), (1, .int f0), (2, .int g0), (3, .int k0)]) (st' := [.int g0, .ref x1]) hl bkX5_at_29_32 rfl (fun ls hl => ?_)
    refine z_callV B (c_X0_fractionA l G A x1 g0 u) cy_X0_fraction im_X0_fraction se_X0_fraction wd_M_X5_141 rfl ho1 (hA_up hA (eH2).1) fx1 rfl hl.1 rfl (Nat.le_of_ble_eq_true rfl) ⟨by decide, by decide⟩ ⟨by decide, by decide⟩ dX5_at_32 (fun v H3 hE hv => ?_)
    obtain ⟨y, rfl, hy⟩ := hv
    have eH3 := (eH2).trans hE
    have hx1 := hx1.mv (hE.mv A)
    have fx1 := fx1.mv (hE.mv A)
    have hh := hh.ex hE
    obtain ⟨n0, d0, o0, fx0⟩ := id hy
    have b0 := sm_nat fx0 (sel_sm hsu g0)
    refine pb_blk B.hx B.hb (lv' := [(5, .ref y), (4, .ref x1), (0, .ref q), (1, .int f0), (2, .int g0), (3, .int k0)]) (st' := [.int k0]) hl bkX5_at_35_38 rfl (fun ls hl => ?_)
    refine lv_if_ne (tgt := 49) B.hx B.hb dX5_at_38 (by decide) (fun h9 => ?_) (fun h9 => ?_)
    · exact absurd h1 h9
    · refine pb_blk B.hx B.hb (lv' := [(5, .ref y), (4, .ref x1), (0, .ref q), (1, .int f0), (2, .int g0), (3, .int k0)]) (st' := [.ref y]) hl bkX5_at_41_43 rfl (fun ls hl => ?_)
      refine z_get B ciX1 0 (by decide) o0 wd_F_X5_90 rfl dX5_at_43 ?_
      refine pb_blk B.hx B.hb (lv' := [(5, .ref y), (4, .ref x1), (0, .ref q), (1, .int f0), (2, .int g0), (3, .int k0)]) (st' := [.int (n0).toInt32]) hl bkX5_at_46_55 rfl (fun ls hl => ?_)
      exact x_iret B dX5_at_55 ((eH3).mv _) ⟨_, rfl, Or.inr ⟨i, hi, ei, Or.inr ⟨u, ti, Or.inr ⟨rfl, Or.inl ⟨h1, by rw [l2i_sm (by omega)]; exact fx0.1⟩⟩⟩⟩⟩ (fun _ h => nomatch h) (Nat.le_of_ble_eq_true rfl) (Nat.le_of_ble_eq_true rfl)
  · refine pb_blk B.hx B.hb (lv' := [(4, .ref x1), (0, .ref q), (1, .int f0), (2, .int g0), (3, .int k0)]) (st' := [.int 1, .int k0]) hl bkX5_at_14_16 rfl (fun ls hl => ?_)
    refine lv_icmp_eq (tgt := 29) B.hx B.hb dX5_at_16 (by decide) (fun h2 => ?_) (fun h2 => ?_)
    · obtain ⟨fs1, ho1⟩ := fx1.ob
      refine pb_blk B.hx B.hb (lv' := [(4, .ref x1), (0, .ref q), (1, .int f0), (2, .int g0), (3, .int k0)]) (st' := [.int g0, .ref x1]) hl bkX5_at_29_32 rfl (fun ls hl => ?_)
      refine z_callV B (c_X0_fractionA l G A x1 g0 u) cy_X0_fraction im_X0_fraction se_X0_fraction wd_M_X5_141 rfl ho1 (hA_up hA (eH2).1) fx1 rfl hl.1 rfl (Nat.le_of_ble_eq_true rfl) ⟨by decide, by decide⟩ ⟨by decide, by decide⟩ dX5_at_32 (fun v H3 hE hv => ?_)
      obtain ⟨y, rfl, hy⟩ := hv
      have eH3 := (eH2).trans hE
      have hx1 := hx1.mv (hE.mv A)
      have fx1 := fx1.mv (hE.mv A)
      have hh := hh.ex hE
      obtain ⟨n0, d0, o0, fx0⟩ := id hy
      have b0 := sm_nat fx0 (sel_sm hsu g0)
      refine pb_blk B.hx B.hb (lv' := [(5, .ref y), (4, .ref x1), (0, .ref q), (1, .int f0), (2, .int g0), (3, .int k0)]) (st' := [.int k0]) hl bkX5_at_35_38 rfl (fun ls hl => ?_)
      refine lv_if_ne (tgt := 49) B.hx B.hb dX5_at_38 (by decide) (fun h9 => ?_) (fun h9 => ?_)
      · refine pb_blk B.hx B.hb (lv' := [(5, .ref y), (4, .ref x1), (0, .ref q), (1, .int f0), (2, .int g0), (3, .int k0)]) (st' := [.ref y]) hl bkX5_at_49_51 rfl (fun ls hl => ?_)
        refine z_get B ciX1 1 (by decide) o0 wd_F_X5_96 rfl dX5_at_51 ?_
        refine pb_blk B.hx B.hb (lv' := [(5, .ref y), (4, .ref x1), (0, .ref q), (1, .int f0), (2, .int g0), (3, .int k0)]) (st' := [.int (d0).toInt32]) hl bkX5_at_54_55 rfl (fun ls hl => ?_)
        exact x_iret B dX5_at_55 ((eH3).mv _) ⟨_, rfl, Or.inr ⟨i, hi, ei, Or.inr ⟨u, ti, Or.inr ⟨rfl, Or.inr ⟨h2, by rw [l2i_sm (by omega)]; exact fx0.2⟩⟩⟩⟩⟩ (fun _ h => nomatch h) (Nat.le_of_ble_eq_true rfl) (Nat.le_of_ble_eq_true rfl)
      · exact absurd h9 h1
    · exact x_throw B hst hT htb ts_X5_139 (eH2) hl.1 dX5_at_19 dX5_at_22 dX5_at_23 dX5_at_25 dX5_at_28 ⟨by decide, by decide⟩ ⟨by decide, by decide⟩ (⟨2, by decide, fun t => Or.inr ⟨i, hi, ei, Or.inr ⟨u, ti, Or.inl ⟨rfl, fun h9 => h9.elim h1 h2⟩⟩⟩⟩) ⟨by decide, by decide⟩

def po_X5_pieces (G : Gm) (A : Nat → Prop) (q ta N : Nat) (th : Nat → Th) (as : St3) (f0 : Int32) : Option Value → Heap → Prop := fun v H => ∃ r, v = some (.int r) ∧ R_pieces N th f0 0 r
def px_X5_pieces (q ta N : Nat) (th : Nat → Th) (as : St3) (f0 : Int32) : String → Prop := fun E => ∃ c, (E, c) ∈ X12 ∧ ∀ r, R_pieces N th f0 c r
theorem bkX5_pieces_0_2 : pb_chk cX5_pieces 0 [.aload_n 0, .iload_n 1] = some 2 := by decide +kernel
theorem dX5_pieces_2 : decode cX5_pieces 2 = .ok (.invokevirtual 59, 3) := by decide +kernel
theorem dX5_pieces_5 : decode cX5_pieces 5 = .ok (.invokestatic 120, 3) := by decide +kernel
theorem dX5_pieces_8 : decode cX5_pieces 8 = .ok (.invokevirtual 145, 3) := by decide +kernel
theorem dX5_pieces_11 : decode cX5_pieces 11 = .ok (.ireturn, 1) := by decide +kernel
set_option maxHeartbeats 4000000 in
set_option maxRecDepth 100000 in
theorem c_X5_pieces (l : Launch) (hst : l.stackTraces = false) (G : Gm) (A : Nat → Prop) (q ta N : Nat) (th : Nat → Th) (as : St3) (f0 : Int32) (hB : Bds N th as) : Mx l yX5_pieces cX5_pieces 2 (some .int) (⟨8, 300, 10000, 160⟩ : Room) G A (fun _ => False) [.ref q, .int f0] (fun H => House G A H q ta N th as) (po_X5_pieces G A q ta N th as f0) (px_X5_pieces q ta N th as f0) := by
  refine of_metX (by decide) (Nat.le_of_ble_eq_true rfl) ?_
  intro p e s m below meth c ls B hT htb hA hh hl
  obtain ⟨fs9, ho⟩ := hh.ob
  refine pb_blk B.hx B.hb (lv' := [(0, .ref q), (1, .int f0)]) (st' := [.int f0, .ref q]) hl bkX5_pieces_0_2 rfl (fun ls hl => ?_)
  refine x_callV0 B hT htb (c_X5_found l hst G A q ta N th as f0) cy_X5_found im_X5_found se_X5_found wd_M_X5_59 rfl ho (hA_up hA (Ex.rf).1) hh (Ex.rf) rfl hl.1 rfl (Nat.le_of_ble_eq_true rfl) ⟨by decide, by decide⟩ ⟨by decide, by decide⟩ dX5_pieces_2 (fun _ h => nomatch h) ⟨by decide, by decide⟩ (fun E h => ⟨1, by rw [h.1]; decide, fun t => Or.inl ⟨rfl, h.2⟩⟩) (fun v H1 hE hv => ?_)
  obtain ⟨i, x1, hi, ei, rfl, hx1⟩ := hv
  have eH1 := (Ex.rf).trans hE
  have hh := hh.ex hE
  refine x_callS0 B hT htb (c_X5_asSet l hst G A x1 (th i)) cy_X5_asSet st_X5_asSet wd_M_X5_120 (hA_up hA (eH1).1) hx1 (eH1) rfl hl.1 rfl (Nat.le_of_ble_eq_true rfl) ⟨by decide, by decide⟩ ⟨by decide, by decide⟩ dX5_pieces_5 (fun _ h => nomatch h) ⟨by decide, by decide⟩ (fun E h => ⟨2, by rw [h.1]; decide, fun t => Or.inr ⟨i, hi, ei, Or.inl ⟨rfl, h.2⟩⟩⟩) (fun v H2 hE hv => ?_)
  obtain ⟨rfl, sa, ti⟩ := hv
  have eH2 := (eH1).trans hE
  have hx1 := hx1.mv (hE.mv A)
  have hh := hh.ex hE
  have fx1 : Ls G A H2 x1 sa.1 sa.2.1 sa.2.2 := by rw [ti] at hx1; exact hx1
  obtain ⟨ba1, ba2⟩ := hB.2.1 i hi sa ti
  obtain ⟨fs1, ho1⟩ := fx1.ob
  refine n_callV B (c_X2_pieceCount l G A x1 sa.1 sa.2.1 sa.2.2 (by omega)) cy_X2_pieceCount im_X2_pieceCount se_X2_pieceCount wd_M_X5_145 rfl ho1 fx1 rfl hl.1 rfl (Nat.le_of_ble_eq_true rfl) ⟨by decide, by decide⟩ ⟨by decide, by decide⟩ dX5_pieces_8 (fun v hv => ?_)
  rw [po_X2_pieceCount] at hv
  subst hv
  exact x_iret B dX5_pieces_11 ((eH2).mv _) ⟨_, rfl, Or.inr ⟨i, hi, ei, Or.inr ⟨sa, ti, rfl, rfl⟩⟩⟩ (fun _ h => nomatch h) (Nat.le_of_ble_eq_true rfl) (Nat.le_of_ble_eq_true rfl)

theorem part_neg {k : Int32} (h : k < 0) : ¬ (k = 0 ∨ k = 1 ∨ k = 2) := fun h9 => by
  rcases h9 with rfl | rfl | rfl <;> exact absurd h (by decide)
theorem part_big {k : Int32} (h : ¬ k ≤ 2) : ¬ (k = 0 ∨ k = 1 ∨ k = 2) := fun h9 => by
  rcases h9 with rfl | rfl | rfl <;> exact h (by decide)
theorem part_ok {k : Int32} (h : ¬ k < 0) (h2 : k ≤ 2) : k = 0 ∨ k = 1 ∨ k = 2 := by
  obtain ⟨j, hj, rfl⟩ := nI_of2 (M := 2) (n := 2) rfl h h2
  rcases (show j = 0 ∨ j = 1 ∨ j = 2 by omega) with rfl | rfl | rfl
  · exact Or.inl rfl
  · exact Or.inr (Or.inl rfl)
  · exact Or.inr (Or.inr rfl)
theorem enR_sm {z : St3} {d : Nat} {sd : Int32} (h : ∀ k, k < z.1 → Sm (z.2.1 k)) (hd : d < 2 * z.1 + 1) (hz : z.1 < 2 ^ 18) : Sm (enR z d sd) := by
  unfold enR
  split
  · exact Sm.zero
  · next h1 =>
    obtain ⟨e1, e2, e3⟩ := epl_pos (by omega) h1
    refine h _ ?_
    unfold eplN
    split
    · next h2 => have := e2 h2; omega
    · next h2 => exact e3 h2

def po_X5_end (G : Gm) (A : Nat → Prop) (q ta N : Nat) (th : Nat → Th) (as : St3) (f0 k0 sd k2 : Int32) : Option Value → Heap → Prop := fun v H => ∃ r, v = some (.int r) ∧ R_end N th f0 k0 sd k2 0 r
def px_X5_end (q ta N : Nat) (th : Nat → Th) (as : St3) (f0 k0 sd k2 : Int32) : String → Prop := fun E => ∃ c, (E, c) ∈ X12 ∧ ∀ r, R_end N th f0 k0 sd k2 c r
theorem bkX5_end_0_2 : pb_chk cX5_end 0 [.aload_n 0, .iload_n 1] = some 2 := by decide +kernel
theorem dX5_end_2 : decode cX5_end 2 = .ok (.invokevirtual 59, 3) := by decide +kernel
theorem dX5_end_5 : decode cX5_end 5 = .ok (.invokestatic 120, 3) := by decide +kernel
theorem bkX5_end_8_13 : pb_chk cX5_end 8 [.astore 5, .aload 5, .iload_n 2] = some 13 := by decide +kernel
theorem dX5_end_13 : decode cX5_end 13 = .ok (.invokevirtual 148, 3) := by decide +kernel
theorem bkX5_end_16_20 : pb_chk cX5_end 16 [.istore 6, .iload 6] = some 20 := by decide +kernel
theorem dX5_end_20 : decode cX5_end 20 = .ok (.ifCond .ge 13, 3) := by decide +kernel
theorem bkX5_end_33_34 : pb_chk cX5_end 33 [.iload_n 3] = some 34 := by decide +kernel
theorem dX5_end_34 : decode cX5_end 34 = .ok (.ifCond .eq 8, 3) := by decide +kernel
theorem bkX5_end_42_44 : pb_chk cX5_end 42 [.iload 4] = some 44 := by decide +kernel
theorem dX5_end_44 : decode cX5_end 44 = .ok (.ifCond .lt 9, 3) := by decide +kernel
theorem dX5_end_53 : decode cX5_end 53 = .ok (.new 105, 3) := by decide +kernel
theorem dX5_end_56 : decode cX5_end 56 = .ok (.dup, 1) := by decide +kernel
theorem dX5_end_57 : decode cX5_end 57 = .ok (.ldc 157, 2) := by decide +kernel
theorem dX5_end_59 : decode cX5_end 59 = .ok (.invokespecial 109, 3) := by decide +kernel
theorem dX5_end_62 : decode cX5_end 62 = .ok (.athrow, 1) := by decide +kernel
theorem bkX5_end_47_50 : pb_chk cX5_end 47 [.iload 4, .iconst 2] = some 50 := by decide +kernel
theorem dX5_end_50 : decode cX5_end 50 = .ok (.if_icmp .le 13, 3) := by decide +kernel
theorem bkX5_end_63_64 : pb_chk cX5_end 63 [.iload_n 3] = some 64 := by decide +kernel
theorem dX5_end_64 : decode cX5_end 64 = .ok (.ifCond .ne 8, 3) := by decide +kernel
theorem bkX5_end_67_79 : pb_chk cX5_end 67 [.iload 6, .goto 10] = some 79 := by decide +kernel
theorem bkX5_end_79_83 : pb_chk cX5_end 79 [.istore 7, .iload 4] = some 83 := by decide +kernel
theorem dX5_end_83 : decode cX5_end 83 = .ok (.ifCond .ne 12, 3) := by decide +kernel
theorem bkX5_end_95_100 : pb_chk cX5_end 95 [.aload 5, .iload 7, .iload_n 3] = some 100 := by decide +kernel
theorem dX5_end_100 : decode cX5_end 100 = .ok (.invokevirtual 166, 3) := by decide +kernel
theorem bkX5_end_103_108 : pb_chk cX5_end 103 [.astore 8, .iload 4, .iconst 1] = some 108 := by decide +kernel
theorem dX5_end_108 : decode cX5_end 108 = .ok (.if_icmp .ne 11, 3) := by decide +kernel
theorem bkX5_end_119_121 : pb_chk cX5_end 119 [.aload 8] = some 121 := by decide +kernel
theorem dX5_end_121 : decode cX5_end 121 = .ok (.getfield 96, 3) := by decide +kernel
theorem bkX5_end_124_125 : pb_chk cX5_end 124 [.l2i] = some 125 := by decide +kernel
theorem dX5_end_125 : decode cX5_end 125 = .ok (.ireturn, 1) := by decide +kernel
theorem bkX5_end_111_113 : pb_chk cX5_end 111 [.aload 8] = some 113 := by decide +kernel
theorem dX5_end_113 : decode cX5_end 113 = .ok (.getfield 90, 3) := by decide +kernel
theorem bkX5_end_116_125 : pb_chk cX5_end 116 [.goto 8, .l2i] = some 125 := by decide +kernel
theorem bkX5_end_86_91 : pb_chk cX5_end 86 [.aload 5, .iload 7, .iload_n 3] = some 91 := by decide +kernel
theorem dX5_end_91 : decode cX5_end 91 = .ok (.invokevirtual 162, 3) := by decide +kernel
theorem dX5_end_94 : decode cX5_end 94 = .ok (.ireturn, 1) := by decide +kernel
theorem bkX5_end_37_39 : pb_chk cX5_end 37 [.iload_n 3, .iconst 1] = some 39 := by decide +kernel
theorem dX5_end_39 : decode cX5_end 39 = .ok (.if_icmp .ne 14, 3) := by decide +kernel
theorem bkX5_end_72_76 : pb_chk cX5_end 72 [.aload 5, .iload 6] = some 76 := by decide +kernel
theorem dX5_end_76 : decode cX5_end 76 = .ok (.invokevirtual 159, 3) := by decide +kernel
theorem dX5_end_23 : decode cX5_end 23 = .ok (.new 152, 3) := by decide +kernel
theorem dX5_end_26 : decode cX5_end 26 = .ok (.dup, 1) := by decide +kernel
theorem dX5_end_27 : decode cX5_end 27 = .ok (.ldc 154, 2) := by decide +kernel
theorem dX5_end_29 : decode cX5_end 29 = .ok (.invokespecial 156, 3) := by decide +kernel
theorem dX5_end_32 : decode cX5_end 32 = .ok (.athrow, 1) := by decide +kernel
set_option maxHeartbeats 4000000 in
set_option maxRecDepth 100000 in
theorem c_X5_end (l : Launch) (hst : l.stackTraces = false) (G : Gm) (A : Nat → Prop) (q ta N : Nat) (th : Nat → Th) (as : St3) (f0 k0 sd k2 : Int32) (hB : Bds N th as) : Mx l yX5_end cX5_end 9 (some .int) (⟨8, 300, 10000, 160⟩ : Room) G A (fun _ => False) [.ref q, .int f0, .int k0, .int sd, .int k2] (fun H => House G A H q ta N th as) (po_X5_end G A q ta N th as f0 k0 sd k2) (px_X5_end q ta N th as f0 k0 sd k2) := by
  refine of_metX (by decide) (Nat.le_of_ble_eq_true rfl) ?_
  intro p e s m below meth c ls B hT htb hA hh hl
  obtain ⟨fs9, ho⟩ := hh.ob
  refine pb_blk B.hx B.hb (lv' := [(0, .ref q), (1, .int f0), (2, .int k0), (3, .int sd), (4, .int k2)]) (st' := [.int f0, .ref q]) hl bkX5_end_0_2 rfl (fun ls hl => ?_)
  refine x_callV0 B hT htb (c_X5_found l hst G A q ta N th as f0) cy_X5_found im_X5_found se_X5_found wd_M_X5_59 rfl ho (hA_up hA (Ex.rf).1) hh (Ex.rf) rfl hl.1 rfl (Nat.le_of_ble_eq_true rfl) ⟨by decide, by decide⟩ ⟨by decide, by decide⟩ dX5_end_2 (fun _ h => nomatch h) ⟨by decide, by decide⟩ (fun E h => ⟨1, by rw [h.1]; decide, fun t => Or.inl ⟨rfl, h.2⟩⟩) (fun v H1 hE hv => ?_)
  obtain ⟨i, x1, hi, ei, rfl, hx1⟩ := hv
  have eH1 := (Ex.rf).trans hE
  have hh := hh.ex hE
  refine x_callS0 B hT htb (c_X5_asSet l hst G A x1 (th i)) cy_X5_asSet st_X5_asSet wd_M_X5_120 (hA_up hA (eH1).1) hx1 (eH1) rfl hl.1 rfl (Nat.le_of_ble_eq_true rfl) ⟨by decide, by decide⟩ ⟨by decide, by decide⟩ dX5_end_5 (fun _ h => nomatch h) ⟨by decide, by decide⟩ (fun E h => ⟨2, by rw [h.1]; decide, fun t => Or.inr ⟨i, hi, ei, Or.inl ⟨rfl, h.2⟩⟩⟩) (fun v H2 hE hv => ?_)
  obtain ⟨rfl, sa, ti⟩ := hv
  have eH2 := (eH1).trans hE
  have hx1 := hx1.mv (hE.mv A)
  have hh := hh.ex hE
  have fx1 : Ls G A H2 x1 sa.1 sa.2.1 sa.2.2 := by rw [ti] at hx1; exact hx1
  obtain ⟨ba1, ba2⟩ := hB.2.1 i hi sa ti
  obtain ⟨fs1, ho1⟩ := fx1.ob
  refine pb_blk B.hx B.hb (lv' := [(5, .ref x1), (0, .ref q), (1, .int f0), (2, .int k0), (3, .int sd), (4, .int k2)]) (st' := [.int k0, .ref x1]) hl bkX5_end_8_13 rfl (fun ls hl => ?_)
  refine n_callV B (c_X2_firstCell l G A x1 sa.1 k0 sa.2.1 sa.2.2 (by omega)) cy_X2_firstCell im_X2_firstCell se_X2_firstCell wd_M_X5_148 rfl ho1 fx1 rfl hl.1 rfl (Nat.le_of_ble_eq_true rfl) ⟨by decide, by decide⟩ ⟨by decide, by decide⟩ dX5_end_13 (fun v hv => ?_)
  obtain ⟨rr, rfl, hrr⟩ := hv
  refine pb_blk B.hx B.hb (lv' := [(6, .int rr), (5, .ref x1), (0, .ref q), (1, .int f0), (2, .int k0), (3, .int sd), (4, .int k2)]) (st' := [.int rr]) hl bkX5_end_16_20 rfl (fun ls hl => ?_)
  rcases hrr with ⟨c0, hc0, hsp, hkk, rfl⟩ | ⟨hno, rfl⟩
  · refine lv_if_ge (tgt := 33) B.hx B.hb dX5_end_20 (by decide) (fun _ => ?_) (fun h => absurd (nI_pos' (by omega)) h)
    refine pb_blk B.hx B.hb (lv' := [(6, .int (nI c0)), (5, .ref x1), (0, .ref q), (1, .int f0), (2, .int k0), (3, .int sd), (4, .int k2)]) (st' := [.int sd]) hl bkX5_end_33_34 rfl (fun ls hl => ?_)
    refine lv_if_eq (tgt := 42) B.hx B.hb dX5_end_34 (by decide) (fun h1 => ?_) (fun h1 => ?_)
    · have hside : sd = 0 ∨ sd = 1 := Or.inl h1
      refine pb_blk B.hx B.hb (lv' := [(6, .int (nI c0)), (5, .ref x1), (0, .ref q), (1, .int f0), (2, .int k0), (3, .int sd), (4, .int k2)]) (st' := [.int k2]) hl bkX5_end_42_44 rfl (fun ls hl => ?_)
      refine lv_if_lt (tgt := 53) B.hx B.hb dX5_end_44 (by decide) (fun h3 => ?_) (fun h3 => ?_)
      · exact x_throw B hst hT htb ts_X5_157 (eH2) hl.1 dX5_end_53 dX5_end_56 dX5_end_57 dX5_end_59 dX5_end_62 ⟨by decide, by decide⟩ ⟨by decide, by decide⟩ (⟨2, by decide, fun t => Or.inr ⟨i, hi, ei, Or.inr ⟨sa, ti, Or.inr ⟨c0, hc0, hsp, hkk, Or.inl ⟨rfl, fun h9 => part_neg h3 h9.2⟩⟩⟩⟩⟩) ⟨by decide, by decide⟩
      · refine pb_blk B.hx B.hb (lv' := [(6, .int (nI c0)), (5, .ref x1), (0, .ref q), (1, .int f0), (2, .int k0), (3, .int sd), (4, .int k2)]) (st' := [.int 2, .int k2]) hl bkX5_end_47_50 rfl (fun ls hl => ?_)
        refine lv_icmp_le (tgt := 63) B.hx B.hb dX5_end_50 (by decide) (fun h4 => ?_) (fun h4 => ?_)
        · have hpart := part_ok h3 h4
          refine pb_blk B.hx B.hb (lv' := [(6, .int (nI c0)), (5, .ref x1), (0, .ref q), (1, .int f0), (2, .int k0), (3, .int sd), (4, .int k2)]) (st' := [.int sd]) hl bkX5_end_63_64 rfl (fun ls hl => ?_)
          refine lv_if_ne (tgt := 72) B.hx B.hb dX5_end_64 (by decide) (fun h5 => ?_) (fun h5 => ?_)
          · exact absurd h1 h5
          · have hdd := hc0
            refine pb_blk B.hx B.hb (lv' := [(6, .int (nI c0)), (5, .ref x1), (0, .ref q), (1, .int f0), (2, .int k0), (3, .int sd), (4, .int k2)]) (st' := [.int (nI c0)]) hl bkX5_end_67_79 rfl (fun ls hl => ?_)
            refine pb_blk B.hx B.hb (lv' := [(7, .int (nI c0)), (6, .int (nI c0)), (5, .ref x1), (0, .ref q), (1, .int f0), (2, .int k0), (3, .int sd), (4, .int k2)]) (st' := [.int k2]) hl bkX5_end_79_83 rfl (fun ls hl => ?_)
            refine lv_if_ne (tgt := 95) B.hx B.hb dX5_end_83 (by decide) (fun h8 => ?_) (fun h8 => ?_)
            · obtain ⟨fs1, ho1⟩ := fx1.ob
              refine pb_blk B.hx B.hb (lv' := [(7, .int (nI c0)), (6, .int (nI c0)), (5, .ref x1), (0, .ref q), (1, .int f0), (2, .int k0), (3, .int sd), (4, .int k2)]) (st' := [.int sd, .int (nI c0), .ref x1]) hl bkX5_end_95_100 rfl (fun ls hl => ?_)
              refine z_callV B (c_X2_endFraction l G A x1 sa.1 c0 sd sa.2.1 sa.2.2 (by omega) hdd) cy_X2_endFraction im_X2_endFraction se_X2_endFraction wd_M_X5_166 rfl ho1 (hA_up hA (eH2).1) fx1 rfl hl.1 rfl (Nat.le_of_ble_eq_true rfl) ⟨by decide, by decide⟩ ⟨by decide, by decide⟩ dX5_end_100 (fun v H3 hE hv => ?_)
              obtain ⟨y, rfl, hy⟩ := hv
              have eH3 := (eH2).trans hE
              have hx1 := hx1.mv (hE.mv A)
              have fx1 := fx1.mv (hE.mv A)
              have hh := hh.ex hE
              have hy : Fr G A H3 y (enR sa c0 sd) := hy
              obtain ⟨n0, d0, o0, fx0⟩ := id hy
              have b0 := sm_nat fx0 (enR_sm ba2 hdd (by omega))
              refine pb_blk B.hx B.hb (lv' := [(8, .ref y), (7, .int (nI c0)), (6, .int (nI c0)), (5, .ref x1), (0, .ref q), (1, .int f0), (2, .int k0), (3, .int sd), (4, .int k2)]) (st' := [.int 1, .int k2]) hl bkX5_end_103_108 rfl (fun ls hl => ?_)
              refine lv_icmp_ne (tgt := 119) B.hx B.hb dX5_end_108 (by decide) (fun h9 => ?_) (fun h9 => ?_)
              · have hp2 : k2 = 2 := hpart.elim (fun q => absurd q h8) (fun q => q.elim (fun q => absurd q h9) id)
                refine pb_blk B.hx B.hb (lv' := [(8, .ref y), (7, .int (nI c0)), (6, .int (nI c0)), (5, .ref x1), (0, .ref q), (1, .int f0), (2, .int k0), (3, .int sd), (4, .int k2)]) (st' := [.ref y]) hl bkX5_end_119_121 rfl (fun ls hl => ?_)
                refine z_get B ciX1 1 (by decide) o0 wd_F_X5_96 rfl dX5_end_121 ?_
                refine pb_blk B.hx B.hb (lv' := [(8, .ref y), (7, .int (nI c0)), (6, .int (nI c0)), (5, .ref x1), (0, .ref q), (1, .int f0), (2, .int k0), (3, .int sd), (4, .int k2)]) (st' := [.int (d0).toInt32]) hl bkX5_end_124_125 rfl (fun ls hl => ?_)
                exact x_iret B dX5_end_125 ((eH3).mv _) ⟨_, rfl, Or.inr ⟨i, hi, ei, Or.inr ⟨sa, ti, Or.inr ⟨c0, hc0, hsp, hkk, Or.inr ⟨⟨hside, hpart⟩, rfl, c0, Or.inl ⟨h1, rfl⟩, Or.inr (Or.inr ⟨hp2, by rw [l2i_sm (by omega)]; exact fx0.2⟩)⟩⟩⟩⟩⟩ (fun _ h => nomatch h) (Nat.le_of_ble_eq_true rfl) (Nat.le_of_ble_eq_true rfl)
              · refine pb_blk B.hx B.hb (lv' := [(8, .ref y), (7, .int (nI c0)), (6, .int (nI c0)), (5, .ref x1), (0, .ref q), (1, .int f0), (2, .int k0), (3, .int sd), (4, .int k2)]) (st' := [.ref y]) hl bkX5_end_111_113 rfl (fun ls hl => ?_)
                refine z_get B ciX1 0 (by decide) o0 wd_F_X5_90 rfl dX5_end_113 ?_
                refine pb_blk B.hx B.hb (lv' := [(8, .ref y), (7, .int (nI c0)), (6, .int (nI c0)), (5, .ref x1), (0, .ref q), (1, .int f0), (2, .int k0), (3, .int sd), (4, .int k2)]) (st' := [.int (n0).toInt32]) hl bkX5_end_116_125 rfl (fun ls hl => ?_)
                exact x_iret B dX5_end_125 ((eH3).mv _) ⟨_, rfl, Or.inr ⟨i, hi, ei, Or.inr ⟨sa, ti, Or.inr ⟨c0, hc0, hsp, hkk, Or.inr ⟨⟨hside, hpart⟩, rfl, c0, Or.inl ⟨h1, rfl⟩, Or.inr (Or.inl ⟨h9, by rw [l2i_sm (by omega)]; exact fx0.1⟩)⟩⟩⟩⟩⟩ (fun _ h => nomatch h) (Nat.le_of_ble_eq_true rfl) (Nat.le_of_ble_eq_true rfl)
            · obtain ⟨fs1, ho1⟩ := fx1.ob
              refine pb_blk B.hx B.hb (lv' := [(7, .int (nI c0)), (6, .int (nI c0)), (5, .ref x1), (0, .ref q), (1, .int f0), (2, .int k0), (3, .int sd), (4, .int k2)]) (st' := [.int sd, .int (nI c0), .ref x1]) hl bkX5_end_86_91 rfl (fun ls hl => ?_)
              refine n_callV B (c_X2_endForm l G A x1 sa.1 c0 sd sa.2.1 sa.2.2 (by omega) hdd) cy_X2_endForm im_X2_endForm se_X2_endForm wd_M_X5_162 rfl ho1 fx1 rfl hl.1 rfl (Nat.le_of_ble_eq_true rfl) ⟨by decide, by decide⟩ ⟨by decide, by decide⟩ dX5_end_91 (fun v hv => ?_)
              rw [po_X2_endForm] at hv
              subst hv
              exact x_iret B dX5_end_94 ((eH2).mv _) ⟨_, rfl, Or.inr ⟨i, hi, ei, Or.inr ⟨sa, ti, Or.inr ⟨c0, hc0, hsp, hkk, Or.inr ⟨⟨hside, hpart⟩, rfl, c0, Or.inl ⟨h1, rfl⟩, Or.inl ⟨h8, rfl⟩⟩⟩⟩⟩⟩ (fun _ h => nomatch h) (Nat.le_of_ble_eq_true rfl) (Nat.le_of_ble_eq_true rfl)
        · exact x_throw B hst hT htb ts_X5_157 (eH2) hl.1 dX5_end_53 dX5_end_56 dX5_end_57 dX5_end_59 dX5_end_62 ⟨by decide, by decide⟩ ⟨by decide, by decide⟩ (⟨2, by decide, fun t => Or.inr ⟨i, hi, ei, Or.inr ⟨sa, ti, Or.inr ⟨c0, hc0, hsp, hkk, Or.inl ⟨rfl, fun h9 => part_big h4 h9.2⟩⟩⟩⟩⟩) ⟨by decide, by decide⟩
    · refine pb_blk B.hx B.hb (lv' := [(6, .int (nI c0)), (5, .ref x1), (0, .ref q), (1, .int f0), (2, .int k0), (3, .int sd), (4, .int k2)]) (st' := [.int 1, .int sd]) hl bkX5_end_37_39 rfl (fun ls hl => ?_)
      refine lv_icmp_ne (tgt := 53) B.hx B.hb dX5_end_39 (by decide) (fun h2 => ?_) (fun h2 => ?_)
      · exact x_throw B hst hT htb ts_X5_157 (eH2) hl.1 dX5_end_53 dX5_end_56 dX5_end_57 dX5_end_59 dX5_end_62 ⟨by decide, by decide⟩ ⟨by decide, by decide⟩ (⟨2, by decide, fun t => Or.inr ⟨i, hi, ei, Or.inr ⟨sa, ti, Or.inr ⟨c0, hc0, hsp, hkk, Or.inl ⟨rfl, fun h9 => h9.1.elim h1 h2⟩⟩⟩⟩⟩) ⟨by decide, by decide⟩
      · have hside : sd = 0 ∨ sd = 1 := Or.inr h2
        refine pb_blk B.hx B.hb (lv' := [(6, .int (nI c0)), (5, .ref x1), (0, .ref q), (1, .int f0), (2, .int k0), (3, .int sd), (4, .int k2)]) (st' := [.int k2]) hl bkX5_end_42_44 rfl (fun ls hl => ?_)
        refine lv_if_lt (tgt := 53) B.hx B.hb dX5_end_44 (by decide) (fun h3 => ?_) (fun h3 => ?_)
        · exact x_throw B hst hT htb ts_X5_157 (eH2) hl.1 dX5_end_53 dX5_end_56 dX5_end_57 dX5_end_59 dX5_end_62 ⟨by decide, by decide⟩ ⟨by decide, by decide⟩ (⟨2, by decide, fun t => Or.inr ⟨i, hi, ei, Or.inr ⟨sa, ti, Or.inr ⟨c0, hc0, hsp, hkk, Or.inl ⟨rfl, fun h9 => part_neg h3 h9.2⟩⟩⟩⟩⟩) ⟨by decide, by decide⟩
        · refine pb_blk B.hx B.hb (lv' := [(6, .int (nI c0)), (5, .ref x1), (0, .ref q), (1, .int f0), (2, .int k0), (3, .int sd), (4, .int k2)]) (st' := [.int 2, .int k2]) hl bkX5_end_47_50 rfl (fun ls hl => ?_)
          refine lv_icmp_le (tgt := 63) B.hx B.hb dX5_end_50 (by decide) (fun h4 => ?_) (fun h4 => ?_)
          · have hpart := part_ok h3 h4
            refine pb_blk B.hx B.hb (lv' := [(6, .int (nI c0)), (5, .ref x1), (0, .ref q), (1, .int f0), (2, .int k0), (3, .int sd), (4, .int k2)]) (st' := [.int sd]) hl bkX5_end_63_64 rfl (fun ls hl => ?_)
            refine lv_if_ne (tgt := 72) B.hx B.hb dX5_end_64 (by decide) (fun h5 => ?_) (fun h5 => ?_)
            · have hs1 : sd = 1 := h2
              obtain ⟨fs1, ho1⟩ := fx1.ob
              refine pb_blk B.hx B.hb (lv' := [(6, .int (nI c0)), (5, .ref x1), (0, .ref q), (1, .int f0), (2, .int k0), (3, .int sd), (4, .int k2)]) (st' := [.int (nI c0), .ref x1]) hl bkX5_end_72_76 rfl (fun ls hl => ?_)
              refine n_callV B (c_X2_lastCell l G A x1 sa.1 c0 sa.2.1 sa.2.2 (by omega) hc0) cy_X2_lastCell im_X2_lastCell se_X2_lastCell wd_M_X5_159 rfl ho1 fx1 rfl hl.1 rfl (Nat.le_of_ble_eq_true rfl) ⟨by decide, by decide⟩ ⟨by decide, by decide⟩ dX5_end_76 (fun v hv => ?_)
              obtain ⟨d, hd1, hdd, hd3, hd4, rfl⟩ := hv
              refine pb_blk B.hx B.hb (lv' := [(7, .int (nI d)), (6, .int (nI c0)), (5, .ref x1), (0, .ref q), (1, .int f0), (2, .int k0), (3, .int sd), (4, .int k2)]) (st' := [.int k2]) hl bkX5_end_79_83 rfl (fun ls hl => ?_)
              refine lv_if_ne (tgt := 95) B.hx B.hb dX5_end_83 (by decide) (fun h8 => ?_) (fun h8 => ?_)
              · obtain ⟨fs1, ho1⟩ := fx1.ob
                refine pb_blk B.hx B.hb (lv' := [(7, .int (nI d)), (6, .int (nI c0)), (5, .ref x1), (0, .ref q), (1, .int f0), (2, .int k0), (3, .int sd), (4, .int k2)]) (st' := [.int sd, .int (nI d), .ref x1]) hl bkX5_end_95_100 rfl (fun ls hl => ?_)
                refine z_callV B (c_X2_endFraction l G A x1 sa.1 d sd sa.2.1 sa.2.2 (by omega) hdd) cy_X2_endFraction im_X2_endFraction se_X2_endFraction wd_M_X5_166 rfl ho1 (hA_up hA (eH2).1) fx1 rfl hl.1 rfl (Nat.le_of_ble_eq_true rfl) ⟨by decide, by decide⟩ ⟨by decide, by decide⟩ dX5_end_100 (fun v H3 hE hv => ?_)
                obtain ⟨y, rfl, hy⟩ := hv
                have eH3 := (eH2).trans hE
                have hx1 := hx1.mv (hE.mv A)
                have fx1 := fx1.mv (hE.mv A)
                have hh := hh.ex hE
                have hy : Fr G A H3 y (enR sa d sd) := hy
                obtain ⟨n0, d0, o0, fx0⟩ := id hy
                have b0 := sm_nat fx0 (enR_sm ba2 hdd (by omega))
                refine pb_blk B.hx B.hb (lv' := [(8, .ref y), (7, .int (nI d)), (6, .int (nI c0)), (5, .ref x1), (0, .ref q), (1, .int f0), (2, .int k0), (3, .int sd), (4, .int k2)]) (st' := [.int 1, .int k2]) hl bkX5_end_103_108 rfl (fun ls hl => ?_)
                refine lv_icmp_ne (tgt := 119) B.hx B.hb dX5_end_108 (by decide) (fun h9 => ?_) (fun h9 => ?_)
                · have hp2 : k2 = 2 := hpart.elim (fun q => absurd q h8) (fun q => q.elim (fun q => absurd q h9) id)
                  refine pb_blk B.hx B.hb (lv' := [(8, .ref y), (7, .int (nI d)), (6, .int (nI c0)), (5, .ref x1), (0, .ref q), (1, .int f0), (2, .int k0), (3, .int sd), (4, .int k2)]) (st' := [.ref y]) hl bkX5_end_119_121 rfl (fun ls hl => ?_)
                  refine z_get B ciX1 1 (by decide) o0 wd_F_X5_96 rfl dX5_end_121 ?_
                  refine pb_blk B.hx B.hb (lv' := [(8, .ref y), (7, .int (nI d)), (6, .int (nI c0)), (5, .ref x1), (0, .ref q), (1, .int f0), (2, .int k0), (3, .int sd), (4, .int k2)]) (st' := [.int (d0).toInt32]) hl bkX5_end_124_125 rfl (fun ls hl => ?_)
                  exact x_iret B dX5_end_125 ((eH3).mv _) ⟨_, rfl, Or.inr ⟨i, hi, ei, Or.inr ⟨sa, ti, Or.inr ⟨c0, hc0, hsp, hkk, Or.inr ⟨⟨hside, hpart⟩, rfl, d, Or.inr ⟨hs1, hd1, hdd, hd3, hd4⟩, Or.inr (Or.inr ⟨hp2, by rw [l2i_sm (by omega)]; exact fx0.2⟩)⟩⟩⟩⟩⟩ (fun _ h => nomatch h) (Nat.le_of_ble_eq_true rfl) (Nat.le_of_ble_eq_true rfl)
                · refine pb_blk B.hx B.hb (lv' := [(8, .ref y), (7, .int (nI d)), (6, .int (nI c0)), (5, .ref x1), (0, .ref q), (1, .int f0), (2, .int k0), (3, .int sd), (4, .int k2)]) (st' := [.ref y]) hl bkX5_end_111_113 rfl (fun ls hl => ?_)
                  refine z_get B ciX1 0 (by decide) o0 wd_F_X5_90 rfl dX5_end_113 ?_
                  refine pb_blk B.hx B.hb (lv' := [(8, .ref y), (7, .int (nI d)), (6, .int (nI c0)), (5, .ref x1), (0, .ref q), (1, .int f0), (2, .int k0), (3, .int sd), (4, .int k2)]) (st' := [.int (n0).toInt32]) hl bkX5_end_116_125 rfl (fun ls hl => ?_)
                  exact x_iret B dX5_end_125 ((eH3).mv _) ⟨_, rfl, Or.inr ⟨i, hi, ei, Or.inr ⟨sa, ti, Or.inr ⟨c0, hc0, hsp, hkk, Or.inr ⟨⟨hside, hpart⟩, rfl, d, Or.inr ⟨hs1, hd1, hdd, hd3, hd4⟩, Or.inr (Or.inl ⟨h9, by rw [l2i_sm (by omega)]; exact fx0.1⟩)⟩⟩⟩⟩⟩ (fun _ h => nomatch h) (Nat.le_of_ble_eq_true rfl) (Nat.le_of_ble_eq_true rfl)
              · obtain ⟨fs1, ho1⟩ := fx1.ob
                refine pb_blk B.hx B.hb (lv' := [(7, .int (nI d)), (6, .int (nI c0)), (5, .ref x1), (0, .ref q), (1, .int f0), (2, .int k0), (3, .int sd), (4, .int k2)]) (st' := [.int sd, .int (nI d), .ref x1]) hl bkX5_end_86_91 rfl (fun ls hl => ?_)
                refine n_callV B (c_X2_endForm l G A x1 sa.1 d sd sa.2.1 sa.2.2 (by omega) hdd) cy_X2_endForm im_X2_endForm se_X2_endForm wd_M_X5_162 rfl ho1 fx1 rfl hl.1 rfl (Nat.le_of_ble_eq_true rfl) ⟨by decide, by decide⟩ ⟨by decide, by decide⟩ dX5_end_91 (fun v hv => ?_)
                rw [po_X2_endForm] at hv
                subst hv
                exact x_iret B dX5_end_94 ((eH2).mv _) ⟨_, rfl, Or.inr ⟨i, hi, ei, Or.inr ⟨sa, ti, Or.inr ⟨c0, hc0, hsp, hkk, Or.inr ⟨⟨hside, hpart⟩, rfl, d, Or.inr ⟨hs1, hd1, hdd, hd3, hd4⟩, Or.inl ⟨h8, rfl⟩⟩⟩⟩⟩⟩ (fun _ h => nomatch h) (Nat.le_of_ble_eq_true rfl) (Nat.le_of_ble_eq_true rfl)
            · exact absurd h5 h1
          · exact x_throw B hst hT htb ts_X5_157 (eH2) hl.1 dX5_end_53 dX5_end_56 dX5_end_57 dX5_end_59 dX5_end_62 ⟨by decide, by decide⟩ ⟨by decide, by decide⟩ (⟨2, by decide, fun t => Or.inr ⟨i, hi, ei, Or.inr ⟨sa, ti, Or.inr ⟨c0, hc0, hsp, hkk, Or.inl ⟨rfl, fun h9 => part_big h4 h9.2⟩⟩⟩⟩⟩) ⟨by decide, by decide⟩
  · refine lv_if_ge (tgt := 33) B.hx B.hb dX5_end_20 (by decide) (fun h => absurd h (by decide)) (fun _ => ?_)
    exact x_throw B hst hT htb ts_X5_154 (eH2) hl.1 dX5_end_23 dX5_end_26 dX5_end_27 dX5_end_29 dX5_end_32 ⟨by decide, by decide⟩ ⟨by decide, by decide⟩ (⟨1, by decide, fun t => Or.inr ⟨i, hi, ei, Or.inr ⟨sa, ti, Or.inl ⟨rfl, hno⟩⟩⟩⟩) ⟨by decide, by decide⟩

def po_X5_holds (G : Gm) (A : Nat → Prop) (q ta N : Nat) (th : Nat → Th) (as : St3) (f0 g0 : Int32) : Option Value → Heap → Prop := fun v H => ∃ r, v = some (.int r) ∧ R_holds N th f0 g0 0 r
def px_X5_holds (q ta N : Nat) (th : Nat → Th) (as : St3) (f0 g0 : Int32) : String → Prop := fun E => ∃ c, (E, c) ∈ X12 ∧ ∀ r, R_holds N th f0 g0 c r
theorem bkX5_holds_0_2 : pb_chk cX5_holds 0 [.aload_n 0, .iload_n 1] = some 2 := by decide +kernel
theorem dX5_holds_2 : decode cX5_holds 2 = .ok (.invokevirtual 59, 3) := by decide +kernel
theorem bkX5_holds_5_8 : pb_chk cX5_holds 5 [.astore_n 3, .aload_n 0, .iload_n 2] = some 8 := by decide +kernel
theorem dX5_holds_8 : decode cX5_holds 8 = .ok (.invokevirtual 59, 3) := by decide +kernel
theorem bkX5_holds_11_14 : pb_chk cX5_holds 11 [.astore 4, .aload_n 3] = some 14 := by decide +kernel
theorem dX5_holds_14 : decode cX5_holds 14 = .ok (.invokestatic 120, 3) := by decide +kernel
theorem bkX5_holds_17_19 : pb_chk cX5_holds 17 [.aload 4] = some 19 := by decide +kernel
theorem dX5_holds_19 : decode cX5_holds 19 = .ok (.invokestatic 86, 3) := by decide +kernel
theorem dX5_holds_22 : decode cX5_holds 22 = .ok (.invokevirtual 170, 3) := by decide +kernel
theorem dX5_holds_25 : decode cX5_holds 25 = .ok (.ireturn, 1) := by decide +kernel
set_option maxHeartbeats 4000000 in
set_option maxRecDepth 100000 in
theorem c_X5_holds (l : Launch) (hst : l.stackTraces = false) (G : Gm) (A : Nat → Prop) (q ta N : Nat) (th : Nat → Th) (as : St3) (f0 g0 : Int32) (hB : Bds N th as) : Mx l yX5_holds cX5_holds 5 (some .boolean) (⟨8, 300, 10000, 160⟩ : Room) G A (fun _ => False) [.ref q, .int f0, .int g0] (fun H => House G A H q ta N th as) (po_X5_holds G A q ta N th as f0 g0) (px_X5_holds q ta N th as f0 g0) := by
  refine of_metX (by decide) (Nat.le_of_ble_eq_true rfl) ?_
  intro p e s m below meth c ls B hT htb hA hh hl
  obtain ⟨fs9, ho⟩ := hh.ob
  refine pb_blk B.hx B.hb (lv' := [(0, .ref q), (1, .int f0), (2, .int g0)]) (st' := [.int f0, .ref q]) hl bkX5_holds_0_2 rfl (fun ls hl => ?_)
  refine x_callV0 B hT htb (c_X5_found l hst G A q ta N th as f0) cy_X5_found im_X5_found se_X5_found wd_M_X5_59 rfl ho (hA_up hA (Ex.rf).1) hh (Ex.rf) rfl hl.1 rfl (Nat.le_of_ble_eq_true rfl) ⟨by decide, by decide⟩ ⟨by decide, by decide⟩ dX5_holds_2 (fun _ h => nomatch h) ⟨by decide, by decide⟩ (fun E h => ⟨1, by rw [h.1]; decide, fun t => Or.inl ⟨rfl, fun h9 => h.2 h9.1⟩⟩) (fun v H1 hE hv => ?_)
  obtain ⟨i, x1, hi, ei, rfl, hx1⟩ := hv
  have eH1 := (Ex.rf).trans hE
  have hh := hh.ex hE
  obtain ⟨fs9, ho⟩ := hh.ob
  refine pb_blk B.hx B.hb (lv' := [(3, .ref x1), (0, .ref q), (1, .int f0), (2, .int g0)]) (st' := [.int g0, .ref q]) hl bkX5_holds_5_8 rfl (fun ls hl => ?_)
  refine x_callV0 B hT htb (c_X5_found l hst G A q ta N th as g0) cy_X5_found im_X5_found se_X5_found wd_M_X5_59 rfl ho (hA_up hA (eH1).1) hh (eH1) rfl hl.1 rfl (Nat.le_of_ble_eq_true rfl) ⟨by decide, by decide⟩ ⟨by decide, by decide⟩ dX5_holds_8 (fun _ h => nomatch h) ⟨by decide, by decide⟩ (fun E h => ⟨1, by rw [h.1]; decide, fun t => Or.inl ⟨rfl, fun h9 => h.2 h9.2⟩⟩) (fun v H2 hE hv => ?_)
  obtain ⟨j, x2, hj, ej, rfl, hx2⟩ := hv
  have eH2 := (eH1).trans hE
  have hx1 := hx1.mv (hE.mv A)
  have hh := hh.ex hE
  refine pb_blk B.hx B.hb (lv' := [(4, .ref x2), (3, .ref x1), (0, .ref q), (1, .int f0), (2, .int g0)]) (st' := [.ref x1]) hl bkX5_holds_11_14 rfl (fun ls hl => ?_)
  refine x_callS0 B hT htb (c_X5_asSet l hst G A x1 (th i)) cy_X5_asSet st_X5_asSet wd_M_X5_120 (hA_up hA (eH2).1) hx1 (eH2) rfl hl.1 rfl (Nat.le_of_ble_eq_true rfl) ⟨by decide, by decide⟩ ⟨by decide, by decide⟩ dX5_holds_14 (fun _ h => nomatch h) ⟨by decide, by decide⟩ (fun E h => ⟨2, by rw [h.1]; decide, fun t => Or.inr ⟨i, j, hi, hj, ei, ej, Or.inl ⟨rfl, fun h9 => h.2 h9.1⟩⟩⟩) (fun v H3 hE hv => ?_)
  obtain ⟨rfl, sa, ti⟩ := hv
  have eH3 := (eH2).trans hE
  have hx1 := hx1.mv (hE.mv A)
  have hx2 := hx2.mv (hE.mv A)
  have hh := hh.ex hE
  have fx1 : Ls G A H3 x1 sa.1 sa.2.1 sa.2.2 := by rw [ti] at hx1; exact hx1
  refine pb_blk B.hx B.hb (lv' := [(4, .ref x2), (3, .ref x1), (0, .ref q), (1, .int f0), (2, .int g0)]) (st' := [.ref x2, .ref x1]) hl bkX5_holds_17_19 rfl (fun ls hl => ?_)
  refine x_callS0 B hT htb (c_X5_asNumber l hst G A x2 (th j)) cy_X5_asNumber st_X5_asNumber wd_M_X5_86 (hA_up hA (eH3).1) hx2 (eH3) rfl hl.1 rfl (Nat.le_of_ble_eq_true rfl) ⟨by decide, by decide⟩ ⟨by decide, by decide⟩ dX5_holds_19 (fun _ h => nomatch h) ⟨by decide, by decide⟩ (fun E h => ⟨2, by rw [h.1]; decide, fun t => Or.inr ⟨i, j, hi, hj, ei, ej, Or.inl ⟨rfl, fun h9 => h.2 h9.2⟩⟩⟩) (fun v H4 hE hv => ?_)
  obtain ⟨u, y0, tj, hdv, rfl, hy0⟩ := hv
  have eH4 := (eH3).trans hE
  have hx1 := hx1.mv (hE.mv A)
  have hx2 := hx2.mv (hE.mv A)
  have fx1 := fx1.mv (hE.mv A)
  have hh := hh.ex hE
  obtain ⟨ba1, ba2⟩ := hB.2.1 i hi sa ti
  have hsu := hB.1 j hj u tj
  obtain ⟨fs1, ho1⟩ := fx1.ob
  refine n_callV B (c_X2_contains l G A x1 y0 sa.1 sa.2.1 sa.2.2 (u 0) (by omega) (fun k hk => (ba2 k hk).bg) (hsu 0 (by decide)).bg) cy_X2_contains im_X2_contains se_X2_contains wd_M_X5_170 rfl ho1 ⟨fx1, hy0⟩ rfl hl.1 rfl (Nat.le_of_ble_eq_true rfl) ⟨by decide, by decide⟩ ⟨by decide, by decide⟩ dX5_holds_22 (fun v hv => ?_)
  obtain ⟨t, hpos, rfl⟩ := hv
  exact x_zret B dX5_holds_25 (b2i_n _) ((eH4).mv _) ⟨_, rfl, Or.inr ⟨i, j, hi, hj, ei, ej, Or.inr ⟨sa, u, ti, tj, hdv, rfl, t, hpos, rfl⟩⟩⟩ (fun _ h => nomatch h) (Nat.le_of_ble_eq_true rfl) (Nat.le_of_ble_eq_true rfl)

def po_X5_same (G : Gm) (A : Nat → Prop) (q ta N : Nat) (th : Nat → Th) (as : St3) (f0 g0 : Int32) : Option Value → Heap → Prop := fun v H => ∃ r, v = some (.int r) ∧ R_same N th f0 g0 0 r
def px_X5_same (q ta N : Nat) (th : Nat → Th) (as : St3) (f0 g0 : Int32) : String → Prop := fun E => ∃ c, (E, c) ∈ X1 ∧ ∀ r, R_same N th f0 g0 c r
theorem bkX5_same_0_2 : pb_chk cX5_same 0 [.aload_n 0, .iload_n 1] = some 2 := by decide +kernel
theorem dX5_same_2 : decode cX5_same 2 = .ok (.invokevirtual 59, 3) := by decide +kernel
theorem bkX5_same_5_8 : pb_chk cX5_same 5 [.astore_n 3, .aload_n 0, .iload_n 2] = some 8 := by decide +kernel
theorem dX5_same_8 : decode cX5_same 8 = .ok (.invokevirtual 59, 3) := by decide +kernel
theorem bkX5_same_11_16 : pb_chk cX5_same 11 [.astore 4, .aload_n 3, .aload 4] = some 16 := by decide +kernel
theorem dX5_same_16 : decode cX5_same 16 = .ok (.invokevirtual 184, 3) := by decide +kernel
theorem dX5_same_19 : decode cX5_same 19 = .ok (.ireturn, 1) := by decide +kernel
set_option maxHeartbeats 4000000 in
set_option maxRecDepth 100000 in
theorem c_X5_same (l : Launch) (hst : l.stackTraces = false) (G : Gm) (A : Nat → Prop) (q ta N : Nat) (th : Nat → Th) (as : St3) (f0 g0 : Int32) (hB : Bds N th as) : Mx l yX5_same cX5_same 5 (some .boolean) (⟨8, 300, 10000, 160⟩ : Room) G A (fun _ => False) [.ref q, .int f0, .int g0] (fun H => House G A H q ta N th as) (po_X5_same G A q ta N th as f0 g0) (px_X5_same q ta N th as f0 g0) := by
  refine of_metX (by decide) (Nat.le_of_ble_eq_true rfl) ?_
  intro p e s m below meth c ls B hT htb hA hh hl
  obtain ⟨fs9, ho⟩ := hh.ob
  refine pb_blk B.hx B.hb (lv' := [(0, .ref q), (1, .int f0), (2, .int g0)]) (st' := [.int f0, .ref q]) hl bkX5_same_0_2 rfl (fun ls hl => ?_)
  refine x_callV0 B hT htb (c_X5_found l hst G A q ta N th as f0) cy_X5_found im_X5_found se_X5_found wd_M_X5_59 rfl ho (hA_up hA (Ex.rf).1) hh (Ex.rf) rfl hl.1 rfl (Nat.le_of_ble_eq_true rfl) ⟨by decide, by decide⟩ ⟨by decide, by decide⟩ dX5_same_2 (fun _ h => nomatch h) ⟨by decide, by decide⟩ (fun E h => ⟨1, by rw [h.1]; decide, fun t => Or.inl ⟨rfl, fun h9 => h.2 h9.1⟩⟩) (fun v H1 hE hv => ?_)
  obtain ⟨i, x1, hi, ei, rfl, hx1⟩ := hv
  have eH1 := (Ex.rf).trans hE
  have hh := hh.ex hE
  obtain ⟨fs9, ho⟩ := hh.ob
  refine pb_blk B.hx B.hb (lv' := [(3, .ref x1), (0, .ref q), (1, .int f0), (2, .int g0)]) (st' := [.int g0, .ref q]) hl bkX5_same_5_8 rfl (fun ls hl => ?_)
  refine x_callV0 B hT htb (c_X5_found l hst G A q ta N th as g0) cy_X5_found im_X5_found se_X5_found wd_M_X5_59 rfl ho (hA_up hA (eH1).1) hh (eH1) rfl hl.1 rfl (Nat.le_of_ble_eq_true rfl) ⟨by decide, by decide⟩ ⟨by decide, by decide⟩ dX5_same_8 (fun _ h => nomatch h) ⟨by decide, by decide⟩ (fun E h => ⟨1, by rw [h.1]; decide, fun t => Or.inl ⟨rfl, fun h9 => h.2 h9.2⟩⟩) (fun v H2 hE hv => ?_)
  obtain ⟨j, x2, hj, ej, rfl, hx2⟩ := hv
  have eH2 := (eH1).trans hE
  have hx1 := hx1.mv (hE.mv A)
  have hh := hh.ex hE
  refine pb_blk B.hx B.hb (lv' := [(4, .ref x2), (3, .ref x1), (0, .ref q), (1, .int f0), (2, .int g0)]) (st' := [.ref x2, .ref x1]) hl bkX5_same_11_16 rfl (fun ls hl => ?_)
  cases hti : th i with
  | inl z1 =>
    cases htj : th j with
    | inl z2 =>
      rw [hti] at hx1
      rw [htj] at hx2
      obtain ⟨fs, ho⟩ : ∃ fs, va_at G.1 vwCl (x1, .inr (0, fs)) H2 := Fo.ob hx1
      obtain ⟨fs2, ho2⟩ : ∃ fs, va_at G.1 vwCl (x2, .inr (0, fs)) H2 := Fo.ob hx2
      have hs1 := hB.1 i hi z1 hti
      have hs2 := hB.1 j hj z2 htj
      refine n_callA (x := xTs) B (c_X0_isSameAs l G A x1 x2 z1 z2 hs1 hs2) cy_X0_isSameAs im_X0_isSameAs sa_s0 sm_Ts wd_M_X5_t184 B.hK.2.ds (by decide +kernel) rfl ho ⟨hx1, hx2⟩ rfl hl.1 rfl (Nat.le_of_ble_eq_true rfl) ⟨by decide, by decide⟩ ⟨by decide, by decide⟩ dX5_same_16 (fun v hv => ?_)
      rw [po_X0_isSameAs] at hv; subst hv
      exact x_zret B dX5_same_19 (b2i_n _) ((eH2).mv _) ⟨_, rfl, Or.inr ⟨i, j, hi, hj, ei, ej, rfl, ⟨_, rfl, by rw [hti, htj]; exact Iff.rfl⟩⟩⟩ (fun _ h => nomatch h) (Nat.le_of_ble_eq_true rfl) (Nat.le_of_ble_eq_true rfl)
    | inr z2 =>
      rw [hti] at hx1
      rw [htj] at hx2
      obtain ⟨fs, ho⟩ : ∃ fs, va_at G.1 vwCl (x1, .inr (0, fs)) H2 := Fo.ob hx1
      obtain ⟨fs2, ho2⟩ : ∃ fs, va_at G.1 vwCl (x2, .inr (2, fs)) H2 := Ls.ob hx2
      refine n_callA (x := xTs) B (c_X0_isSameAsN l G A x1 x2 fs2) cy_X0_isSameAs im_X0_isSameAs sa_s0 sm_Ts wd_M_X5_t184 B.hK.2.ds (by decide +kernel) rfl ho ho2 rfl hl.1 rfl (Nat.le_of_ble_eq_true rfl) ⟨by decide, by decide⟩ ⟨by decide, by decide⟩ dX5_same_16 (fun v hv => ?_)
      rw [po_X0_isSameAsN] at hv; subst hv
      exact x_zret B dX5_same_19 (rfl) ((eH2).mv _) ⟨_, rfl, Or.inr ⟨i, j, hi, hj, ei, ej, rfl, ⟨false, rfl, by rw [hti, htj]; exact ⟨fun h9 => (by cases h9), fun h9 => h9.elim⟩⟩⟩⟩ (fun _ h => nomatch h) (Nat.le_of_ble_eq_true rfl) (Nat.le_of_ble_eq_true rfl)
  | inr z1 =>
    cases htj : th j with
    | inl z2 =>
      rw [hti] at hx1
      rw [htj] at hx2
      obtain ⟨fs, ho⟩ : ∃ fs, va_at G.1 vwCl (x1, .inr (2, fs)) H2 := Ls.ob hx1
      obtain ⟨fs2, ho2⟩ : ∃ fs, va_at G.1 vwCl (x2, .inr (0, fs)) H2 := Fo.ob hx2
      refine n_callA (x := xTs) B (c_X2_isSameAsN l G A x1 x2 fs2) cy_X2_isSameAs im_X2_isSameAs sa_s2 sm_Ts wd_M_X5_t184 B.hK.2.ds (by decide +kernel) rfl ho ho2 rfl hl.1 rfl (Nat.le_of_ble_eq_true rfl) ⟨by decide, by decide⟩ ⟨by decide, by decide⟩ dX5_same_16 (fun v hv => ?_)
      rw [po_X2_isSameAsN] at hv; subst hv
      exact x_zret B dX5_same_19 (rfl) ((eH2).mv _) ⟨_, rfl, Or.inr ⟨i, j, hi, hj, ei, ej, rfl, ⟨false, rfl, by rw [hti, htj]; exact ⟨fun h9 => (by cases h9), fun h9 => h9.elim⟩⟩⟩⟩ (fun _ h => nomatch h) (Nat.le_of_ble_eq_true rfl) (Nat.le_of_ble_eq_true rfl)
    | inr z2 =>
      rw [hti] at hx1
      rw [htj] at hx2
      obtain ⟨fs, ho⟩ : ∃ fs, va_at G.1 vwCl (x1, .inr (2, fs)) H2 := Ls.ob hx1
      obtain ⟨fs2, ho2⟩ : ∃ fs, va_at G.1 vwCl (x2, .inr (2, fs)) H2 := Ls.ob hx2
      obtain ⟨ba1, ba2⟩ := hB.2.1 i hi z1 hti
      obtain ⟨bb1, bb2⟩ := hB.2.1 j hj z2 htj
      refine n_callA (x := xTs) B (c_X2_isSameAs l G A x1 x2 z1.1 z2.1 z1.2.1 z2.2.1 z1.2.2 z2.2.2 (by omega) (by omega) (fun k hk => (ba2 k hk).bg) (fun k hk => (bb2 k hk).bg)) cy_X2_isSameAs im_X2_isSameAs sa_s2 sm_Ts wd_M_X5_t184 B.hK.2.ds (by decide +kernel) rfl ho ⟨hx1, hx2⟩ rfl hl.1 rfl (Nat.le_of_ble_eq_true rfl) ⟨by decide, by decide⟩ ⟨by decide, by decide⟩ dX5_same_16 (fun v hv => ?_)
      obtain ⟨rb, rfl, hrb⟩ := hv
      exact x_zret B dX5_same_19 (b2i_n _) ((eH2).mv _) ⟨_, rfl, Or.inr ⟨i, j, hi, hj, ei, ej, rfl, ⟨rb, rfl, by rw [hti, htj]; exact hrb⟩⟩⟩ (fun _ h => nomatch h) (Nat.le_of_ble_eq_true rfl) (Nat.le_of_ble_eq_true rfl)

def po_X5_count (G : Gm) (A : Nat → Prop) (q ta N : Nat) (th : Nat → Th) (as : St3) : Option Value → Prop := fun v => v = some (.int (nI N))
theorem bkX5_count_0_1 : pb_chk cX5_count 0 [.aload_n 0] = some 1 := by decide +kernel
theorem dX5_count_1 : decode cX5_count 1 = .ok (.getfield 15, 3) := by decide +kernel
theorem dX5_count_4 : decode cX5_count 4 = .ok (.ireturn, 1) := by decide +kernel
set_option maxHeartbeats 4000000 in
set_option maxRecDepth 100000 in
theorem c_X5_count (l : Launch) (G : Gm) (A : Nat → Prop) (q ta N : Nat) (th : Nat → Th) (as : St3) : Mn l yX5_count cX5_count 1 (some .int) (⟨0, 0, 0, 0⟩ : Room) G [.ref q] (fun H => House G A H q ta N th as) (po_X5_count G A q ta N th as) := by
  refine of_met (by decide) (Nat.le_of_ble_eq_true rfl) ?_
  intro p e s m below meth c ls B hA ⟨aa, ob, _⟩ hl
  have obf := obF ob
  refine pb_blk B.hx B.hb (lv' := [(0, .ref q)]) (st' := [.ref q]) hl bkX5_count_0_1 rfl (fun ls hl => ?_)
  refine z_get B ciX5 1 (by decide) obf wd_F_X5_15 rfl dX5_count_1 ?_
  exact n_iret B dX5_count_4 rfl (Nat.le_refl _) (Nat.le_refl _)

