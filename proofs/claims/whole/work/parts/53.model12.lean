def po_X6_count (mo : Nat) (S : Sc) (ct : Ct) (N : Nat) (th : Nat → Th) (as : St3) : Option Value → Sc → Ct → Prop := fun v S2 ct2 => v = some (.int (nI N)) ∧ Pst N th as S2 ct2
theorem bkX6_count_0_2 : pb_chk cX6_count 0 [.aload_n 0, .iconst 0] = some 2 := by decide +kernel
theorem dX6_count_2 : decode cX6_count 2 = .ok (.putfield 63, 3) := by decide +kernel
theorem bkX6_count_5_6 : pb_chk cX6_count 5 [.aload_n 0] = some 6 := by decide +kernel
theorem dX6_count_6 : decode cX6_count 6 = .ok (.getfield 82, 3) := by decide +kernel
theorem dX6_count_9 : decode cX6_count 9 = .ok (.ireturn, 1) := by decide +kernel
set_option maxHeartbeats 4000000 in
set_option maxRecDepth 100000 in
theorem c_X6_count (l : Launch) (G : Gm) (mo : Nat) (S : Sc) (ct : Ct) (N : Nat) (th : Nat → Th) (as : St3) (hP : Pst N th as S ct) : Mm l yX6_count cX6_count 1 (some .int) (⟨0, 0, 0, 0⟩ : Room) G mo S ct [.ref mo] (po_X6_count mo S ct N th as) := by
  refine of_met (by decide) (Nat.le_of_ble_eq_true rfl) ?_
  intro p e s m below meth c ls B hA hM0 hl
  have hw := Mw.start hM0
  refine pb_blk B.hx B.hb (lv' := [(0, .ref mo)]) (st' := [.int 0, .ref mo]) hl bkX6_count_0_2 rfl (fun ls hl => ?_)
  refine m_put B hw 0 (by decide) wd_F_X6_63 rfl rfl rfl rfl dX6_count_2 (fun H locs hw => ?_)
  refine pb_blk B.hx B.hb (lv' := [(0, .ref mo)]) (st' := [.ref mo]) hl bkX6_count_5_6 rfl (fun ls hl => ?_)
  refine m_get B hw 1 (by decide) wd_F_X6_82 (congrArg some hP.2.1) dX6_count_6 ?_
  exact m_iret (v := (nI N)) B hw dX6_count_9 (by exact ⟨rfl, hP.ag rfl Ag.rf⟩) (Nat.le_of_ble_eq_true rfl) (Nat.le_of_ble_eq_true rfl)

theorem kdT_0 {t : Th} (h : kdT t = 0) : ∃ u, t = .inl u ∧ dgI u ≤ 0 := by
  cases t with
  | inl u => exact ⟨u, rfl, kdF_0.mp h⟩
  | inr z => exact absurd h (by show ¬ (2 : Int32) = 0; decide)
theorem kdT_0r {t : Th} (h : ∃ u, t = .inl u ∧ dgI u ≤ 0) : kdT t = 0 := by
  obtain ⟨u, rfl, hd⟩ := h
  exact kdF_0.mpr hd
theorem IsPos.le {n : Nat} {pt : Nat → Rat} {r : Rat} {t : Nat} (h : IsPos n pt r t) : t < 2 * n + 1 := by
  obtain ⟨k, h1, -, h3⟩ := h
  rcases h3 with ⟨h4, -, rfl⟩ | ⟨-, rfl⟩ <;> omega

def po_X6_holds (mo : Nat) (S : Sc) (ct : Ct) (N : Nat) (th : Nat → Th) (as : St3) (f0 g0 : Int32) : Option Value → Sc → Ct → Prop := fun v S2 ct2 => RdK N th as (R_holds N th f0 g0) v S2 ct2
theorem bkX6_holds_0_3 : pb_chk cX6_holds 0 [.aload_n 0, .aload_n 0, .iload_n 1] = some 3 := by decide +kernel
theorem dX6_holds_3 : decode cX6_holds 3 = .ok (.invokevirtual 107, 3) := by decide +kernel
theorem dX6_holds_6 : decode cX6_holds 6 = .ok (.ifCond .eq 11, 3) := by decide +kernel
theorem bkX6_holds_17_43 : pb_chk cX6_holds 17 [.iconst 1, .goto 25] = some 43 := by decide +kernel
theorem dX6_holds_43 : decode cX6_holds 43 = .ok (.putfield 63, 3) := by decide +kernel
theorem bkX6_holds_46_47 : pb_chk cX6_holds 46 [.aload_n 0] = some 47 := by decide +kernel
theorem dX6_holds_47 : decode cX6_holds 47 = .ok (.getfield 63, 3) := by decide +kernel
theorem dX6_holds_50 : decode cX6_holds 50 = .ok (.ifCond .ne 36, 3) := by decide +kernel
theorem bkX6_holds_86_87 : pb_chk cX6_holds 86 [.iconst 0] = some 87 := by decide +kernel
theorem dX6_holds_87 : decode cX6_holds 87 = .ok (.ireturn, 1) := by decide +kernel
theorem bkX6_holds_9_11 : pb_chk cX6_holds 9 [.aload_n 0, .iload_n 2] = some 11 := by decide +kernel
theorem dX6_holds_11 : decode cX6_holds 11 = .ok (.invokevirtual 107, 3) := by decide +kernel
theorem dX6_holds_14 : decode cX6_holds 14 = .ok (.ifCond .ne 7, 3) := by decide +kernel
theorem bkX6_holds_21_23 : pb_chk cX6_holds 21 [.aload_n 0, .iload_n 1] = some 23 := by decide +kernel
theorem dX6_holds_23 : decode cX6_holds 23 = .ok (.invokevirtual 111, 3) := by decide +kernel
theorem dX6_holds_26 : decode cX6_holds 26 = .ok (.ifCond .ne 12, 3) := by decide +kernel
theorem bkX6_holds_38_43 : pb_chk cX6_holds 38 [.iconst 2, .goto 4] = some 43 := by decide +kernel
theorem bkX6_holds_29_30 : pb_chk cX6_holds 29 [.aload_n 0] = some 30 := by decide +kernel
theorem dX6_holds_30 : decode cX6_holds 30 = .ok (.getfield 7, 3) := by decide +kernel
theorem bkX6_holds_33_34 : pb_chk cX6_holds 33 [.iload_n 2] = some 34 := by decide +kernel
theorem dX6_holds_34 : decode cX6_holds 34 = .ok (.iaload, 1) := by decide +kernel
theorem dX6_holds_35 : decode cX6_holds 35 = .ok (.ifCond .eq 7, 3) := by decide +kernel
theorem bkX6_holds_42_43 : pb_chk cX6_holds 42 [.iconst 0] = some 43 := by decide +kernel
theorem bkX6_holds_53_58 : pb_chk cX6_holds 53 [.aload_n 0, .iload_n 1, .aload_n 0, .iload_n 1, .aload_n 0] = some 58 := by decide +kernel
theorem dX6_holds_58 : decode cX6_holds 58 = .ok (.getfield 13, 3) := by decide +kernel
theorem bkX6_holds_61_64 : pb_chk cX6_holds 61 [.iconst 4, .iload_n 2, .imul] = some 64 := by decide +kernel
theorem dX6_holds_64 : decode cX6_holds 64 = .ok (.laload, 1) := by decide +kernel
theorem bkX6_holds_65_66 : pb_chk cX6_holds 65 [.aload_n 0] = some 66 := by decide +kernel
theorem dX6_holds_66 : decode cX6_holds 66 = .ok (.getfield 17, 3) := by decide +kernel
theorem bkX6_holds_69_72 : pb_chk cX6_holds 69 [.iconst 4, .iload_n 2, .imul] = some 72 := by decide +kernel
theorem dX6_holds_72 : decode cX6_holds 72 = .ok (.laload, 1) := by decide +kernel
theorem dX6_holds_73 : decode cX6_holds 73 = .ok (.invokevirtual 208, 3) := by decide +kernel
theorem dX6_holds_76 : decode cX6_holds 76 = .ok (.invokevirtual 161, 3) := by decide +kernel
theorem dX6_holds_79 : decode cX6_holds 79 = .ok (.ifCond .eq 7, 3) := by decide +kernel
theorem bkX6_holds_82_87 : pb_chk cX6_holds 82 [.iconst 1, .goto 4] = some 87 := by decide +kernel
set_option maxHeartbeats 4000000 in
set_option maxRecDepth 100000 in
theorem c_X6_holds (l : Launch) (G : Gm) (mo : Nat) (S : Sc) (ct : Ct) (N : Nat) (th : Nat → Th) (as : St3) (f0 g0 : Int32) (hP : Pst N th as S ct) (hB : Bds N th as) : Mm l yX6_holds cX6_holds 3 (some .boolean) (⟨2, 0, 0, 46⟩ : Room) G mo S ct [.ref mo, .int f0, .int g0] (po_X6_holds mo S ct N th as f0 g0) := by
  refine of_met (by decide) (Nat.le_of_ble_eq_true rfl) ?_
  intro p e s m below meth c ls B hA hM0 hl
  have hw := Mw.start hM0
  refine pb_blk B.hx B.hb (lv' := [(0, .ref mo), (1, .int f0), (2, .int g0)]) (st' := [.int f0, .ref mo, .ref mo]) hl bkX6_holds_0_3 rfl (fun ls hl => ?_)
  refine m_callN B hw (c_X6_isThere l G (fun _ => False) mo S ct N f0 hP.1 hP.2.1) cy_X6_isThere im_X6_isThere se_X6_isThere wd_M_X6_107 hw.1 rfl hl.1 rfl (Nat.le_of_ble_eq_true rfl) ⟨by decide, by decide⟩ ⟨rfl, rfl⟩ ⟨Nat.le_refl _, Nat.le_refl _⟩ dX6_holds_3 (fun v hv => ?_)
  obtain ⟨t1, rfl, ht1⟩ := hv
  refine lv_if_eq (tgt := 17) B.hx B.hb dX6_holds_6 (by decide) (fun h1 => ?_) (fun h1 => ?_)
  · have y1 : ¬ Tr N f0 := fun q => by rw [ht1.mpr q] at h1; exact absurd h1 (by decide)
    refine pb_blk B.hx B.hb (lv' := [(0, .ref mo), (1, .int f0), (2, .int g0)]) (st' := [.int 1, .ref mo]) hl bkX6_holds_17_43 rfl (fun ls hl => ?_)
    refine m_put B hw 0 (by decide) wd_F_X6_63 rfl rfl rfl rfl dX6_holds_43 (fun H locs hw => ?_)
    refine pb_blk B.hx B.hb (lv' := [(0, .ref mo), (1, .int f0), (2, .int g0)]) (st' := [.ref mo]) hl bkX6_holds_46_47 rfl (fun ls hl => ?_)
    refine m_get B hw 0 (by decide) wd_F_X6_63 (congrArg some (show _ = (.int 1 : Value) from rfl)) dX6_holds_47 ?_
    refine lv_if_ne (tgt := 86) B.hx B.hb dX6_holds_50 (by decide) (fun _ => ?_) (fun h => absurd h (by decide))
    refine pb_blk B.hx B.hb (lv' := [(0, .ref mo), (1, .int f0), (2, .int g0)]) (st' := [.int 0]) hl bkX6_holds_86_87 rfl (fun ls hl => ?_)
    exact m_zret (v := 0) B hw dX6_holds_87 rfl (by exact ⟨1, 0, 0, Or.inl ⟨rfl, fun q => y1 q.1⟩, rfl, rfl, fun _ => rfl, hP.ag rfl Ag.rf⟩) (Nat.le_of_ble_eq_true rfl) (Nat.le_of_ble_eq_true rfl)
  · obtain ⟨i, hi, rfl⟩ := ht1.mp (ts9 (fun q => h1 ((b2i_0 _).mpr q)))
    refine pb_blk B.hx B.hb (lv' := [(0, .ref mo), (1, .int (nI i)), (2, .int g0)]) (st' := [.int g0, .ref mo, .ref mo]) hl bkX6_holds_9_11 rfl (fun ls hl => ?_)
    refine m_callN B hw (c_X6_isThere l G (fun _ => False) mo S ct N g0 hP.1 hP.2.1) cy_X6_isThere im_X6_isThere se_X6_isThere wd_M_X6_107 hw.1 rfl hl.1 rfl (Nat.le_of_ble_eq_true rfl) ⟨by decide, by decide⟩ ⟨rfl, rfl⟩ ⟨Nat.le_refl _, Nat.le_refl _⟩ dX6_holds_11 (fun v hv => ?_)
    obtain ⟨t2, rfl, ht2⟩ := hv
    refine lv_if_ne (tgt := 21) B.hx B.hb dX6_holds_14 (by decide) (fun h2 => ?_) (fun h2 => ?_)
    · obtain ⟨j, hj, rfl⟩ := ht2.mp (ts9 (fun q => h2 ((b2i_0 _).mpr q)))
      have hN := hP.1
      refine pb_blk B.hx B.hb (lv' := [(0, .ref mo), (1, .int (nI i)), (2, .int (nI j))]) (st' := [.int (nI i), .ref mo, .ref mo]) hl bkX6_holds_21_23 rfl (fun ls hl => ?_)
      refine m_callN B hw (c_X6_isFormula l G (fun _ => False) mo S ct i (th i) (by have := hP.1; omega) (hP.2.2.1 i hi)) cy_X6_isFormula im_X6_isFormula se_X6_isFormula wd_M_X6_111 hw.1 rfl hl.1 rfl (Nat.le_of_ble_eq_true rfl) ⟨by decide, by decide⟩ ⟨rfl, rfl⟩ ⟨Nat.le_refl _, Nat.le_refl _⟩ dX6_holds_23 (fun v hv => ?_)
      obtain ⟨t3, rfl, ht3⟩ := hv
      refine lv_if_ne (tgt := 38) B.hx B.hb dX6_holds_26 (by decide) (fun h3 => ?_) (fun h3 => ?_)
      · have y3 := ht3.mp (ts9 (fun q => h3 ((b2i_0 _).mpr q)))
        refine pb_blk B.hx B.hb (lv' := [(0, .ref mo), (1, .int (nI i)), (2, .int (nI j))]) (st' := [.int 2, .ref mo]) hl bkX6_holds_38_43 rfl (fun ls hl => ?_)
        refine m_put B hw 0 (by decide) wd_F_X6_63 rfl rfl rfl rfl dX6_holds_43 (fun H locs hw => ?_)
        refine pb_blk B.hx B.hb (lv' := [(0, .ref mo), (1, .int (nI i)), (2, .int (nI j))]) (st' := [.ref mo]) hl bkX6_holds_46_47 rfl (fun ls hl => ?_)
        refine m_get B hw 0 (by decide) wd_F_X6_63 (congrArg some (show _ = (.int 2 : Value) from rfl)) dX6_holds_47 ?_
        refine lv_if_ne (tgt := 86) B.hx B.hb dX6_holds_50 (by decide) (fun _ => ?_) (fun h => absurd h (by decide))
        refine pb_blk B.hx B.hb (lv' := [(0, .ref mo), (1, .int (nI i)), (2, .int (nI j))]) (st' := [.int 0]) hl bkX6_holds_86_87 rfl (fun ls hl => ?_)
        exact m_zret (v := 0) B hw dX6_holds_87 rfl (by exact ⟨2, 0, 0, Or.inr ⟨i, j, hi, hj, rfl, rfl, Or.inl ⟨rfl, fun q => absurd y3 (no_inl.mpr q.1)⟩⟩, rfl, rfl, fun _ => rfl, hP.ag rfl Ag.rf⟩) (Nat.le_of_ble_eq_true rfl) (Nat.le_of_ble_eq_true rfl)
      · have y3 : ¬ ∃ u, th i = .inl u := fun q => by rw [ht3.mpr q] at h3; exact absurd h3 (by decide)
        obtain ⟨sa, hsa⟩ := no_inl.mp y3
        refine pb_blk B.hx B.hb (lv' := [(0, .ref mo), (1, .int (nI i)), (2, .int (nI j))]) (st' := [.ref mo, .ref mo]) hl bkX6_holds_29_30 rfl (fun ls hl => ?_)
        refine m_get B hw 2 (by decide) wd_F_X6_7 rfl dX6_holds_30 ?_
        refine pb_blk B.hx B.hb (lv' := [(0, .ref mo), (1, .int (nI i)), (2, .int (nI j))]) (st' := [.int (nI j), .ref (mo + 1), .ref mo]) hl bkX6_holds_33_34 rfl (fun ls hl => ?_)
        refine m_iald B hw 1 (by decide) (by decide) rfl (vp_in_nI (show j < 80 by omega) (by decide)) (v := .int (kdT (th j))) (by rw [nI_clamp (by omega)]; exact (hP.2.2.1 j hj).kd) dX6_holds_34 ?_
        refine lv_if_eq (tgt := 42) B.hx B.hb dX6_holds_35 (by decide) (fun h4 => ?_) (fun h4 => ?_)
        · obtain ⟨u, hu, hd⟩ : ∃ u, th j = .inl u ∧ dgI u ≤ 0 := kdT_0 h4
          have hsz := hP.2.2.1 i hi
          rw [hsa] at hsz
          have hz := hsz.2
          have fj := hP.2.2.1 j hj
          rw [hu] at fj
          obtain ⟨pf, df, f1, f2, f3⟩ := fj.2 0 (by decide)
          obtain ⟨ba1, ba2⟩ := hB.2.1 i hi sa hsa
          have hsu := hB.1 j hj u hu
          refine pb_blk B.hx B.hb (lv' := [(0, .ref mo), (1, .int (nI i)), (2, .int (nI j))]) (st' := [.int 0, .ref mo]) hl bkX6_holds_42_43 rfl (fun ls hl => ?_)
          refine m_put B hw 0 (by decide) wd_F_X6_63 rfl rfl rfl rfl dX6_holds_43 (fun H locs hw => ?_)
          refine pb_blk B.hx B.hb (lv' := [(0, .ref mo), (1, .int (nI i)), (2, .int (nI j))]) (st' := [.ref mo]) hl bkX6_holds_46_47 rfl (fun ls hl => ?_)
          refine m_get B hw 0 (by decide) wd_F_X6_63 (congrArg some (show _ = (.int 0 : Value) from rfl)) dX6_holds_47 ?_
          refine lv_if_ne (tgt := 86) B.hx B.hb dX6_holds_50 (by decide) (fun h => absurd h (by decide)) (fun _ => ?_)
          refine pb_blk B.hx B.hb (lv' := [(0, .ref mo), (1, .int (nI i)), (2, .int (nI j))]) (st' := [.ref mo, .int (nI i), .ref mo, .int (nI i), .ref mo]) hl bkX6_holds_53_58 rfl (fun ls hl => ?_)
          refine m_get B hw 3 (by decide) wd_F_X6_13 rfl dX6_holds_58 ?_
          refine pb_blk B.hx B.hb (lv' := [(0, .ref mo), (1, .int (nI i)), (2, .int (nI j))]) (st' := [.int (4 * (nI j)), .ref (mo + 2), .int (nI i), .ref mo, .int (nI i), .ref mo]) hl bkX6_holds_61_64 rfl (fun ls hl => ?_)
          rw [show (4 : Int32) * nI j = nI (4 * j) from pk_mul 4 j]
          refine m_lald B hw 2 (by decide) (by decide) rfl (vp_in_nI (show 4 * j < 320 by omega) (by decide)) (v := .long pf) (by rw [nI_clamp (by omega)]; exact f1) dX6_holds_64 ?_
          refine pb_blk B.hx B.hb (lv' := [(0, .ref mo), (1, .int (nI i)), (2, .int (nI j))]) (st' := [.ref mo, .long pf, .int (nI i), .ref mo, .int (nI i), .ref mo]) hl bkX6_holds_65_66 rfl (fun ls hl => ?_)
          refine m_get B hw 4 (by decide) wd_F_X6_17 rfl dX6_holds_66 ?_
          refine pb_blk B.hx B.hb (lv' := [(0, .ref mo), (1, .int (nI i)), (2, .int (nI j))]) (st' := [.int (4 * (nI j)), .ref (mo + 3), .long pf, .int (nI i), .ref mo, .int (nI i), .ref mo]) hl bkX6_holds_69_72 rfl (fun ls hl => ?_)
          rw [show (4 : Int32) * nI j = nI (4 * j) from pk_mul 4 j]
          refine m_lald B hw 3 (by decide) (by decide) rfl (vp_in_nI (show 4 * j < 320 by omega) (by decide)) (v := .long df) (by rw [nI_clamp (by omega)]; exact f2) dX6_holds_72 ?_
          refine m_callN B hw (c_X6_placeOf l G (fun _ => False) mo _ _ i pf df (u 0) sa (by omega) hz f3 (fun k hk => (ba2 k hk).bg) (hsu 0 (by decide)).bg) cy_X6_placeOf im_X6_placeOf se_X6_placeOf wd_M_X6_208 hw.1 rfl hl.1 rfl (Nat.le_of_ble_eq_true rfl) ⟨by decide, by decide⟩ ⟨rfl, rfl⟩ ⟨Nat.le_refl _, Nat.le_refl _⟩ dX6_holds_73 (fun v hv => ?_)
          obtain ⟨tt, rfl, hpos⟩ := hv
          have htl := hpos.le
          refine m_callN B hw (c_X6_mark l G (fun _ => False) mo _ _ i tt (sa.2.2 tt) (by omega) (hz.2.2.2 tt (by omega))) cy_X6_mark im_X6_mark se_X6_mark wd_M_X6_161 hw.1 rfl hl.1 rfl (Nat.le_of_ble_eq_true rfl) ⟨by decide, by decide⟩ ⟨rfl, rfl⟩ ⟨Nat.le_refl _, Nat.le_refl _⟩ dX6_holds_76 (fun v hv => ?_)
          rw [po_X6_mark] at hv
          subst hv
          refine lv_if_eq (tgt := 86) B.hx B.hb dX6_holds_79 (by decide) (fun h5 => ?_) (fun h5 => ?_)
          · have e0 := (b2i_0 _).mp h5
            refine pb_blk B.hx B.hb (lv' := [(0, .ref mo), (1, .int (nI i)), (2, .int (nI j))]) (st' := [.int 0]) hl bkX6_holds_86_87 rfl (fun ls hl => ?_)
            exact m_zret (v := 0) B hw dX6_holds_87 rfl (by exact ⟨0, b2i (sa.2.2 tt), _, Or.inr ⟨i, j, hi, hj, rfl, rfl, Or.inr ⟨sa, u, hsa, hu, hd, rfl, tt, hpos, rfl⟩⟩, rfl, rfl, fun _ => by rw [e0]; rfl, hP.ag rfl Ag.rf⟩) (Nat.le_of_ble_eq_true rfl) (Nat.le_of_ble_eq_true rfl)
          · have e0 := ts9 (fun q => h5 ((b2i_0 _).mpr q))
            refine pb_blk B.hx B.hb (lv' := [(0, .ref mo), (1, .int (nI i)), (2, .int (nI j))]) (st' := [.int 1]) hl bkX6_holds_82_87 rfl (fun ls hl => ?_)
            exact m_zret (v := 1) B hw dX6_holds_87 rfl (by exact ⟨0, b2i (sa.2.2 tt), _, Or.inr ⟨i, j, hi, hj, rfl, rfl, Or.inr ⟨sa, u, hsa, hu, hd, rfl, tt, hpos, rfl⟩⟩, rfl, rfl, fun _ => by rw [e0]; rfl, hP.ag rfl Ag.rf⟩) (Nat.le_of_ble_eq_true rfl) (Nat.le_of_ble_eq_true rfl)
        · have y4 : ¬ ∃ u, th j = .inl u ∧ dgI u ≤ 0 := fun q => h4 (kdT_0r q)
          refine pb_blk B.hx B.hb (lv' := [(0, .ref mo), (1, .int (nI i)), (2, .int (nI j))]) (st' := [.int 2, .ref mo]) hl bkX6_holds_38_43 rfl (fun ls hl => ?_)
          refine m_put B hw 0 (by decide) wd_F_X6_63 rfl rfl rfl rfl dX6_holds_43 (fun H locs hw => ?_)
          refine pb_blk B.hx B.hb (lv' := [(0, .ref mo), (1, .int (nI i)), (2, .int (nI j))]) (st' := [.ref mo]) hl bkX6_holds_46_47 rfl (fun ls hl => ?_)
          refine m_get B hw 0 (by decide) wd_F_X6_63 (congrArg some (show _ = (.int 2 : Value) from rfl)) dX6_holds_47 ?_
          refine lv_if_ne (tgt := 86) B.hx B.hb dX6_holds_50 (by decide) (fun _ => ?_) (fun h => absurd h (by decide))
          refine pb_blk B.hx B.hb (lv' := [(0, .ref mo), (1, .int (nI i)), (2, .int (nI j))]) (st' := [.int 0]) hl bkX6_holds_86_87 rfl (fun ls hl => ?_)
          exact m_zret (v := 0) B hw dX6_holds_87 rfl (by exact ⟨2, 0, 0, Or.inr ⟨i, j, hi, hj, rfl, rfl, Or.inl ⟨rfl, fun q => y4 q.2⟩⟩, rfl, rfl, fun _ => rfl, hP.ag rfl Ag.rf⟩) (Nat.le_of_ble_eq_true rfl) (Nat.le_of_ble_eq_true rfl)
    · have y2 : ¬ Tr N g0 := fun q => by rw [ht2.mpr q] at h2; exact absurd h2 (by decide)
      refine pb_blk B.hx B.hb (lv' := [(0, .ref mo), (1, .int (nI i)), (2, .int g0)]) (st' := [.int 1, .ref mo]) hl bkX6_holds_17_43 rfl (fun ls hl => ?_)
      refine m_put B hw 0 (by decide) wd_F_X6_63 rfl rfl rfl rfl dX6_holds_43 (fun H locs hw => ?_)
      refine pb_blk B.hx B.hb (lv' := [(0, .ref mo), (1, .int (nI i)), (2, .int g0)]) (st' := [.ref mo]) hl bkX6_holds_46_47 rfl (fun ls hl => ?_)
      refine m_get B hw 0 (by decide) wd_F_X6_63 (congrArg some (show _ = (.int 1 : Value) from rfl)) dX6_holds_47 ?_
      refine lv_if_ne (tgt := 86) B.hx B.hb dX6_holds_50 (by decide) (fun _ => ?_) (fun h => absurd h (by decide))
      refine pb_blk B.hx B.hb (lv' := [(0, .ref mo), (1, .int (nI i)), (2, .int g0)]) (st' := [.int 0]) hl bkX6_holds_86_87 rfl (fun ls hl => ?_)
      exact m_zret (v := 0) B hw dX6_holds_87 rfl (by exact ⟨1, 0, 0, Or.inl ⟨rfl, fun q => y2 q.2⟩, rfl, rfl, fun _ => rfl, hP.ag rfl Ag.rf⟩) (Nat.le_of_ble_eq_true rfl) (Nat.le_of_ble_eq_true rfl)

theorem smF_t {u v : Nat → Rat} : smF u v = true ↔ ∀ k, k < 4 → u k = v k := by
  unfold smF
  constructor
  · intro h
    simp only [Bool.and_eq_true, decide_eq_true_eq, beq_iff_eq] at h
    intro k hk
    rcases (show k = 0 ∨ k = 1 ∨ k = 2 ∨ k = 3 by omega) with rfl | rfl | rfl | rfl
    · first | exact h.1.1.1 | exact h.1 | exact h 0 (by decide)
    · first | exact h.1.1.2 | exact h.2.1 | exact h 1 (by decide)
    · first | exact h.1.2 | exact h.2.2.1 | exact h 2 (by decide)
    · first | exact h.2 | exact h.2.2.2 | exact h 3 (by decide)
  · intro h
    have a := h 0 (by decide)
    have b := h 1 (by decide)
    have c := h 2 (by decide)
    have d := h 3 (by decide)
    simp [a, b, c, d]
theorem SmT_kd {a b : Th} (h : SmT a b) : kdT a = kdT b := by
  cases a with
  | inl u =>
    cases b with
    | inl v => exact (dgI_cg (smF_t.mp h)).2
    | inr z => exact h.elim
  | inr y =>
    cases b with
    | inl v => exact h.elim
    | inr z => rfl

def po_X6_same (mo : Nat) (S : Sc) (ct : Ct) (N : Nat) (th : Nat → Th) (as : St3) (f0 g0 : Int32) : Option Value → Sc → Ct → Prop := fun v S2 ct2 => RdK N th as (R_same N th f0 g0) v S2 ct2
theorem bkX6_same_0_3 : pb_chk cX6_same 0 [.aload_n 0, .aload_n 0, .iload_n 1] = some 3 := by decide +kernel
theorem dX6_same_3 : decode cX6_same 3 = .ok (.invokevirtual 107, 3) := by decide +kernel
theorem dX6_same_6 : decode cX6_same 6 = .ok (.ifCond .eq 15, 3) := by decide +kernel
theorem bkX6_same_21_22 : pb_chk cX6_same 21 [.iconst 1] = some 22 := by decide +kernel
theorem dX6_same_22 : decode cX6_same 22 = .ok (.putfield 63, 3) := by decide +kernel
theorem bkX6_same_25_26 : pb_chk cX6_same 25 [.aload_n 0] = some 26 := by decide +kernel
theorem dX6_same_26 : decode cX6_same 26 = .ok (.getfield 63, 3) := by decide +kernel
theorem dX6_same_29 : decode cX6_same 29 = .ok (.ifCond .gt 18, 3) := by decide +kernel
theorem bkX6_same_47_48 : pb_chk cX6_same 47 [.iconst 0] = some 48 := by decide +kernel
theorem dX6_same_48 : decode cX6_same 48 = .ok (.ireturn, 1) := by decide +kernel
theorem bkX6_same_9_11 : pb_chk cX6_same 9 [.aload_n 0, .iload_n 2] = some 11 := by decide +kernel
theorem dX6_same_11 : decode cX6_same 11 = .ok (.invokevirtual 107, 3) := by decide +kernel
theorem dX6_same_14 : decode cX6_same 14 = .ok (.ifCond .eq 7, 3) := by decide +kernel
theorem bkX6_same_17_22 : pb_chk cX6_same 17 [.iconst 0, .goto 4] = some 22 := by decide +kernel
theorem bkX6_same_32_33 : pb_chk cX6_same 32 [.aload_n 0] = some 33 := by decide +kernel
theorem dX6_same_33 : decode cX6_same 33 = .ok (.getfield 7, 3) := by decide +kernel
theorem bkX6_same_36_37 : pb_chk cX6_same 36 [.iload_n 1] = some 37 := by decide +kernel
theorem dX6_same_37 : decode cX6_same 37 = .ok (.iaload, 1) := by decide +kernel
theorem bkX6_same_38_39 : pb_chk cX6_same 38 [.aload_n 0] = some 39 := by decide +kernel
theorem dX6_same_39 : decode cX6_same 39 = .ok (.getfield 7, 3) := by decide +kernel
theorem bkX6_same_42_43 : pb_chk cX6_same 42 [.iload_n 2] = some 43 := by decide +kernel
theorem dX6_same_43 : decode cX6_same 43 = .ok (.iaload, 1) := by decide +kernel
theorem dX6_same_44 : decode cX6_same 44 = .ok (.if_icmp .eq 5, 3) := by decide +kernel
theorem bkX6_same_49_50 : pb_chk cX6_same 49 [.aload_n 0] = some 50 := by decide +kernel
theorem dX6_same_50 : decode cX6_same 50 = .ok (.getfield 7, 3) := by decide +kernel
theorem bkX6_same_53_54 : pb_chk cX6_same 53 [.iload_n 1] = some 54 := by decide +kernel
theorem dX6_same_54 : decode cX6_same 54 = .ok (.iaload, 1) := by decide +kernel
theorem bkX6_same_55_56 : pb_chk cX6_same 55 [.iconst 2] = some 56 := by decide +kernel
theorem dX6_same_56 : decode cX6_same 56 = .ok (.if_icmp .ne 10, 3) := by decide +kernel
theorem bkX6_same_66_68 : pb_chk cX6_same 66 [.iconst 0, .istore_n 3] = some 68 := by decide +kernel
theorem bkX6_same_59_62 : pb_chk cX6_same 59 [.aload_n 0, .iload_n 1, .iload_n 2] = some 62 := by decide +kernel
theorem dX6_same_62 : decode cX6_same 62 = .ok (.invokevirtual 212, 3) := by decide +kernel
theorem dX6_same_65 : decode cX6_same 65 = .ok (.ireturn, 1) := by decide +kernel
theorem bkX6_same_68_70 : pb_chk cX6_same 68 [.iload_n 3, .iconst 4] = some 70 := by decide +kernel
theorem dX6_same_70 : decode cX6_same 70 = .ok (.if_icmp .ge 59, 3) := by decide +kernel
theorem bkX6_same_129_130 : pb_chk cX6_same 129 [.iconst 1] = some 130 := by decide +kernel
theorem dX6_same_130 : decode cX6_same 130 = .ok (.ireturn, 1) := by decide +kernel
theorem bkX6_same_73_74 : pb_chk cX6_same 73 [.aload_n 0] = some 74 := by decide +kernel
theorem dX6_same_74 : decode cX6_same 74 = .ok (.getfield 13, 3) := by decide +kernel
theorem bkX6_same_77_82 : pb_chk cX6_same 77 [.iconst 4, .iload_n 1, .imul, .iload_n 3, .iadd] = some 82 := by decide +kernel
theorem dX6_same_82 : decode cX6_same 82 = .ok (.laload, 1) := by decide +kernel
theorem bkX6_same_83_84 : pb_chk cX6_same 83 [.aload_n 0] = some 84 := by decide +kernel
theorem dX6_same_84 : decode cX6_same 84 = .ok (.getfield 13, 3) := by decide +kernel
theorem bkX6_same_87_92 : pb_chk cX6_same 87 [.iconst 4, .iload_n 2, .imul, .iload_n 3, .iadd] = some 92 := by decide +kernel
theorem dX6_same_92 : decode cX6_same 92 = .ok (.laload, 1) := by decide +kernel
theorem bkX6_same_93_94 : pb_chk cX6_same 93 [.lcmp] = some 94 := by decide +kernel
theorem dX6_same_94 : decode cX6_same 94 = .ok (.ifCond .ne 27, 3) := by decide +kernel
theorem bkX6_same_121_122 : pb_chk cX6_same 121 [.iconst 0] = some 122 := by decide +kernel
theorem dX6_same_122 : decode cX6_same 122 = .ok (.ireturn, 1) := by decide +kernel
theorem bkX6_same_97_98 : pb_chk cX6_same 97 [.aload_n 0] = some 98 := by decide +kernel
theorem dX6_same_98 : decode cX6_same 98 = .ok (.getfield 17, 3) := by decide +kernel
theorem bkX6_same_101_106 : pb_chk cX6_same 101 [.iconst 4, .iload_n 1, .imul, .iload_n 3, .iadd] = some 106 := by decide +kernel
theorem dX6_same_106 : decode cX6_same 106 = .ok (.laload, 1) := by decide +kernel
theorem bkX6_same_107_108 : pb_chk cX6_same 107 [.aload_n 0] = some 108 := by decide +kernel
theorem dX6_same_108 : decode cX6_same 108 = .ok (.getfield 17, 3) := by decide +kernel
theorem bkX6_same_111_116 : pb_chk cX6_same 111 [.iconst 4, .iload_n 2, .imul, .iload_n 3, .iadd] = some 116 := by decide +kernel
theorem dX6_same_116 : decode cX6_same 116 = .ok (.laload, 1) := by decide +kernel
theorem bkX6_same_117_118 : pb_chk cX6_same 117 [.lcmp] = some 118 := by decide +kernel
theorem dX6_same_118 : decode cX6_same 118 = .ok (.ifCond .eq 5, 3) := by decide +kernel
theorem bkX6_same_123_68 : pb_chk cX6_same 123 [.iinc 3 1, .goto (-58)] = some 68 := by decide +kernel
set_option maxHeartbeats 4000000 in
set_option maxRecDepth 100000 in
theorem c_X6_same (l : Launch) (G : Gm) (mo : Nat) (S : Sc) (ct : Ct) (N : Nat) (th : Nat → Th) (as : St3) (f0 g0 : Int32) (hP : Pst N th as S ct) : Mm l yX6_same cX6_same 4 (some .boolean) (⟨2, 0, 0, 46⟩ : Room) G mo S ct [.ref mo, .int f0, .int g0] (po_X6_same mo S ct N th as f0 g0) := by
  refine of_met (by decide) (Nat.le_of_ble_eq_true rfl) ?_
  intro p e s m below meth c ls B hA hM0 hl
  have hw := Mw.start hM0
  have loop : ∀ (i j : Nat) (u u2 : Nat → Rat), i < N → j < N → f0 = nI i → g0 = nI j → th i = .inl u → th j = .inl u2 → FoA ct i u → FoA ct j u2 → ∀ (H : Heap) (locs : List Loc), Mw G mo s.heap H locs (va_up S 0 (.int 0)) ct → ∀ (n k : Nat) (ls : Array Slot), 5 ≤ k + n → k ≤ 4 → (∀ j, j < k → u j = u2 j) → lv_has ls 4 [(3, .int (nI k)), (0, .ref mo), (1, .int f0), (2, .int g0)] → W p l e (⟨2, 0, 0, 46⟩ : Room) s m ([.ref mo, .int f0, .int g0] : List Value).toArray below meth c H locs 0 0 (MQ below (Qm G mo (po_X6_same mo S ct N th as f0 g0)) ([.ref mo, .int f0, .int g0] : List Value).toArray s (⟨2, 0, 0, 46⟩ : Room).cells (⟨2, 0, 0, 46⟩ : Room).slots (FM mo)) (F0 m 68 ls []) := by
    intro i j u u2 hi hj ei ej hu hu2 fi fj H locs hw n
    induction n with
    | zero => intro k ls h1 h2; omega
    | succ n ih =>
      intro k ls hn hk hu4 hl
      refine pb_blk B.hx B.hb (lv' := [(3, .int (nI k)), (0, .ref mo), (1, .int f0), (2, .int g0)]) (st' := [.int 4, .int (nI k)]) hl bkX6_same_68_70 rfl (fun ls hl => ?_)
      refine lv_icmp_ge (tgt := 129) B.hx B.hb dX6_same_70 (by decide) (fun h1 => ?_) (fun h1 => ?_)
      · have e4 : k = 4 := by have := nI_nlt_le (show 4 < 2 ^ 31 by decide) (k2_nlt h1); omega
        rw [e4] at hu4
        refine pb_blk B.hx B.hb (lv' := [(3, .int (nI k)), (0, .ref mo), (1, .int f0), (2, .int g0)]) (st' := [.int 1]) hl bkX6_same_129_130 rfl (fun ls hl => ?_)
        exact m_zret (v := 1) B hw dX6_same_130 rfl (by exact ⟨0, b2i true, _, Or.inr ⟨i, j, hi, hj, ei, ej, rfl, true, rfl, ⟨fun _ => by rw [hu, hu2]; exact smF_t.mpr hu4, fun _ => rfl⟩⟩, rfl, rfl, fun _ => rfl, hP.ag rfl Ag.rf⟩) (Nat.le_of_ble_eq_true rfl) (Nat.le_of_ble_eq_true rfl)
      · have hk4 : k < 4 := (nI_ltI (by omega) (by decide)).mp (k2_lt h1)
        obtain ⟨p1, d1, a1, a2, a3⟩ := fi.2 k hk4
        obtain ⟨p2, d2, b1, b2, b3⟩ := fj.2 k hk4
        have hN := hP.1
        refine pb_blk B.hx B.hb (lv' := [(3, .int (nI k)), (0, .ref mo), (1, .int f0), (2, .int g0)]) (st' := [.ref mo]) hl bkX6_same_73_74 rfl (fun ls hl => ?_)
        refine m_get B hw 3 (by decide) wd_F_X6_13 rfl dX6_same_74 ?_
        refine pb_blk B.hx B.hb (lv' := [(3, .int (nI k)), (0, .ref mo), (1, .int f0), (2, .int g0)]) (st' := [.int ((4 * f0) + (nI k)), .ref (mo + 2)]) hl bkX6_same_77_82 rfl (fun ls hl => ?_)
        refine m_lald B hw 2 (by decide) (by decide) rfl (by rw [ei, ix4]; exact vp_in_nI (show 4 * i + k < 320 by omega) (by decide)) (v := .long p1) (by rw [ei, ix4, nI_clamp (by omega)]; exact a1) dX6_same_82 ?_
        refine pb_blk B.hx B.hb (lv' := [(3, .int (nI k)), (0, .ref mo), (1, .int f0), (2, .int g0)]) (st' := [.ref mo, .long p1]) hl bkX6_same_83_84 rfl (fun ls hl => ?_)
        refine m_get B hw 3 (by decide) wd_F_X6_13 rfl dX6_same_84 ?_
        refine pb_blk B.hx B.hb (lv' := [(3, .int (nI k)), (0, .ref mo), (1, .int f0), (2, .int g0)]) (st' := [.int ((4 * g0) + (nI k)), .ref (mo + 2), .long p1]) hl bkX6_same_87_92 rfl (fun ls hl => ?_)
        refine m_lald B hw 2 (by decide) (by decide) rfl (by rw [ej, ix4]; exact vp_in_nI (show 4 * j + k < 320 by omega) (by decide)) (v := .long p2) (by rw [ej, ix4, nI_clamp (by omega)]; exact b1) dX6_same_92 ?_
        refine pb_blk B.hx B.hb (lv' := [(3, .int (nI k)), (0, .ref mo), (1, .int f0), (2, .int g0)]) (st' := [.int (lg_cmp p1 p2)]) hl bkX6_same_93_94 rfl (fun ls hl => ?_)
        refine lv_if_ne (tgt := 121) B.hx B.hb dX6_same_94 (by decide) (fun h2 => ?_) (fun h2 => ?_)
        · have hns : ¬ SmT (th i) (th j) := fun q => by rw [hu, hu2] at q; exact h2 ((lg_cmp_eq _ _).mpr ((fx_eq a3 b3).mpr (smF_t.mp q k hk4)).1)
          refine pb_blk B.hx B.hb (lv' := [(3, .int (nI k)), (0, .ref mo), (1, .int f0), (2, .int g0)]) (st' := [.int 0]) hl bkX6_same_121_122 rfl (fun ls hl => ?_)
          exact m_zret (v := 0) B hw dX6_same_122 rfl (by exact ⟨0, b2i false, _, Or.inr ⟨i, j, hi, hj, ei, ej, rfl, false, rfl, ⟨fun h9 => (by cases h9), fun h9 => absurd h9 hns⟩⟩, rfl, rfl, fun _ => rfl, hP.ag rfl Ag.rf⟩) (Nat.le_of_ble_eq_true rfl) (Nat.le_of_ble_eq_true rfl)
        · have g1 := (lg_cmp_eq _ _).mp h2
          refine pb_blk B.hx B.hb (lv' := [(3, .int (nI k)), (0, .ref mo), (1, .int f0), (2, .int g0)]) (st' := [.ref mo]) hl bkX6_same_97_98 rfl (fun ls hl => ?_)
          refine m_get B hw 4 (by decide) wd_F_X6_17 rfl dX6_same_98 ?_
          refine pb_blk B.hx B.hb (lv' := [(3, .int (nI k)), (0, .ref mo), (1, .int f0), (2, .int g0)]) (st' := [.int ((4 * f0) + (nI k)), .ref (mo + 3)]) hl bkX6_same_101_106 rfl (fun ls hl => ?_)
          refine m_lald B hw 3 (by decide) (by decide) rfl (by rw [ei, ix4]; exact vp_in_nI (show 4 * i + k < 320 by omega) (by decide)) (v := .long d1) (by rw [ei, ix4, nI_clamp (by omega)]; exact a2) dX6_same_106 ?_
          refine pb_blk B.hx B.hb (lv' := [(3, .int (nI k)), (0, .ref mo), (1, .int f0), (2, .int g0)]) (st' := [.ref mo, .long d1]) hl bkX6_same_107_108 rfl (fun ls hl => ?_)
          refine m_get B hw 4 (by decide) wd_F_X6_17 rfl dX6_same_108 ?_
          refine pb_blk B.hx B.hb (lv' := [(3, .int (nI k)), (0, .ref mo), (1, .int f0), (2, .int g0)]) (st' := [.int ((4 * g0) + (nI k)), .ref (mo + 3), .long d1]) hl bkX6_same_111_116 rfl (fun ls hl => ?_)
          refine m_lald B hw 3 (by decide) (by decide) rfl (by rw [ej, ix4]; exact vp_in_nI (show 4 * j + k < 320 by omega) (by decide)) (v := .long d2) (by rw [ej, ix4, nI_clamp (by omega)]; exact b2) dX6_same_116 ?_
          refine pb_blk B.hx B.hb (lv' := [(3, .int (nI k)), (0, .ref mo), (1, .int f0), (2, .int g0)]) (st' := [.int (lg_cmp d1 d2)]) hl bkX6_same_117_118 rfl (fun ls hl => ?_)
          refine lv_if_eq (tgt := 123) B.hx B.hb dX6_same_118 (by decide) (fun h3 => ?_) (fun h3 => ?_)
          · have g2 := (lg_cmp_eq _ _).mp h3
            have g3 := (fx_eq a3 b3).mp ⟨g1, g2⟩
            refine pb_blk B.hx B.hb (lv' := [(3, .int ((nI k) + 1)), (0, .ref mo), (1, .int f0), (2, .int g0)]) (st' := []) hl bkX6_same_123_68 rfl (fun ls hl => ?_)
            exact ih (k + 1) ls (by omega) hk4 (fun j hj => (Nat.lt_succ_iff_lt_or_eq.mp hj).elim (hu4 j) (fun e9 => by rw [e9]; exact g3)) (by rw [← nI_1]; exact lv_sub hl [0, 1, 2, 3] rfl)
          · have hns : ¬ SmT (th i) (th j) := fun q => by rw [hu, hu2] at q; exact h3 ((lg_cmp_eq _ _).mpr ((fx_eq a3 b3).mpr (smF_t.mp q k hk4)).2)
            refine pb_blk B.hx B.hb (lv' := [(3, .int (nI k)), (0, .ref mo), (1, .int f0), (2, .int g0)]) (st' := [.int 0]) hl bkX6_same_121_122 rfl (fun ls hl => ?_)
            exact m_zret (v := 0) B hw dX6_same_122 rfl (by exact ⟨0, b2i false, _, Or.inr ⟨i, j, hi, hj, ei, ej, rfl, false, rfl, ⟨fun h9 => (by cases h9), fun h9 => absurd h9 hns⟩⟩, rfl, rfl, fun _ => rfl, hP.ag rfl Ag.rf⟩) (Nat.le_of_ble_eq_true rfl) (Nat.le_of_ble_eq_true rfl)
  refine pb_blk B.hx B.hb (lv' := [(0, .ref mo), (1, .int f0), (2, .int g0)]) (st' := [.int f0, .ref mo, .ref mo]) hl bkX6_same_0_3 rfl (fun ls hl => ?_)
  refine m_callN B hw (c_X6_isThere l G (fun _ => False) mo S ct N f0 hP.1 hP.2.1) cy_X6_isThere im_X6_isThere se_X6_isThere wd_M_X6_107 hw.1 rfl hl.1 rfl (Nat.le_of_ble_eq_true rfl) ⟨by decide, by decide⟩ ⟨rfl, rfl⟩ ⟨Nat.le_refl _, Nat.le_refl _⟩ dX6_same_3 (fun v hv => ?_)
  obtain ⟨t1, rfl, ht1⟩ := hv
  refine lv_if_eq (tgt := 21) B.hx B.hb dX6_same_6 (by decide) (fun h1 => ?_) (fun h1 => ?_)
  · have y1 : ¬ Tr N f0 := fun q => by rw [ht1.mpr q] at h1; exact absurd h1 (by decide)
    refine pb_blk B.hx B.hb (lv' := [(0, .ref mo), (1, .int f0), (2, .int g0)]) (st' := [.int 1, .ref mo]) hl bkX6_same_21_22 rfl (fun ls hl => ?_)
    refine m_put B hw 0 (by decide) wd_F_X6_63 rfl rfl rfl rfl dX6_same_22 (fun H locs hw => ?_)
    refine pb_blk B.hx B.hb (lv' := [(0, .ref mo), (1, .int f0), (2, .int g0)]) (st' := [.ref mo]) hl bkX6_same_25_26 rfl (fun ls hl => ?_)
    refine m_get B hw 0 (by decide) wd_F_X6_63 (congrArg some (show _ = (.int 1 : Value) from rfl)) dX6_same_26 ?_
    refine lv_if_gt (tgt := 47) B.hx B.hb dX6_same_29 (by decide) (fun _ => ?_) (fun h => absurd h (by decide))
    refine pb_blk B.hx B.hb (lv' := [(0, .ref mo), (1, .int f0), (2, .int g0)]) (st' := [.int 0]) hl bkX6_same_47_48 rfl (fun ls hl => ?_)
    exact m_zret (v := 0) B hw dX6_same_48 rfl (by exact ⟨1, 0, 0, Or.inl ⟨rfl, fun q => y1 q.1⟩, rfl, rfl, fun _ => rfl, hP.ag rfl Ag.rf⟩) (Nat.le_of_ble_eq_true rfl) (Nat.le_of_ble_eq_true rfl)
  · obtain ⟨i, hi, rfl⟩ := ht1.mp (ts9 (fun q => h1 ((b2i_0 _).mpr q)))
    refine pb_blk B.hx B.hb (lv' := [(0, .ref mo), (1, .int (nI i)), (2, .int g0)]) (st' := [.int g0, .ref mo, .ref mo]) hl bkX6_same_9_11 rfl (fun ls hl => ?_)
    refine m_callN B hw (c_X6_isThere l G (fun _ => False) mo S ct N g0 hP.1 hP.2.1) cy_X6_isThere im_X6_isThere se_X6_isThere wd_M_X6_107 hw.1 rfl hl.1 rfl (Nat.le_of_ble_eq_true rfl) ⟨by decide, by decide⟩ ⟨rfl, rfl⟩ ⟨Nat.le_refl _, Nat.le_refl _⟩ dX6_same_11 (fun v hv => ?_)
    obtain ⟨t2, rfl, ht2⟩ := hv
    refine lv_if_eq (tgt := 21) B.hx B.hb dX6_same_14 (by decide) (fun h2 => ?_) (fun h2 => ?_)
    · have y2 : ¬ Tr N g0 := fun q => by rw [ht2.mpr q] at h2; exact absurd h2 (by decide)
      refine pb_blk B.hx B.hb (lv' := [(0, .ref mo), (1, .int (nI i)), (2, .int g0)]) (st' := [.int 1, .ref mo]) hl bkX6_same_21_22 rfl (fun ls hl => ?_)
      refine m_put B hw 0 (by decide) wd_F_X6_63 rfl rfl rfl rfl dX6_same_22 (fun H locs hw => ?_)
      refine pb_blk B.hx B.hb (lv' := [(0, .ref mo), (1, .int (nI i)), (2, .int g0)]) (st' := [.ref mo]) hl bkX6_same_25_26 rfl (fun ls hl => ?_)
      refine m_get B hw 0 (by decide) wd_F_X6_63 (congrArg some (show _ = (.int 1 : Value) from rfl)) dX6_same_26 ?_
      refine lv_if_gt (tgt := 47) B.hx B.hb dX6_same_29 (by decide) (fun _ => ?_) (fun h => absurd h (by decide))
      refine pb_blk B.hx B.hb (lv' := [(0, .ref mo), (1, .int (nI i)), (2, .int g0)]) (st' := [.int 0]) hl bkX6_same_47_48 rfl (fun ls hl => ?_)
      exact m_zret (v := 0) B hw dX6_same_48 rfl (by exact ⟨1, 0, 0, Or.inl ⟨rfl, fun q => y2 q.2⟩, rfl, rfl, fun _ => rfl, hP.ag rfl Ag.rf⟩) (Nat.le_of_ble_eq_true rfl) (Nat.le_of_ble_eq_true rfl)
    · obtain ⟨j, hj, rfl⟩ := ht2.mp (ts9 (fun q => h2 ((b2i_0 _).mpr q)))
      have hN := hP.1
      refine pb_blk B.hx B.hb (lv' := [(0, .ref mo), (1, .int (nI i)), (2, .int (nI j))]) (st' := [.int 0, .ref mo]) hl bkX6_same_17_22 rfl (fun ls hl => ?_)
      refine m_put B hw 0 (by decide) wd_F_X6_63 rfl rfl rfl rfl dX6_same_22 (fun H locs hw => ?_)
      refine pb_blk B.hx B.hb (lv' := [(0, .ref mo), (1, .int (nI i)), (2, .int (nI j))]) (st' := [.ref mo]) hl bkX6_same_25_26 rfl (fun ls hl => ?_)
      refine m_get B hw 0 (by decide) wd_F_X6_63 (congrArg some (show _ = (.int 0 : Value) from rfl)) dX6_same_26 ?_
      refine lv_if_gt (tgt := 47) B.hx B.hb dX6_same_29 (by decide) (fun h => absurd h (by decide)) (fun _ => ?_)
      refine pb_blk B.hx B.hb (lv' := [(0, .ref mo), (1, .int (nI i)), (2, .int (nI j))]) (st' := [.ref mo]) hl bkX6_same_32_33 rfl (fun ls hl => ?_)
      refine m_get B hw 2 (by decide) wd_F_X6_7 rfl dX6_same_33 ?_
      refine pb_blk B.hx B.hb (lv' := [(0, .ref mo), (1, .int (nI i)), (2, .int (nI j))]) (st' := [.int (nI i), .ref (mo + 1)]) hl bkX6_same_36_37 rfl (fun ls hl => ?_)
      refine m_iald B hw 1 (by decide) (by decide) rfl (vp_in_nI (show i < 80 by omega) (by decide)) (v := .int (kdT (th i))) (by rw [nI_clamp (by omega)]; exact (hP.2.2.1 i hi).kd) dX6_same_37 ?_
      refine pb_blk B.hx B.hb (lv' := [(0, .ref mo), (1, .int (nI i)), (2, .int (nI j))]) (st' := [.ref mo, .int (kdT (th i))]) hl bkX6_same_38_39 rfl (fun ls hl => ?_)
      refine m_get B hw 2 (by decide) wd_F_X6_7 rfl dX6_same_39 ?_
      refine pb_blk B.hx B.hb (lv' := [(0, .ref mo), (1, .int (nI i)), (2, .int (nI j))]) (st' := [.int (nI j), .ref (mo + 1), .int (kdT (th i))]) hl bkX6_same_42_43 rfl (fun ls hl => ?_)
      refine m_iald B hw 1 (by decide) (by decide) rfl (vp_in_nI (show j < 80 by omega) (by decide)) (v := .int (kdT (th j))) (by rw [nI_clamp (by omega)]; exact (hP.2.2.1 j hj).kd) dX6_same_43 ?_
      refine lv_icmp_eq (tgt := 49) B.hx B.hb dX6_same_44 (by decide) (fun h3 => ?_) (fun h3 => ?_)
      · refine pb_blk B.hx B.hb (lv' := [(0, .ref mo), (1, .int (nI i)), (2, .int (nI j))]) (st' := [.ref mo]) hl bkX6_same_49_50 rfl (fun ls hl => ?_)
        refine m_get B hw 2 (by decide) wd_F_X6_7 rfl dX6_same_50 ?_
        refine pb_blk B.hx B.hb (lv' := [(0, .ref mo), (1, .int (nI i)), (2, .int (nI j))]) (st' := [.int (nI i), .ref (mo + 1)]) hl bkX6_same_53_54 rfl (fun ls hl => ?_)
        refine m_iald B hw 1 (by decide) (by decide) rfl (vp_in_nI (show i < 80 by omega) (by decide)) (v := .int (kdT (th i))) (by rw [nI_clamp (by omega)]; exact (hP.2.2.1 i hi).kd) dX6_same_54 ?_
        refine pb_blk B.hx B.hb (lv' := [(0, .ref mo), (1, .int (nI i)), (2, .int (nI j))]) (st' := [.int 2, .int (kdT (th i))]) hl bkX6_same_55_56 rfl (fun ls hl => ?_)
        refine lv_icmp_ne (tgt := 66) B.hx B.hb dX6_same_56 (by decide) (fun h4 => ?_) (fun h4 => ?_)
        · obtain ⟨u, hu⟩ := not_inr.mp (fun q => h4 ((kdT_2 _).mpr q))
          obtain ⟨u2, hu2⟩ := not_inr.mp (fun q => h4 (h3.trans ((kdT_2 _).mpr q)))
          have fi := hP.2.2.1 i hi
          rw [hu] at fi
          have fj := hP.2.2.1 j hj
          rw [hu2] at fj
          refine pb_blk B.hx B.hb (lv' := [(3, .int 0), (0, .ref mo), (1, .int (nI i)), (2, .int (nI j))]) (st' := []) hl bkX6_same_66_68 rfl (fun ls hl => ?_)
          exact loop i j u u2 hi hj rfl rfl hu hu2 fi fj H locs hw 5 0 ls (by omega) (by omega) (fun k hk => absurd hk (Nat.not_lt_zero _)) (lv_sub hl [0, 1, 2, 3] rfl)
        · obtain ⟨sa, hsa⟩ := (kdT_2 _).mp h4
          obtain ⟨sb, hsb⟩ := (kdT_2 _).mp (h3.symm.trans h4)
          have si := hP.2.2.1 i hi
          rw [hsa] at si
          have sj := hP.2.2.1 j hj
          rw [hsb] at sj
          refine pb_blk B.hx B.hb (lv' := [(0, .ref mo), (1, .int (nI i)), (2, .int (nI j))]) (st' := [.int (nI j), .int (nI i), .ref mo]) hl bkX6_same_59_62 rfl (fun ls hl => ?_)
          refine m_callN B hw (c_X6_areSame l G (fun _ => False) mo _ _ i j sa sb (by omega) (by omega) si.2 sj.2) cy_X6_areSame im_X6_areSame se_X6_areSame wd_M_X6_212 hw.1 rfl hl.1 rfl (Nat.le_of_ble_eq_true rfl) ⟨by decide, by decide⟩ ⟨rfl, rfl⟩ ⟨Nat.le_refl _, Nat.le_refl _⟩ dX6_same_62 (fun v hv => ?_)
          obtain ⟨bb, rfl, hbb⟩ := hv
          exact m_zret (v := (b2i bb)) B hw dX6_same_65 (b2i_n _) (by exact ⟨0, b2i bb, _, Or.inr ⟨i, j, hi, hj, rfl, rfl, rfl, bb, rfl, by rw [hsa, hsb]; exact hbb⟩, rfl, rfl, fun _ => rfl, hP.ag rfl Ag.rf⟩) (Nat.le_of_ble_eq_true rfl) (Nat.le_of_ble_eq_true rfl)
      · have hns : ¬ SmT (th i) (th j) := fun q => h3 (SmT_kd q)
        refine pb_blk B.hx B.hb (lv' := [(0, .ref mo), (1, .int (nI i)), (2, .int (nI j))]) (st' := [.int 0]) hl bkX6_same_47_48 rfl (fun ls hl => ?_)
        exact m_zret (v := 0) B hw dX6_same_48 rfl (by exact ⟨0, b2i false, _, Or.inr ⟨i, j, hi, hj, rfl, rfl, rfl, false, rfl, ⟨fun h9 => (by cases h9), fun h9 => absurd h9 hns⟩⟩, rfl, rfl, fun _ => rfl, hP.ag rfl Ag.rf⟩) (Nat.le_of_ble_eq_true rfl) (Nat.le_of_ble_eq_true rfl)

def AsK (N : Nat) (th : Nat → Th) (as : St3) (R : Nat → Int32 × St3 → Prop) (v : Option Value) (S2 : Sc) (ct2 : Ct) : Prop := ∃ c r r', R c r ∧ S2 0 = .int (nI c) ∧ v = some (.int r') ∧ ((c = 0 ∧ r' = r.1 ∧ Pst N th r.2 S2 ct2) ∨ (c ≠ 0 ∧ Pst N th as S2 ct2))
theorem asb {N : Nat} {th : Nat → Th} {as : St3} {f : Int32} {S S2 : Sc} {ct ct2 : Ct} {Y : St3 → Nat → Int32 × St3 → Prop} (hP : Pst N th as S ct) (h : (S2 = va_up S 0 (.int 1) ∧ ¬ (Tr N f ∧ Tr N f)) ∨ (S2 = va_up S 0 (.int 2) ∧ ∃ i j, i < N ∧ j < N ∧ f = nI i ∧ f = nI j ∧ ¬ ((∃ u, th i = .inr u) ∧ ∃ u, th j = .inr u))) (hc : ct2 = ct) : AsK N th as (One N th f (Se1 Y)) (some (.int 0)) S2 ct2 := by
  subst hc
  rcases h with ⟨rfl, h⟩ | ⟨rfl, i, j, hi, hj, rfl, e, h⟩
  · exact ⟨1, (0, as), 0, Or.inl ⟨rfl, fun q => h ⟨q, q⟩⟩, rfl, rfl, Or.inr ⟨by decide, hP.ag rfl Ag.rf⟩⟩
  · have e2 : i = j := (nI_eq (by have := hP.1; omega) (by have := hP.1; omega)).mp e
    subst e2
    exact ⟨2, (0, as), 0, Or.inr ⟨i, hi, rfl, Or.inl ⟨rfl, fun q => h ⟨q, q⟩⟩⟩, rfl, rfl, Or.inr ⟨by decide, hP.ag rfl Ag.rf⟩⟩
theorem em_pcn {z : St3} (hc : ∀ i, i < z.1 → chg z.2.2 i = true) : pcn z.2.2 (2 * z.1 + 1) = 0 ↔ emZ z = true := by
  unfold emZ
  rw [Bool.and_eq_true, decide_eq_true_eq, Bool.not_eq_true']
  constructor
  · intro h
    have hf : ∀ j, j < 2 * z.1 + 1 → z.2.2 j = false := fun j hj => by
      cases e : z.2.2 j
      · rfl
      · have := pcn_pos e hj; omega
    refine ⟨?_, hf 0 (by omega)⟩
    rcases Nat.eq_zero_or_pos z.1 with q | q
    · exact q
    · have h1 := hc 0 q
      unfold chg at h1
      rw [hf (2 * 0 + 1) (by omega), hf (2 * 0) (by omega), hf (2 * 0 + 2) (by omega)] at h1
      exact absurd h1 (by decide)
  · rintro ⟨h1, h2⟩
    rw [h1]
    show pcn z.2.2 (0 + 1) = 0
    rw [pcn_n (fun q => by rw [(sp_t.mp q).1] at h2; exact absurd h2 (by decide))]
    rfl
theorem SeA.same {ct : Ct} {k : Nat} {y z : St3} (h : SeA ct k y) (e : SameZ z y) : SeA ct k z := by
  obtain ⟨e1, e2, e3⟩ := e
  obtain ⟨h0, h1, h2, h3⟩ := h
  refine ⟨by rw [e1]; exact h0, by rw [e1]; exact h1, fun i hi => by rw [e2 i hi]; exact h2 i (by rw [← e1]; exact hi), fun j hj => by rw [e3 j hj]; exact h3 j (by rw [← e1]; exact hj)⟩

def po_X6_assume (mo : Nat) (S : Sc) (ct : Ct) (N : Nat) (th : Nat → Th) (as : St3) (f0 : Int32) : Option Value → Sc → Ct → Prop := fun v S2 ct2 => AsK N th as (R_assume N th as f0) v S2 ct2
theorem bkX6_assume_0_3 : pb_chk cX6_assume 0 [.aload_n 0, .iload_n 1, .iload_n 1] = some 3 := by decide +kernel
theorem dX6_assume_3 : decode cX6_assume 3 = .ok (.invokevirtual 188, 3) := by decide +kernel
theorem dX6_assume_6 : decode cX6_assume 6 = .ok (.ifCond .ne 5, 3) := by decide +kernel
theorem bkX6_assume_9_10 : pb_chk cX6_assume 9 [.iconst 0] = some 10 := by decide +kernel
theorem dX6_assume_10 : decode cX6_assume 10 = .ok (.ireturn, 1) := by decide +kernel
theorem bkX6_assume_11_13 : pb_chk cX6_assume 11 [.aload_n 0, .iload_n 1] = some 13 := by decide +kernel
theorem dX6_assume_13 : decode cX6_assume 13 = .ok (.invokevirtual 204, 3) := by decide +kernel
theorem bkX6_assume_16_18 : pb_chk cX6_assume 16 [.aload_n 0, .aload_n 0] = some 18 := by decide +kernel
theorem dX6_assume_18 : decode cX6_assume 18 = .ok (.getfield 201, 3) := by decide +kernel
theorem dX6_assume_21 : decode cX6_assume 21 = .ok (.ifCond .ne 7, 3) := by decide +kernel
theorem bkX6_assume_28_29 : pb_chk cX6_assume 28 [.iconst 0] = some 29 := by decide +kernel
theorem dX6_assume_29 : decode cX6_assume 29 = .ok (.putfield 63, 3) := by decide +kernel
theorem bkX6_assume_32_33 : pb_chk cX6_assume 32 [.aload_n 0] = some 33 := by decide +kernel
theorem dX6_assume_33 : decode cX6_assume 33 = .ok (.getfield 63, 3) := by decide +kernel
theorem dX6_assume_36 : decode cX6_assume 36 = .ok (.ifCond .gt 13, 3) := by decide +kernel
theorem bkX6_assume_39_43 : pb_chk cX6_assume 39 [.aload_n 0, .iload_n 1, .bipush 80] = some 43 := by decide +kernel
theorem dX6_assume_43 : decode cX6_assume 43 = .ok (.invokevirtual 212, 3) := by decide +kernel
theorem dX6_assume_46 : decode cX6_assume 46 = .ok (.ifCond .eq 5, 3) := by decide +kernel
theorem bkX6_assume_51_55 : pb_chk cX6_assume 51 [.aload_n 0, .bipush 80, .iload_n 1] = some 55 := by decide +kernel
theorem dX6_assume_55 : decode cX6_assume 55 = .ok (.invokevirtual 164, 3) := by decide +kernel
theorem bkX6_assume_58_59 : pb_chk cX6_assume 58 [.iconst 1] = some 59 := by decide +kernel
theorem dX6_assume_59 : decode cX6_assume 59 = .ok (.ireturn, 1) := by decide +kernel
theorem bkX6_assume_49_50 : pb_chk cX6_assume 49 [.iconst 0] = some 50 := by decide +kernel
theorem dX6_assume_50 : decode cX6_assume 50 = .ok (.ireturn, 1) := by decide +kernel
theorem bkX6_assume_24_29 : pb_chk cX6_assume 24 [.iconst 2, .goto 4] = some 29 := by decide +kernel
set_option maxHeartbeats 4000000 in
set_option maxRecDepth 100000 in
theorem c_X6_assume (l : Launch) (G : Gm) (mo : Nat) (S : Sc) (ct : Ct) (N : Nat) (th : Nat → Th) (as : St3) (f0 : Int32) (hP : Pst N th as S ct) (hcg : ∀ i, i < N → ∀ z, th i = .inr z → ∀ k, k < z.1 → chg z.2.2 k = true) : Mm l yX6_assume cX6_assume 2 (some .boolean) (⟨3, 0, 0, 70⟩ : Room) G mo S ct [.ref mo, .int f0] (po_X6_assume mo S ct N th as f0) := by
  refine of_met (by decide) (Nat.le_of_ble_eq_true rfl) ?_
  intro p e s m below meth c ls B hA hM0 hl
  have hw := Mw.start hM0
  refine pb_blk B.hx B.hb (lv' := [(0, .ref mo), (1, .int f0)]) (st' := [.int f0, .int f0, .ref mo]) hl bkX6_assume_0_3 rfl (fun ls hl => ?_)
  refine m_callV B hw (c_X6_areSets l G mo S ct N th as f0 f0 hP) cy_X6_areSets im_X6_areSets se_X6_areSets wd_M_X6_188 rfl hl.1 rfl (Nat.le_of_ble_eq_true rfl) ⟨by decide, by decide⟩ ⟨rfl, rfl⟩ ⟨Nat.le_refl _, Nat.le_refl _⟩ dX6_assume_3 (fun v H locs Sa cta hw_60 hv => ?_)
  obtain ⟨hc, har⟩ := hv
  have hw := hw_60
  rcases har with ⟨rfl, hbad⟩ | ⟨rfl, rfl, i, j, sa, sb, hi, hj, ei, ej, hsa, hsb⟩
  · refine lv_if_ne (tgt := 11) B.hx B.hb dX6_assume_6 (by decide) (fun h => absurd h (by decide)) (fun _ => ?_)
    refine pb_blk B.hx B.hb (lv' := [(0, .ref mo), (1, .int f0)]) (st' := [.int 0]) hl bkX6_assume_9_10 rfl (fun ls hl => ?_)
    exact m_zret (v := 0) B hw dX6_assume_10 rfl (by exact asb hP hbad hc) (Nat.le_of_ble_eq_true rfl) (Nat.le_of_ble_eq_true rfl)
  · refine lv_if_ne (tgt := 11) B.hx B.hb dX6_assume_6 (by decide) (fun _ => ?_) (fun h => absurd h (by decide))
    have hN := hP.1
    rw [hc] at hw
    have hsz := hP.2.2.1 i hi
    rw [hsa] at hsz
    have hz := hsz.2
    have hz1 := hz.1
    refine pb_blk B.hx B.hb (lv' := [(0, .ref mo), (1, .int f0)]) (st' := [.int f0, .ref mo]) hl bkX6_assume_11_13 rfl (fun ls hl => ?_)
    refine m_callV B hw (c_X6_findPieces l G mo _ ct i sa (by omega) hz) cy_X6_findPieces im_X6_findPieces se_X6_findPieces wd_M_X6_204 rfl hl.1 (by rw [ei]; rfl) (Nat.le_of_ble_eq_true rfl) ⟨by decide, by decide⟩ ⟨rfl, rfl⟩ ⟨Nat.le_refl _, Nat.le_refl _⟩ dX6_assume_13 (fun v H locs Sb ctb hw_61 hv => ?_)
    obtain ⟨rfl, hS, h21, oo, hfp⟩ := hv
    have hw := hw_61
    have hPb : Pst N th as Sb ctb := hP.ag ((hS 1 (by decide)).trans rfl) (Ag.hi (fun a g1 g2 => oo a (by omega) (by omega)))
    have hS0 : Sb 0 = .int 0 := (hS 0 (by decide)).trans rfl
    have hep := em_pcn (hcg i hi sa hsa)
    have hph := (pcn_half sa.2.2 (2 * sa.1 + 1)).1
    refine pb_blk B.hx B.hb (lv' := [(0, .ref mo), (1, .int f0)]) (st' := [.ref mo, .ref mo]) hl bkX6_assume_16_18 rfl (fun ls hl => ?_)
    refine m_get B hw 21 (by decide) wd_F_X6_201 (congrArg some h21) dX6_assume_18 ?_
    refine lv_if_ne (tgt := 28) B.hx B.hb dX6_assume_21 (by decide) (fun h1 => ?_) (fun h1 => ?_)
    · have he : emZ sa = false := by cases e9 : emZ sa; rfl; exact absurd (by rw [hep.mpr e9]; rfl) h1
      refine pb_blk B.hx B.hb (lv' := [(0, .ref mo), (1, .int f0)]) (st' := [.int 0, .ref mo]) hl bkX6_assume_28_29 rfl (fun ls hl => ?_)
      refine m_put B hw 0 (by decide) wd_F_X6_63 rfl rfl rfl rfl dX6_assume_29 (fun H locs hw => ?_)
      refine pb_blk B.hx B.hb (lv' := [(0, .ref mo), (1, .int f0)]) (st' := [.ref mo]) hl bkX6_assume_32_33 rfl (fun ls hl => ?_)
      refine m_get B hw 0 (by decide) wd_F_X6_63 (congrArg some (show _ = (.int 0 : Value) from rfl)) dX6_assume_33 ?_
      refine lv_if_gt (tgt := 49) B.hx B.hb dX6_assume_36 (by decide) (fun h => absurd h (by decide)) (fun _ => ?_)
      refine pb_blk B.hx B.hb (lv' := [(0, .ref mo), (1, .int f0)]) (st' := [.int 80, .int f0, .ref mo]) hl bkX6_assume_39_43 rfl (fun ls hl => ?_)
      have hz2 : SeA ctb i sa := by unfold SeA; rw [oo 4 (by decide) (by decide), oo 5 (by decide) (by decide), oo 6 (by decide) (by decide), oo 7 (by decide) (by decide)]; exact hz
      refine m_callN B hw (c_X6_areSame l G (fun _ => False) mo _ ctb i 80 sa as (by omega) (by omega) hz2 hPb.2.2.2) cy_X6_areSame im_X6_areSame se_X6_areSame wd_M_X6_212 hw.1 rfl hl.1 (by rw [ei]; rfl) (Nat.le_of_ble_eq_true rfl) ⟨by decide, by decide⟩ ⟨rfl, rfl⟩ ⟨Nat.le_refl _, Nat.le_refl _⟩ dX6_assume_43 (fun v hv => ?_)
      obtain ⟨bb, rfl, hbb⟩ := hv
      refine lv_if_eq (tgt := 51) B.hx B.hb dX6_assume_46 (by decide) (fun h2 => ?_) (fun h2 => ?_)
      · have e0 : bb = false := (b2i_0 _).mp h2
        refine pb_blk B.hx B.hb (lv' := [(0, .ref mo), (1, .int f0)]) (st' := [.int f0, .int 80, .ref mo]) hl bkX6_assume_51_55 rfl (fun ls hl => ?_)
        refine m_callV B hw (c_X6_copySet l G mo _ ctb 80 i sa hz2 (by omega) (by omega) (by omega)) cy_X6_copySet im_X6_copySet se_X6_copySet wd_M_X6_164 rfl hl.1 (by rw [ei]; rfl) (Nat.le_of_ble_eq_true rfl) ⟨by decide, by decide⟩ ⟨rfl, rfl⟩ ⟨Nat.le_refl _, Nat.le_refl _⟩ dX6_assume_55 (fun v H locs Sc1 ctc hw_62 hv => ?_)
        obtain ⟨rfl, rfl, hz8, hcp⟩ := hv
        have hw := hw_62
        refine pb_blk B.hx B.hb (lv' := [(0, .ref mo), (1, .int f0)]) (st' := [.int 1]) hl bkX6_assume_58_59 rfl (fun ls hl => ?_)
        exact m_zret (v := 1) B hw dX6_assume_59 rfl (by exact ⟨0, (1, sa), 1, Or.inr ⟨i, hi, ei, Or.inr ⟨sa, hsa, Or.inr ⟨rfl, he, rfl, bb, by rw [e0]; rfl, hbb⟩⟩⟩, rfl, rfl, Or.inl ⟨rfl, rfl, hP.1, hPb.2.1, fun k hk => (hPb.2.2.1 k hk).cp hcp (by omega), hz8⟩⟩) (Nat.le_of_ble_eq_true rfl) (Nat.le_of_ble_eq_true rfl)
      · have e0 : bb = true := ts9 (fun q => h2 ((b2i_0 _).mpr q))
        refine pb_blk B.hx B.hb (lv' := [(0, .ref mo), (1, .int f0)]) (st' := [.int 0]) hl bkX6_assume_49_50 rfl (fun ls hl => ?_)
        exact m_zret (v := 0) B hw dX6_assume_50 rfl (by exact ⟨0, (0, sa), 0, Or.inr ⟨i, hi, ei, Or.inr ⟨sa, hsa, Or.inr ⟨rfl, he, rfl, bb, by rw [e0]; rfl, hbb⟩⟩⟩, rfl, rfl, Or.inl ⟨rfl, rfl, hPb.1, hPb.2.1, hPb.2.2.1, hPb.2.2.2.same (hbb.mp e0)⟩⟩) (Nat.le_of_ble_eq_true rfl) (Nat.le_of_ble_eq_true rfl)
    · have he : emZ sa = true := hep.mp ((nI_eq (by omega) (by decide)).mp (show nI (pcn sa.2.2 (2 * sa.1 + 1)) = nI 0 from h1))
      refine pb_blk B.hx B.hb (lv' := [(0, .ref mo), (1, .int f0)]) (st' := [.int 2, .ref mo]) hl bkX6_assume_24_29 rfl (fun ls hl => ?_)
      refine m_put B hw 0 (by decide) wd_F_X6_63 rfl rfl rfl rfl dX6_assume_29 (fun H locs hw => ?_)
      refine pb_blk B.hx B.hb (lv' := [(0, .ref mo), (1, .int f0)]) (st' := [.ref mo]) hl bkX6_assume_32_33 rfl (fun ls hl => ?_)
      refine m_get B hw 0 (by decide) wd_F_X6_63 (congrArg some (show _ = (.int 2 : Value) from rfl)) dX6_assume_33 ?_
      refine lv_if_gt (tgt := 49) B.hx B.hb dX6_assume_36 (by decide) (fun _ => ?_) (fun h => absurd h (by decide))
      refine pb_blk B.hx B.hb (lv' := [(0, .ref mo), (1, .int f0)]) (st' := [.int 0]) hl bkX6_assume_49_50 rfl (fun ls hl => ?_)
      exact m_zret (v := 0) B hw dX6_assume_50 rfl (by exact ⟨2, (0, as), 0, Or.inr ⟨i, hi, ei, Or.inr ⟨sa, hsa, Or.inl ⟨rfl, he⟩⟩⟩, rfl, rfl, Or.inr ⟨by decide, hPb.ag rfl Ag.rf⟩⟩) (Nat.le_of_ble_eq_true rfl) (Nat.le_of_ble_eq_true rfl)

