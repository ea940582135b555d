theorem in_01 {x : Int32} : inB x.toInt64 0 1 = true ↔ x = 0 ∨ x = 1 := by
  rw [inB_t, Int32.toInt_toInt64, Int64.toInt_zero, show (1 : Int64).toInt = 1 from rfl]
  constructor
  · rintro ⟨h1, h2⟩
    rcases (show x.toInt = 0 ∨ x.toInt = 1 by omega) with e | e
    · exact Or.inl (Int32.toInt_inj.mp e)
    · exact Or.inr (Int32.toInt_inj.mp e)
  · rintro (rfl | rfl) <;> decide
theorem in_02 {x : Int32} : inB x.toInt64 0 2 = true ↔ x = 0 ∨ x = 1 ∨ x = 2 := by
  rw [inB_t, Int32.toInt_toInt64, Int64.toInt_zero, show (2 : Int64).toInt = 2 from rfl]
  constructor
  · rintro ⟨h1, h2⟩
    rcases (show x.toInt = 0 ∨ x.toInt = 1 ∨ x.toInt = 2 by omega) with e | e | e
    · exact Or.inl (Int32.toInt_inj.mp e)
    · exact Or.inr (Or.inl (Int32.toInt_inj.mp e))
    · exact Or.inr (Or.inr (Int32.toInt_inj.mp e))
  · rintro (rfl | rfl | rfl) <;> decide
theorem in_03 {x : Int32} : inB x.toInt64 0 3 = true ↔ ∃ k, k < 4 ∧ x = nI k := by
  rw [inB_t, Int32.toInt_toInt64, Int64.toInt_zero, show (3 : Int64).toInt = 3 from rfl]
  constructor
  · rintro ⟨h1, h2⟩
    have hn : ¬ x < 0 := fun q => by rw [Int32.lt_iff_toInt_lt, Int32.toInt_zero] at q; omega
    obtain ⟨k, hk, rfl⟩ := nI_of hn
    rw [nI_toI hk] at h2
    exact ⟨k, by omega, rfl⟩
  · rintro ⟨k, hk, rfl⟩
    rw [nI_toI (by omega)]
    omega
theorem sel_out {u : Nat → Rat} {x : Int32} (h : ¬ ∃ k, k < 4 ∧ x = nI k) : sel u x = 0 := by
  unfold sel
  rw [if_pos]
  by_cases q : x < 0
  · exact Or.inl q
  · obtain ⟨k, hk, rfl⟩ := nI_of q
    refine Or.inr ?_
    have : ¬ k < 4 := fun q2 => h ⟨k, q2, rfl⟩
    exact k4_le (fun q3 => this ((nI_ltI hk (by decide)).mp q3))

def po_X6_kind (mo : Nat) (S : Sc) (ct : Ct) (N : Nat) (th : Nat → Th) (as : St3) (f0 : Int32) : Option Value → Sc → Ct → Prop := fun v S2 ct2 => RdK N th as (R_kind N th f0) v S2 ct2
theorem bkX6_kind_0_3 : pb_chk cX6_kind 0 [.aload_n 0, .aload_n 0, .iload_n 1] = some 3 := by decide +kernel
theorem dX6_kind_3 : decode cX6_kind 3 = .ok (.invokevirtual 107, 3) := by decide +kernel
theorem dX6_kind_6 : decode cX6_kind 6 = .ok (.ifCond .eq 7, 3) := by decide +kernel
theorem bkX6_kind_13_14 : pb_chk cX6_kind 13 [.iconst 1] = some 14 := by decide +kernel
theorem dX6_kind_14 : decode cX6_kind 14 = .ok (.putfield 63, 3) := by decide +kernel
theorem bkX6_kind_17_18 : pb_chk cX6_kind 17 [.aload_n 0] = some 18 := by decide +kernel
theorem dX6_kind_18 : decode cX6_kind 18 = .ok (.getfield 63, 3) := by decide +kernel
theorem dX6_kind_21 : decode cX6_kind 21 = .ok (.ifCond .le 7, 3) := by decide +kernel
theorem bkX6_kind_24_34 : pb_chk cX6_kind 24 [.iconst 0, .goto 9] = some 34 := by decide +kernel
theorem dX6_kind_34 : decode cX6_kind 34 = .ok (.ireturn, 1) := by decide +kernel
theorem bkX6_kind_9_14 : pb_chk cX6_kind 9 [.iconst 0, .goto 4] = some 14 := by decide +kernel
theorem bkX6_kind_28_29 : pb_chk cX6_kind 28 [.aload_n 0] = some 29 := by decide +kernel
theorem dX6_kind_29 : decode cX6_kind 29 = .ok (.getfield 7, 3) := by decide +kernel
theorem bkX6_kind_32_33 : pb_chk cX6_kind 32 [.iload_n 1] = some 33 := by decide +kernel
theorem dX6_kind_33 : decode cX6_kind 33 = .ok (.iaload, 1) := by decide +kernel
set_option maxHeartbeats 4000000 in
set_option maxRecDepth 100000 in
theorem c_X6_kind (l : Launch) (G : Gm) (mo : Nat) (S : Sc) (ct : Ct) (N : Nat) (th : Nat → Th) (as : St3) (f0 : Int32) (hP : Pst N th as S ct) : Mm l yX6_kind cX6_kind 2 (some .int) (⟨2, 0, 0, 46⟩ : Room) G mo S ct [.ref mo, .int f0] (po_X6_kind mo S ct N th as f0) := by
  refine of_met (by decide) (Nat.le_of_ble_eq_true rfl) ?_
  intro p e s m below meth c ls B hA hM0 hl
  have hw := Mw.start hM0
  refine pb_blk B.hx B.hb (lv' := [(0, .ref mo), (1, .int f0)]) (st' := [.int f0, .ref mo, .ref mo]) hl bkX6_kind_0_3 rfl (fun ls hl => ?_)
  refine m_callN B hw (c_X6_isThere l G (fun _ => False) mo S ct N f0 hP.1 hP.2.1) cy_X6_isThere im_X6_isThere se_X6_isThere wd_M_X6_107 hw.1 rfl hl.1 rfl (Nat.le_of_ble_eq_true rfl) ⟨by decide, by decide⟩ ⟨rfl, rfl⟩ ⟨Nat.le_refl _, Nat.le_refl _⟩ dX6_kind_3 (fun v hv => ?_)
  obtain ⟨t1, rfl, ht1⟩ := hv
  refine lv_if_eq (tgt := 13) B.hx B.hb dX6_kind_6 (by decide) (fun h1 => ?_) (fun h1 => ?_)
  · have y1 : ¬ Tr N f0 := fun q => by rw [ht1.mpr q] at h1; exact absurd h1 (by decide)
    refine pb_blk B.hx B.hb (lv' := [(0, .ref mo), (1, .int f0)]) (st' := [.int 1, .ref mo]) hl bkX6_kind_13_14 rfl (fun ls hl => ?_)
    refine m_put B hw 0 (by decide) wd_F_X6_63 rfl rfl rfl rfl dX6_kind_14 (fun H locs hw => ?_)
    refine pb_blk B.hx B.hb (lv' := [(0, .ref mo), (1, .int f0)]) (st' := [.ref mo]) hl bkX6_kind_17_18 rfl (fun ls hl => ?_)
    refine m_get B hw 0 (by decide) wd_F_X6_63 (congrArg some (show _ = (.int 1 : Value) from rfl)) dX6_kind_18 ?_
    refine lv_if_le (tgt := 28) B.hx B.hb dX6_kind_21 (by decide) (fun h => absurd h (by decide)) (fun _ => ?_)
    refine pb_blk B.hx B.hb (lv' := [(0, .ref mo), (1, .int f0)]) (st' := [.int 0]) hl bkX6_kind_24_34 rfl (fun ls hl => ?_)
    exact m_iret (v := 0) B hw dX6_kind_34 (by exact ⟨1, 0, 0, Or.inl ⟨rfl, y1⟩, rfl, rfl, fun _ => rfl, hP.ag rfl Ag.rf⟩) (Nat.le_of_ble_eq_true rfl) (Nat.le_of_ble_eq_true rfl)
  · obtain ⟨i, hi, rfl⟩ := ht1.mp (ts9 (fun q => h1 ((b2i_0 _).mpr q)))
    have hN := hP.1
    refine pb_blk B.hx B.hb (lv' := [(0, .ref mo), (1, .int (nI i))]) (st' := [.int 0, .ref mo]) hl bkX6_kind_9_14 rfl (fun ls hl => ?_)
    refine m_put B hw 0 (by decide) wd_F_X6_63 rfl rfl rfl rfl dX6_kind_14 (fun H locs hw => ?_)
    refine pb_blk B.hx B.hb (lv' := [(0, .ref mo), (1, .int (nI i))]) (st' := [.ref mo]) hl bkX6_kind_17_18 rfl (fun ls hl => ?_)
    refine m_get B hw 0 (by decide) wd_F_X6_63 (congrArg some (show _ = (.int 0 : Value) from rfl)) dX6_kind_18 ?_
    refine lv_if_le (tgt := 28) B.hx B.hb dX6_kind_21 (by decide) (fun _ => ?_) (fun h => absurd h (by decide))
    refine pb_blk B.hx B.hb (lv' := [(0, .ref mo), (1, .int (nI i))]) (st' := [.ref mo]) hl bkX6_kind_28_29 rfl (fun ls hl => ?_)
    refine m_get B hw 2 (by decide) wd_F_X6_7 rfl dX6_kind_29 ?_
    refine pb_blk B.hx B.hb (lv' := [(0, .ref mo), (1, .int (nI i))]) (st' := [.int (nI i), .ref (mo + 1)]) hl bkX6_kind_32_33 rfl (fun ls hl => ?_)
    refine m_iald B hw 1 (by decide) (by decide) rfl (vp_in_nI (show i < 80 by omega) (by decide)) (v := .int (kdT (th i))) (by rw [nI_clamp (by omega)]; exact (hP.2.2.1 i hi).kd) dX6_kind_33 ?_
    exact m_iret (v := (kdT (th i))) B hw dX6_kind_34 (by exact ⟨0, kdT (th i), _, Or.inr ⟨i, hi, rfl, rfl, rfl⟩, rfl, rfl, fun _ => rfl, hP.ag rfl Ag.rf⟩) (Nat.le_of_ble_eq_true rfl) (Nat.le_of_ble_eq_true rfl)

def po_X6_degree (mo : Nat) (S : Sc) (ct : Ct) (N : Nat) (th : Nat → Th) (as : St3) (f0 : Int32) : Option Value → Sc → Ct → Prop := fun v S2 ct2 => RdK N th as (R_degree N th f0) v S2 ct2
theorem bkX6_degree_0_3 : pb_chk cX6_degree 0 [.aload_n 0, .aload_n 0, .iload_n 1] = some 3 := by decide +kernel
theorem dX6_degree_3 : decode cX6_degree 3 = .ok (.invokevirtual 107, 3) := by decide +kernel
theorem dX6_degree_6 : decode cX6_degree 6 = .ok (.ifCond .ne 7, 3) := by decide +kernel
theorem bkX6_degree_13_15 : pb_chk cX6_degree 13 [.aload_n 0, .iload_n 1] = some 15 := by decide +kernel
theorem dX6_degree_15 : decode cX6_degree 15 = .ok (.invokevirtual 111, 3) := by decide +kernel
theorem dX6_degree_18 : decode cX6_degree 18 = .ok (.ifCond .eq 7, 3) := by decide +kernel
theorem bkX6_degree_25_26 : pb_chk cX6_degree 25 [.iconst 2] = some 26 := by decide +kernel
theorem dX6_degree_26 : decode cX6_degree 26 = .ok (.putfield 63, 3) := by decide +kernel
theorem bkX6_degree_29_30 : pb_chk cX6_degree 29 [.aload_n 0] = some 30 := by decide +kernel
theorem dX6_degree_30 : decode cX6_degree 30 = .ok (.getfield 63, 3) := by decide +kernel
theorem dX6_degree_33 : decode cX6_degree 33 = .ok (.ifCond .le 5, 3) := by decide +kernel
theorem bkX6_degree_36_37 : pb_chk cX6_degree 36 [.iconst 0] = some 37 := by decide +kernel
theorem dX6_degree_37 : decode cX6_degree 37 = .ok (.ireturn, 1) := by decide +kernel
theorem bkX6_degree_21_26 : pb_chk cX6_degree 21 [.iconst 0, .goto 4] = some 26 := by decide +kernel
theorem bkX6_degree_38_40 : pb_chk cX6_degree 38 [.aload_n 0, .aload_n 0] = some 40 := by decide +kernel
theorem dX6_degree_40 : decode cX6_degree 40 = .ok (.getfield 33, 3) := by decide +kernel
theorem bkX6_degree_43_44 : pb_chk cX6_degree 43 [.aload_n 0] = some 44 := by decide +kernel
theorem dX6_degree_44 : decode cX6_degree 44 = .ok (.getfield 36, 3) := by decide +kernel
theorem bkX6_degree_47_48 : pb_chk cX6_degree 47 [.iload_n 1] = some 48 := by decide +kernel
theorem dX6_degree_48 : decode cX6_degree 48 = .ok (.invokevirtual 114, 3) := by decide +kernel
theorem bkX6_degree_51_52 : pb_chk cX6_degree 51 [.aload_n 0] = some 52 := by decide +kernel
theorem dX6_degree_52 : decode cX6_degree 52 = .ok (.getfield 33, 3) := by decide +kernel
theorem dX6_degree_55 : decode cX6_degree 55 = .ok (.invokestatic 89, 3) := by decide +kernel
theorem dX6_degree_58 : decode cX6_degree 58 = .ok (.ireturn, 1) := by decide +kernel
theorem bkX6_degree_9_26 : pb_chk cX6_degree 9 [.iconst 1, .goto 16] = some 26 := by decide +kernel
set_option maxHeartbeats 4000000 in
set_option maxRecDepth 100000 in
theorem c_X6_degree (l : Launch) (G : Gm) (mo : Nat) (S : Sc) (ct : Ct) (N : Nat) (th : Nat → Th) (as : St3) (f0 : Int32) (hP : Pst N th as S ct) : Mm l yX6_degree cX6_degree 2 (some .int) (⟨2, 0, 0, 46⟩ : Room) G mo S ct [.ref mo, .int f0] (po_X6_degree mo S ct N th as f0) := by
  refine of_met (by decide) (Nat.le_of_ble_eq_true rfl) ?_
  intro p e s m below meth c ls B hA hM0 hl
  have hw := Mw.start hM0
  refine pb_blk B.hx B.hb (lv' := [(0, .ref mo), (1, .int f0)]) (st' := [.int f0, .ref mo, .ref mo]) hl bkX6_degree_0_3 rfl (fun ls hl => ?_)
  refine m_callN B hw (c_X6_isThere l G (fun _ => False) mo S ct N f0 hP.1 hP.2.1) cy_X6_isThere im_X6_isThere se_X6_isThere wd_M_X6_107 hw.1 rfl hl.1 rfl (Nat.le_of_ble_eq_true rfl) ⟨by decide, by decide⟩ ⟨rfl, rfl⟩ ⟨Nat.le_refl _, Nat.le_refl _⟩ dX6_degree_3 (fun v hv => ?_)
  obtain ⟨t1, rfl, ht1⟩ := hv
  refine lv_if_ne (tgt := 13) B.hx B.hb dX6_degree_6 (by decide) (fun h1 => ?_) (fun h1 => ?_)
  · obtain ⟨i, hi, rfl⟩ := ht1.mp (ts9 (fun q => h1 ((b2i_0 _).mpr q)))
    have hN := hP.1
    refine pb_blk B.hx B.hb (lv' := [(0, .ref mo), (1, .int (nI i))]) (st' := [.int (nI i), .ref mo, .ref mo]) hl bkX6_degree_13_15 rfl (fun ls hl => ?_)
    refine m_callN B hw (c_X6_isFormula l G (fun _ => False) mo S ct i (th i) (by have := hP.1; omega) (hP.2.2.1 i hi)) cy_X6_isFormula im_X6_isFormula se_X6_isFormula wd_M_X6_111 hw.1 rfl hl.1 rfl (Nat.le_of_ble_eq_true rfl) ⟨by decide, by decide⟩ ⟨rfl, rfl⟩ ⟨Nat.le_refl _, Nat.le_refl _⟩ dX6_degree_15 (fun v hv => ?_)
    obtain ⟨t3, rfl, ht3⟩ := hv
    refine lv_if_eq (tgt := 25) B.hx B.hb dX6_degree_18 (by decide) (fun h3 => ?_) (fun h3 => ?_)
    · have y3 : ¬ ∃ u, th i = .inl u := fun q => by rw [ht3.mpr q] at h3; exact absurd h3 (by decide)
      refine pb_blk B.hx B.hb (lv' := [(0, .ref mo), (1, .int (nI i))]) (st' := [.int 2, .ref mo]) hl bkX6_degree_25_26 rfl (fun ls hl => ?_)
      refine m_put B hw 0 (by decide) wd_F_X6_63 rfl rfl rfl rfl dX6_degree_26 (fun H locs hw => ?_)
      refine pb_blk B.hx B.hb (lv' := [(0, .ref mo), (1, .int (nI i))]) (st' := [.ref mo]) hl bkX6_degree_29_30 rfl (fun ls hl => ?_)
      refine m_get B hw 0 (by decide) wd_F_X6_63 (congrArg some (show _ = (.int 2 : Value) from rfl)) dX6_degree_30 ?_
      refine lv_if_le (tgt := 38) B.hx B.hb dX6_degree_33 (by decide) (fun h => absurd h (by decide)) (fun _ => ?_)
      refine pb_blk B.hx B.hb (lv' := [(0, .ref mo), (1, .int (nI i))]) (st' := [.int 0]) hl bkX6_degree_36_37 rfl (fun ls hl => ?_)
      exact m_iret (v := 0) B hw dX6_degree_37 (by exact ⟨2, 0, 0, Or.inr ⟨i, hi, rfl, Or.inl ⟨rfl, y3⟩⟩, rfl, rfl, fun _ => rfl, hP.ag rfl Ag.rf⟩) (Nat.le_of_ble_eq_true rfl) (Nat.le_of_ble_eq_true rfl)
    · obtain ⟨u, hu⟩ := ht3.mp (ts9 (fun q => h3 ((b2i_0 _).mpr q)))
      have fi := hP.2.2.1 i hi
      rw [hu] at fi
      refine pb_blk B.hx B.hb (lv' := [(0, .ref mo), (1, .int (nI i))]) (st' := [.int 0, .ref mo]) hl bkX6_degree_21_26 rfl (fun ls hl => ?_)
      refine m_put B hw 0 (by decide) wd_F_X6_63 rfl rfl rfl rfl dX6_degree_26 (fun H locs hw => ?_)
      refine pb_blk B.hx B.hb (lv' := [(0, .ref mo), (1, .int (nI i))]) (st' := [.ref mo]) hl bkX6_degree_29_30 rfl (fun ls hl => ?_)
      refine m_get B hw 0 (by decide) wd_F_X6_63 (congrArg some (show _ = (.int 0 : Value) from rfl)) dX6_degree_30 ?_
      refine lv_if_le (tgt := 38) B.hx B.hb dX6_degree_33 (by decide) (fun _ => ?_) (fun h => absurd h (by decide))
      refine pb_blk B.hx B.hb (lv' := [(0, .ref mo), (1, .int (nI i))]) (st' := [.ref mo, .ref mo]) hl bkX6_degree_38_40 rfl (fun ls hl => ?_)
      refine m_get B hw 9 (by decide) wd_F_X6_33 rfl dX6_degree_40 ?_
      refine pb_blk B.hx B.hb (lv' := [(0, .ref mo), (1, .int (nI i))]) (st' := [.ref mo, .ref (mo + 8), .ref mo]) hl bkX6_degree_43_44 rfl (fun ls hl => ?_)
      refine m_get B hw 10 (by decide) wd_F_X6_36 rfl dX6_degree_44 ?_
      refine pb_blk B.hx B.hb (lv' := [(0, .ref mo), (1, .int (nI i))]) (st' := [.int (nI i), .ref (mo + 9), .ref (mo + 8), .ref mo]) hl bkX6_degree_47_48 rfl (fun ls hl => ?_)
      refine m_callV B hw (c_X6_load l G mo _ _ 8 9 i u (by decide) (by decide) (by decide) (by decide) (by decide) (by omega) fi) cy_X6_load im_X6_load se_X6_load wd_M_X6_114 rfl hl.1 rfl (Nat.le_of_ble_eq_true rfl) ⟨by decide, by decide⟩ ⟨rfl, rfl⟩ ⟨Nat.le_refl _, Nat.le_refl _⟩ dX6_degree_48 (fun v H locs Sa cta hw_52 hv => ?_)
      obtain ⟨rfl, rfl, r1, o1⟩ := hv
      have hw := hw_52
      refine pb_blk B.hx B.hb (lv' := [(0, .ref mo), (1, .int (nI i))]) (st' := [.ref mo]) hl bkX6_degree_51_52 rfl (fun ls hl => ?_)
      refine m_get B hw 9 (by decide) wd_F_X6_33 rfl dX6_degree_52 ?_
      refine m_callS B (c_X6_high l G (fun _ => False) mo 8 9 _ _ (ext u) (by decide) (by decide) rfl rfl r1) cy_X6_high st_X6_high wd_M_X6_89 hw.1 rfl hl.1 rfl (Nat.le_of_ble_eq_true rfl) ⟨by decide, by decide⟩ ⟨rfl, rfl⟩ ⟨Nat.le_refl _, Nat.le_refl _⟩ dX6_degree_55 (fun v hv => ?_)
      rw [po_X6_high, hg_ext] at hv
      subst hv
      exact m_iret (v := (dgI u)) B hw dX6_degree_58 (by exact ⟨0, dgI u, _, Or.inr ⟨i, hi, rfl, Or.inr ⟨u, hu, rfl, rfl⟩⟩, rfl, rfl, fun _ => rfl, hP.ag rfl (Ag.hi (fun a g1 g2 => o1 a (by omega) (by omega)))⟩) (Nat.le_of_ble_eq_true rfl) (Nat.le_of_ble_eq_true rfl)
  · have y1 : ¬ Tr N f0 := fun q => by rw [ht1.mpr q] at h1; exact absurd h1 (by decide)
    refine pb_blk B.hx B.hb (lv' := [(0, .ref mo), (1, .int f0)]) (st' := [.int 1, .ref mo]) hl bkX6_degree_9_26 rfl (fun ls hl => ?_)
    refine m_put B hw 0 (by decide) wd_F_X6_63 rfl rfl rfl rfl dX6_degree_26 (fun H locs hw => ?_)
    refine pb_blk B.hx B.hb (lv' := [(0, .ref mo), (1, .int f0)]) (st' := [.ref mo]) hl bkX6_degree_29_30 rfl (fun ls hl => ?_)
    refine m_get B hw 0 (by decide) wd_F_X6_63 (congrArg some (show _ = (.int 1 : Value) from rfl)) dX6_degree_30 ?_
    refine lv_if_le (tgt := 38) B.hx B.hb dX6_degree_33 (by decide) (fun h => absurd h (by decide)) (fun _ => ?_)
    refine pb_blk B.hx B.hb (lv' := [(0, .ref mo), (1, .int f0)]) (st' := [.int 0]) hl bkX6_degree_36_37 rfl (fun ls hl => ?_)
    exact m_iret (v := 0) B hw dX6_degree_37 (by exact ⟨1, 0, 0, Or.inl ⟨rfl, y1⟩, rfl, rfl, fun _ => rfl, hP.ag rfl Ag.rf⟩) (Nat.le_of_ble_eq_true rfl) (Nat.le_of_ble_eq_true rfl)

def po_X6_at (mo : Nat) (S : Sc) (ct : Ct) (N : Nat) (th : Nat → Th) (as : St3) (f0 g0 k0 : Int32) : Option Value → Sc → Ct → Prop := fun v S2 ct2 => RdK N th as (R_at N th f0 g0 k0) v S2 ct2
theorem bkX6_at_0_3 : pb_chk cX6_at 0 [.aload_n 0, .aload_n 0, .iload_n 1] = some 3 := by decide +kernel
theorem dX6_at_3 : decode cX6_at 3 = .ok (.invokevirtual 107, 3) := by decide +kernel
theorem dX6_at_6 : decode cX6_at 6 = .ok (.ifCond .ne 7, 3) := by decide +kernel
theorem bkX6_at_13_15 : pb_chk cX6_at 13 [.aload_n 0, .iload_n 1] = some 15 := by decide +kernel
theorem dX6_at_15 : decode cX6_at 15 = .ok (.invokevirtual 111, 3) := by decide +kernel
theorem dX6_at_18 : decode cX6_at 18 = .ok (.ifCond .eq 13, 3) := by decide +kernel
theorem bkX6_at_31_36 : pb_chk cX6_at 31 [.iconst 2, .goto 4] = some 36 := by decide +kernel
theorem dX6_at_36 : decode cX6_at 36 = .ok (.putfield 63, 3) := by decide +kernel
theorem bkX6_at_39_40 : pb_chk cX6_at 39 [.aload_n 0] = some 40 := by decide +kernel
theorem dX6_at_40 : decode cX6_at 40 = .ok (.getfield 63, 3) := by decide +kernel
theorem dX6_at_43 : decode cX6_at 43 = .ok (.ifCond .le 5, 3) := by decide +kernel
theorem bkX6_at_46_47 : pb_chk cX6_at 46 [.iconst 0] = some 47 := by decide +kernel
theorem dX6_at_47 : decode cX6_at 47 = .ok (.ireturn, 1) := by decide +kernel
theorem bkX6_at_21_25 : pb_chk cX6_at 21 [.iload_n 3, .i2l, .lconst 0, .lconst 1] = some 25 := by decide +kernel
theorem dX6_at_25 : decode cX6_at 25 = .ok (.invokestatic 85, 3) := by decide +kernel
theorem dX6_at_28 : decode cX6_at 28 = .ok (.ifCond .ne 7, 3) := by decide +kernel
theorem bkX6_at_35_36 : pb_chk cX6_at 35 [.iconst 0] = some 36 := by decide +kernel
theorem bkX6_at_48_51 : pb_chk cX6_at 48 [.iload_n 2, .i2l, .lconst 0] = some 51 := by decide +kernel
theorem dX6_at_51 : decode cX6_at 51 = .ok (.ldc2_w 199, 3) := by decide +kernel
theorem dX6_at_54 : decode cX6_at 54 = .ok (.invokestatic 85, 3) := by decide +kernel
theorem bkX6_at_57_60 : pb_chk cX6_at 57 [.istore 4, .iload_n 3] = some 60 := by decide +kernel
theorem dX6_at_60 : decode cX6_at 60 = .ok (.ifCond .ne 26, 3) := by decide +kernel
theorem bkX6_at_86_88 : pb_chk cX6_at 86 [.iload 4] = some 88 := by decide +kernel
theorem dX6_at_88 : decode cX6_at 88 = .ok (.ifCond .eq 17, 3) := by decide +kernel
theorem bkX6_at_105_106 : pb_chk cX6_at 105 [.iconst 1] = some 106 := by decide +kernel
theorem dX6_at_106 : decode cX6_at 106 = .ok (.ireturn, 1) := by decide +kernel
theorem bkX6_at_91_92 : pb_chk cX6_at 91 [.aload_n 0] = some 92 := by decide +kernel
theorem dX6_at_92 : decode cX6_at 92 = .ok (.getfield 17, 3) := by decide +kernel
theorem bkX6_at_95_100 : pb_chk cX6_at 95 [.iconst 4, .iload_n 1, .imul, .iload_n 2, .iadd] = some 100 := by decide +kernel
theorem dX6_at_100 : decode cX6_at 100 = .ok (.laload, 1) := by decide +kernel
theorem bkX6_at_101_106 : pb_chk cX6_at 101 [.l2i, .goto 4] = some 106 := by decide +kernel
theorem bkX6_at_63_65 : pb_chk cX6_at 63 [.iload 4] = some 65 := by decide +kernel
theorem dX6_at_65 : decode cX6_at 65 = .ok (.ifCond .eq 17, 3) := by decide +kernel
theorem bkX6_at_82_106 : pb_chk cX6_at 82 [.iconst 0, .goto 23] = some 106 := by decide +kernel
theorem bkX6_at_68_69 : pb_chk cX6_at 68 [.aload_n 0] = some 69 := by decide +kernel
theorem dX6_at_69 : decode cX6_at 69 = .ok (.getfield 13, 3) := by decide +kernel
theorem bkX6_at_72_77 : pb_chk cX6_at 72 [.iconst 4, .iload_n 1, .imul, .iload_n 2, .iadd] = some 77 := by decide +kernel
theorem dX6_at_77 : decode cX6_at 77 = .ok (.laload, 1) := by decide +kernel
theorem bkX6_at_78_106 : pb_chk cX6_at 78 [.l2i, .goto 27] = some 106 := by decide +kernel
theorem bkX6_at_9_36 : pb_chk cX6_at 9 [.iconst 1, .goto 26] = some 36 := by decide +kernel
set_option maxHeartbeats 4000000 in
set_option maxRecDepth 100000 in
theorem c_X6_at (l : Launch) (G : Gm) (mo : Nat) (S : Sc) (ct : Ct) (N : Nat) (th : Nat → Th) (as : St3) (f0 g0 k0 : Int32) (hP : Pst N th as S ct) (hB : Bds N th as) : Mm l yX6_at cX6_at 5 (some .int) (⟨2, 0, 0, 46⟩ : Room) G mo S ct [.ref mo, .int f0, .int g0, .int k0] (po_X6_at mo S ct N th as f0 g0 k0) := by
  refine of_met (by decide) (Nat.le_of_ble_eq_true rfl) ?_
  intro p e s m below meth c ls B hA hM0 hl
  have hw := Mw.start hM0
  refine pb_blk B.hx B.hb (lv' := [(0, .ref mo), (1, .int f0), (2, .int g0), (3, .int k0)]) (st' := [.int f0, .ref mo, .ref mo]) hl bkX6_at_0_3 rfl (fun ls hl => ?_)
  refine m_callN B hw (c_X6_isThere l G (fun _ => False) mo S ct N f0 hP.1 hP.2.1) cy_X6_isThere im_X6_isThere se_X6_isThere wd_M_X6_107 hw.1 rfl hl.1 rfl (Nat.le_of_ble_eq_true rfl) ⟨by decide, by decide⟩ ⟨rfl, rfl⟩ ⟨Nat.le_refl _, Nat.le_refl _⟩ dX6_at_3 (fun v hv => ?_)
  obtain ⟨t1, rfl, ht1⟩ := hv
  refine lv_if_ne (tgt := 13) B.hx B.hb dX6_at_6 (by decide) (fun h1 => ?_) (fun h1 => ?_)
  · obtain ⟨i, hi, rfl⟩ := ht1.mp (ts9 (fun q => h1 ((b2i_0 _).mpr q)))
    have hN := hP.1
    refine pb_blk B.hx B.hb (lv' := [(0, .ref mo), (1, .int (nI i)), (2, .int g0), (3, .int k0)]) (st' := [.int (nI i), .ref mo, .ref mo]) hl bkX6_at_13_15 rfl (fun ls hl => ?_)
    refine m_callN B hw (c_X6_isFormula l G (fun _ => False) mo S ct i (th i) (by have := hP.1; omega) (hP.2.2.1 i hi)) cy_X6_isFormula im_X6_isFormula se_X6_isFormula wd_M_X6_111 hw.1 rfl hl.1 rfl (Nat.le_of_ble_eq_true rfl) ⟨by decide, by decide⟩ ⟨rfl, rfl⟩ ⟨Nat.le_refl _, Nat.le_refl _⟩ dX6_at_15 (fun v hv => ?_)
    obtain ⟨t3, rfl, ht3⟩ := hv
    refine lv_if_eq (tgt := 31) B.hx B.hb dX6_at_18 (by decide) (fun h3 => ?_) (fun h3 => ?_)
    · have y3 : ¬ ∃ u, th i = .inl u := fun q => by rw [ht3.mpr q] at h3; exact absurd h3 (by decide)
      refine pb_blk B.hx B.hb (lv' := [(0, .ref mo), (1, .int (nI i)), (2, .int g0), (3, .int k0)]) (st' := [.int 2, .ref mo]) hl bkX6_at_31_36 rfl (fun ls hl => ?_)
      refine m_put B hw 0 (by decide) wd_F_X6_63 rfl rfl rfl rfl dX6_at_36 (fun H locs hw => ?_)
      refine pb_blk B.hx B.hb (lv' := [(0, .ref mo), (1, .int (nI i)), (2, .int g0), (3, .int k0)]) (st' := [.ref mo]) hl bkX6_at_39_40 rfl (fun ls hl => ?_)
      refine m_get B hw 0 (by decide) wd_F_X6_63 (congrArg some (show _ = (.int 2 : Value) from rfl)) dX6_at_40 ?_
      refine lv_if_le (tgt := 48) B.hx B.hb dX6_at_43 (by decide) (fun h => absurd h (by decide)) (fun _ => ?_)
      refine pb_blk B.hx B.hb (lv' := [(0, .ref mo), (1, .int (nI i)), (2, .int g0), (3, .int k0)]) (st' := [.int 0]) hl bkX6_at_46_47 rfl (fun ls hl => ?_)
      exact m_iret (v := 0) B hw dX6_at_47 (by exact ⟨2, 0, 0, Or.inr ⟨i, hi, rfl, Or.inl ⟨rfl, y3⟩⟩, rfl, rfl, fun _ => rfl, hP.ag rfl Ag.rf⟩) (Nat.le_of_ble_eq_true rfl) (Nat.le_of_ble_eq_true rfl)
    · obtain ⟨u, hu⟩ := ht3.mp (ts9 (fun q => h3 ((b2i_0 _).mpr q)))
      have fi := hP.2.2.1 i hi
      rw [hu] at fi
      have hsu := hB.1 i hi u hu
      refine pb_blk B.hx B.hb (lv' := [(0, .ref mo), (1, .int (nI i)), (2, .int g0), (3, .int k0)]) (st' := [.long 1, .long 0, .long k0.toInt64, .ref mo]) hl bkX6_at_21_25 rfl (fun ls hl => ?_)
      refine m_callS B (c_X6_in l G (fun _ => False) k0.toInt64 0 1) cy_X6_in st_X6_in wd_M_X6_85 trivial rfl hl.1 rfl (Nat.le_of_ble_eq_true rfl) ⟨by decide, by decide⟩ ⟨rfl, rfl⟩ ⟨Nat.le_refl _, Nat.le_refl _⟩ dX6_at_25 (fun v hv => ?_)
      rw [po_X6_in] at hv
      subst hv
      refine lv_if_ne (tgt := 35) B.hx B.hb dX6_at_28 (by decide) (fun h4 => ?_) (fun h4 => ?_)
      · have hk := in_01.mp (ts9 (fun q => h4 ((b2i_0 _).mpr q)))
        refine pb_blk B.hx B.hb (lv' := [(0, .ref mo), (1, .int (nI i)), (2, .int g0), (3, .int k0)]) (st' := [.int 0, .ref mo]) hl bkX6_at_35_36 rfl (fun ls hl => ?_)
        refine m_put B hw 0 (by decide) wd_F_X6_63 rfl rfl rfl rfl dX6_at_36 (fun H locs hw => ?_)
        refine pb_blk B.hx B.hb (lv' := [(0, .ref mo), (1, .int (nI i)), (2, .int g0), (3, .int k0)]) (st' := [.ref mo]) hl bkX6_at_39_40 rfl (fun ls hl => ?_)
        refine m_get B hw 0 (by decide) wd_F_X6_63 (congrArg some (show _ = (.int 0 : Value) from rfl)) dX6_at_40 ?_
        refine lv_if_le (tgt := 48) B.hx B.hb dX6_at_43 (by decide) (fun _ => ?_) (fun h => absurd h (by decide))
        refine pb_blk B.hx B.hb (lv' := [(0, .ref mo), (1, .int (nI i)), (2, .int g0), (3, .int k0)]) (st' := [.long 0, .long g0.toInt64]) hl bkX6_at_48_51 rfl (fun ls hl => ?_)
        refine z_ldc2 B wd_L_X6_199 dX6_at_51 ?_
        refine m_callS B (c_X6_in l G (fun _ => False) g0.toInt64 0 3) cy_X6_in st_X6_in wd_M_X6_85 trivial rfl hl.1 rfl (Nat.le_of_ble_eq_true rfl) ⟨by decide, by decide⟩ ⟨rfl, rfl⟩ ⟨Nat.le_refl _, Nat.le_refl _⟩ dX6_at_54 (fun v hv => ?_)
        rw [po_X6_in] at hv
        subst hv
        refine pb_blk B.hx B.hb (lv' := [(4, .int (b2i (inB g0.toInt64 0 3))), (0, .ref mo), (1, .int (nI i)), (2, .int g0), (3, .int k0)]) (st' := [.int k0]) hl bkX6_at_57_60 rfl (fun ls hl => ?_)
        refine lv_if_ne (tgt := 86) B.hx B.hb dX6_at_60 (by decide) (fun h5 => ?_) (fun h5 => ?_)
        · have hk1 : k0 = 1 := hk.elim (fun q => absurd q h5) id
          refine pb_blk B.hx B.hb (lv' := [(4, .int (b2i (inB g0.toInt64 0 3))), (0, .ref mo), (1, .int (nI i)), (2, .int g0), (3, .int k0)]) (st' := [.int (b2i (inB g0.toInt64 0 3))]) hl bkX6_at_86_88 rfl (fun ls hl => ?_)
          refine lv_if_eq (tgt := 105) B.hx B.hb dX6_at_88 (by decide) (fun h6 => ?_) (fun h6 => ?_)
          · have hx : ¬ ∃ k, k < 4 ∧ g0 = nI k := fun q => by rw [in_03.mpr q] at h6; exact absurd h6 (by decide)
            refine pb_blk B.hx B.hb (lv' := [(4, .int (b2i (inB g0.toInt64 0 3))), (0, .ref mo), (1, .int (nI i)), (2, .int g0), (3, .int k0)]) (st' := [.int 1]) hl bkX6_at_105_106 rfl (fun ls hl => ?_)
            exact m_iret (v := 1) B hw dX6_at_106 (by exact ⟨0, _, _, Or.inr ⟨i, hi, rfl, Or.inr ⟨u, hu, Or.inr ⟨rfl, Or.inr ⟨hk1, by rw [sel_out hx]; rfl⟩⟩⟩⟩, rfl, rfl, fun _ => rfl, hP.ag rfl Ag.rf⟩) (Nat.le_of_ble_eq_true rfl) (Nat.le_of_ble_eq_true rfl)
          · obtain ⟨p, hp, rfl⟩ := in_03.mp (ts9 (fun q => h6 ((b2i_0 _).mpr q)))
            obtain ⟨pf, df, f1, f2, f3⟩ := fi.2 p hp
            have b0 := sm_nat f3 (hsu p hp)
            refine pb_blk B.hx B.hb (lv' := [(4, .int (b2i (inB (nI p).toInt64 0 3))), (0, .ref mo), (1, .int (nI i)), (2, .int (nI p)), (3, .int k0)]) (st' := [.ref mo]) hl bkX6_at_91_92 rfl (fun ls hl => ?_)
            refine m_get B hw 4 (by decide) wd_F_X6_17 rfl dX6_at_92 ?_
            refine pb_blk B.hx B.hb (lv' := [(4, .int (b2i (inB (nI p).toInt64 0 3))), (0, .ref mo), (1, .int (nI i)), (2, .int (nI p)), (3, .int k0)]) (st' := [.int ((4 * (nI i)) + (nI p)), .ref (mo + 3)]) hl bkX6_at_95_100 rfl (fun ls hl => ?_)
            rw [ix4]
            refine m_lald B hw 3 (by decide) (by decide) rfl (vp_in_nI (show 4 * i + p < 320 by omega) (by decide)) (v := .long df) (by rw [nI_clamp (by omega)]; exact f2) dX6_at_100 ?_
            refine pb_blk B.hx B.hb (lv' := [(4, .int (b2i (inB (nI p).toInt64 0 3))), (0, .ref mo), (1, .int (nI i)), (2, .int (nI p)), (3, .int k0)]) (st' := [.int (df).toInt32]) hl bkX6_at_101_106 rfl (fun ls hl => ?_)
            exact m_iret (v := (df).toInt32) B hw dX6_at_106 (by exact ⟨0, _, _, Or.inr ⟨i, hi, rfl, Or.inr ⟨u, hu, Or.inr ⟨rfl, Or.inr ⟨hk1, by rw [l2i_sm (by omega), sel_in hp]; exact f3.2⟩⟩⟩⟩, rfl, rfl, fun _ => rfl, hP.ag rfl Ag.rf⟩) (Nat.le_of_ble_eq_true rfl) (Nat.le_of_ble_eq_true rfl)
        · refine pb_blk B.hx B.hb (lv' := [(4, .int (b2i (inB g0.toInt64 0 3))), (0, .ref mo), (1, .int (nI i)), (2, .int g0), (3, .int k0)]) (st' := [.int (b2i (inB g0.toInt64 0 3))]) hl bkX6_at_63_65 rfl (fun ls hl => ?_)
          refine lv_if_eq (tgt := 82) B.hx B.hb dX6_at_65 (by decide) (fun h6 => ?_) (fun h6 => ?_)
          · have hx : ¬ ∃ k, k < 4 ∧ g0 = nI k := fun q => by rw [in_03.mpr q] at h6; exact absurd h6 (by decide)
            refine pb_blk B.hx B.hb (lv' := [(4, .int (b2i (inB g0.toInt64 0 3))), (0, .ref mo), (1, .int (nI i)), (2, .int g0), (3, .int k0)]) (st' := [.int 0]) hl bkX6_at_82_106 rfl (fun ls hl => ?_)
            exact m_iret (v := 0) B hw dX6_at_106 (by exact ⟨0, _, _, Or.inr ⟨i, hi, rfl, Or.inr ⟨u, hu, Or.inr ⟨rfl, Or.inl ⟨h5, by rw [sel_out hx]; rfl⟩⟩⟩⟩, rfl, rfl, fun _ => rfl, hP.ag rfl Ag.rf⟩) (Nat.le_of_ble_eq_true rfl) (Nat.le_of_ble_eq_true rfl)
          · obtain ⟨p, hp, rfl⟩ := in_03.mp (ts9 (fun q => h6 ((b2i_0 _).mpr q)))
            obtain ⟨pf, df, f1, f2, f3⟩ := fi.2 p hp
            have b0 := sm_nat f3 (hsu p hp)
            refine pb_blk B.hx B.hb (lv' := [(4, .int (b2i (inB (nI p).toInt64 0 3))), (0, .ref mo), (1, .int (nI i)), (2, .int (nI p)), (3, .int k0)]) (st' := [.ref mo]) hl bkX6_at_68_69 rfl (fun ls hl => ?_)
            refine m_get B hw 3 (by decide) wd_F_X6_13 rfl dX6_at_69 ?_
            refine pb_blk B.hx B.hb (lv' := [(4, .int (b2i (inB (nI p).toInt64 0 3))), (0, .ref mo), (1, .int (nI i)), (2, .int (nI p)), (3, .int k0)]) (st' := [.int ((4 * (nI i)) + (nI p)), .ref (mo + 2)]) hl bkX6_at_72_77 rfl (fun ls hl => ?_)
            rw [ix4]
            refine m_lald B hw 2 (by decide) (by decide) rfl (vp_in_nI (show 4 * i + p < 320 by omega) (by decide)) (v := .long pf) (by rw [nI_clamp (by omega)]; exact f1) dX6_at_77 ?_
            refine pb_blk B.hx B.hb (lv' := [(4, .int (b2i (inB (nI p).toInt64 0 3))), (0, .ref mo), (1, .int (nI i)), (2, .int (nI p)), (3, .int k0)]) (st' := [.int (pf).toInt32]) hl bkX6_at_78_106 rfl (fun ls hl => ?_)
            exact m_iret (v := (pf).toInt32) B hw dX6_at_106 (by exact ⟨0, _, _, Or.inr ⟨i, hi, rfl, Or.inr ⟨u, hu, Or.inr ⟨rfl, Or.inl ⟨h5, by rw [l2i_sm (by omega), sel_in hp]; exact f3.1⟩⟩⟩⟩, rfl, rfl, fun _ => rfl, hP.ag rfl Ag.rf⟩) (Nat.le_of_ble_eq_true rfl) (Nat.le_of_ble_eq_true rfl)
      · have hk : ¬ (k0 = 0 ∨ k0 = 1) := fun q => by rw [in_01.mpr q] at h4; exact absurd h4 (by decide)
        refine pb_blk B.hx B.hb (lv' := [(0, .ref mo), (1, .int (nI i)), (2, .int g0), (3, .int k0)]) (st' := [.int 2, .ref mo]) hl bkX6_at_31_36 rfl (fun ls hl => ?_)
        refine m_put B hw 0 (by decide) wd_F_X6_63 rfl rfl rfl rfl dX6_at_36 (fun H locs hw => ?_)
        refine pb_blk B.hx B.hb (lv' := [(0, .ref mo), (1, .int (nI i)), (2, .int g0), (3, .int k0)]) (st' := [.ref mo]) hl bkX6_at_39_40 rfl (fun ls hl => ?_)
        refine m_get B hw 0 (by decide) wd_F_X6_63 (congrArg some (show _ = (.int 2 : Value) from rfl)) dX6_at_40 ?_
        refine lv_if_le (tgt := 48) B.hx B.hb dX6_at_43 (by decide) (fun h => absurd h (by decide)) (fun _ => ?_)
        refine pb_blk B.hx B.hb (lv' := [(0, .ref mo), (1, .int (nI i)), (2, .int g0), (3, .int k0)]) (st' := [.int 0]) hl bkX6_at_46_47 rfl (fun ls hl => ?_)
        exact m_iret (v := 0) B hw dX6_at_47 (by exact ⟨2, 0, 0, Or.inr ⟨i, hi, rfl, Or.inr ⟨u, hu, Or.inl ⟨rfl, hk⟩⟩⟩, rfl, rfl, fun _ => rfl, hP.ag rfl Ag.rf⟩) (Nat.le_of_ble_eq_true rfl) (Nat.le_of_ble_eq_true rfl)
  · have y1 : ¬ Tr N f0 := fun q => by rw [ht1.mpr q] at h1; exact absurd h1 (by decide)
    refine pb_blk B.hx B.hb (lv' := [(0, .ref mo), (1, .int f0), (2, .int g0), (3, .int k0)]) (st' := [.int 1, .ref mo]) hl bkX6_at_9_36 rfl (fun ls hl => ?_)
    refine m_put B hw 0 (by decide) wd_F_X6_63 rfl rfl rfl rfl dX6_at_36 (fun H locs hw => ?_)
    refine pb_blk B.hx B.hb (lv' := [(0, .ref mo), (1, .int f0), (2, .int g0), (3, .int k0)]) (st' := [.ref mo]) hl bkX6_at_39_40 rfl (fun ls hl => ?_)
    refine m_get B hw 0 (by decide) wd_F_X6_63 (congrArg some (show _ = (.int 1 : Value) from rfl)) dX6_at_40 ?_
    refine lv_if_le (tgt := 48) B.hx B.hb dX6_at_43 (by decide) (fun h => absurd h (by decide)) (fun _ => ?_)
    refine pb_blk B.hx B.hb (lv' := [(0, .ref mo), (1, .int f0), (2, .int g0), (3, .int k0)]) (st' := [.int 0]) hl bkX6_at_46_47 rfl (fun ls hl => ?_)
    exact m_iret (v := 0) B hw dX6_at_47 (by exact ⟨1, 0, 0, Or.inl ⟨rfl, y1⟩, rfl, rfl, fun _ => rfl, hP.ag rfl Ag.rf⟩) (Nat.le_of_ble_eq_true rfl) (Nat.le_of_ble_eq_true rfl)

theorem ars_bad {N : Nat} {th : Nat → Th} {as : St3} {f : Int32} {S S2 : Sc} {ct ct2 : Ct} {Y : St3 → Nat → Int32 → Prop} (hP : Pst N th as S ct) (h : (S2 = va_up S 0 (.int 1) ∧ ¬ (Tr N f ∧ Tr N f)) ∨ (S2 = va_up S 0 (.int 2) ∧ ∃ i j, i < N ∧ j < N ∧ f = nI i ∧ f = nI j ∧ ¬ ((∃ u, th i = .inr u) ∧ ∃ u, th j = .inr u))) (hc : ct2 = ct) : RdK N th as (One N th f (Se1 Y)) (some (.int 0)) S2 ct2 := by
  subst hc
  rcases h with ⟨rfl, h⟩ | ⟨rfl, i, j, hi, hj, rfl, e, h⟩
  · exact ⟨1, 0, 0, Or.inl ⟨rfl, fun q => h ⟨q, q⟩⟩, rfl, rfl, fun _ => rfl, hP.ag rfl Ag.rf⟩
  · have e2 : i = j := (nI_eq (by have := hP.1; omega) (by have := hP.1; omega)).mp e
    subst e2
    exact ⟨2, 0, 0, Or.inr ⟨i, hi, rfl, Or.inl ⟨rfl, fun q => h ⟨q, q⟩⟩⟩, rfl, rfl, fun _ => rfl, hP.ag rfl Ag.rf⟩

def po_X6_pieces (mo : Nat) (S : Sc) (ct : Ct) (N : Nat) (th : Nat → Th) (as : St3) (f0 : Int32) : Option Value → Sc → Ct → Prop := fun v S2 ct2 => RdK N th as (R_pieces N th f0) v S2 ct2
theorem bkX6_pieces_0_3 : pb_chk cX6_pieces 0 [.aload_n 0, .iload_n 1, .iload_n 1] = some 3 := by decide +kernel
theorem dX6_pieces_3 : decode cX6_pieces 3 = .ok (.invokevirtual 188, 3) := by decide +kernel
theorem dX6_pieces_6 : decode cX6_pieces 6 = .ok (.ifCond .ne 5, 3) := by decide +kernel
theorem bkX6_pieces_9_10 : pb_chk cX6_pieces 9 [.iconst 0] = some 10 := by decide +kernel
theorem dX6_pieces_10 : decode cX6_pieces 10 = .ok (.ireturn, 1) := by decide +kernel
theorem bkX6_pieces_11_13 : pb_chk cX6_pieces 11 [.aload_n 0, .iload_n 1] = some 13 := by decide +kernel
theorem dX6_pieces_13 : decode cX6_pieces 13 = .ok (.invokevirtual 204, 3) := by decide +kernel
theorem bkX6_pieces_16_17 : pb_chk cX6_pieces 16 [.aload_n 0] = some 17 := by decide +kernel
theorem dX6_pieces_17 : decode cX6_pieces 17 = .ok (.getfield 201, 3) := by decide +kernel
theorem dX6_pieces_20 : decode cX6_pieces 20 = .ok (.ireturn, 1) := by decide +kernel
set_option maxHeartbeats 4000000 in
set_option maxRecDepth 100000 in
theorem c_X6_pieces (l : Launch) (G : Gm) (mo : Nat) (S : Sc) (ct : Ct) (N : Nat) (th : Nat → Th) (as : St3) (f0 : Int32) (hP : Pst N th as S ct) : Mm l yX6_pieces cX6_pieces 2 (some .int) (⟨3, 0, 0, 70⟩ : Room) G mo S ct [.ref mo, .int f0] (po_X6_pieces mo S ct N th as f0) := by
  refine of_met (by decide) (Nat.le_of_ble_eq_true rfl) ?_
  intro p e s m below meth c ls B hA hM0 hl
  have hw := Mw.start hM0
  refine pb_blk B.hx B.hb (lv' := [(0, .ref mo), (1, .int f0)]) (st' := [.int f0, .int f0, .ref mo]) hl bkX6_pieces_0_3 rfl (fun ls hl => ?_)
  refine m_callV B hw (c_X6_areSets l G mo S ct N th as f0 f0 hP) cy_X6_areSets im_X6_areSets se_X6_areSets wd_M_X6_188 rfl hl.1 rfl (Nat.le_of_ble_eq_true rfl) ⟨by decide, by decide⟩ ⟨rfl, rfl⟩ ⟨Nat.le_refl _, Nat.le_refl _⟩ dX6_pieces_3 (fun v H locs Sa cta hw_53 hv => ?_)
  obtain ⟨hc, har⟩ := hv
  have hw := hw_53
  rcases har with ⟨rfl, hbad⟩ | ⟨rfl, rfl, i, j, sa, sb, hi, hj, ei, ej, hsa, hsb⟩
  · refine lv_if_ne (tgt := 11) B.hx B.hb dX6_pieces_6 (by decide) (fun h => absurd h (by decide)) (fun _ => ?_)
    refine pb_blk B.hx B.hb (lv' := [(0, .ref mo), (1, .int f0)]) (st' := [.int 0]) hl bkX6_pieces_9_10 rfl (fun ls hl => ?_)
    exact m_iret (v := 0) B hw dX6_pieces_10 (by exact ars_bad hP hbad hc) (Nat.le_of_ble_eq_true rfl) (Nat.le_of_ble_eq_true rfl)
  · refine lv_if_ne (tgt := 11) B.hx B.hb dX6_pieces_6 (by decide) (fun _ => ?_) (fun h => absurd h (by decide))
    have hN := hP.1
    rw [hc] at hw
    have hsz := hP.2.2.1 i hi
    rw [hsa] at hsz
    have hz := hsz.2
    have hz1 := hz.1
    refine pb_blk B.hx B.hb (lv' := [(0, .ref mo), (1, .int f0)]) (st' := [.int f0, .ref mo]) hl bkX6_pieces_11_13 rfl (fun ls hl => ?_)
    refine m_callV B hw (c_X6_findPieces l G mo _ ct i sa (by omega) hz) cy_X6_findPieces im_X6_findPieces se_X6_findPieces wd_M_X6_204 rfl hl.1 (by rw [ei]; rfl) (Nat.le_of_ble_eq_true rfl) ⟨by decide, by decide⟩ ⟨rfl, rfl⟩ ⟨Nat.le_refl _, Nat.le_refl _⟩ dX6_pieces_13 (fun v H locs Sb ctb hw_54 hv => ?_)
    obtain ⟨rfl, hS, h21, oo, hfp⟩ := hv
    have hw := hw_54
    have hPb : Pst N th as Sb ctb := hP.ag ((hS 1 (by decide)).trans rfl) (Ag.hi (fun a g1 g2 => oo a (by omega) (by omega)))
    have hS0 : Sb 0 = .int 0 := (hS 0 (by decide)).trans rfl
    refine pb_blk B.hx B.hb (lv' := [(0, .ref mo), (1, .int f0)]) (st' := [.ref mo]) hl bkX6_pieces_16_17 rfl (fun ls hl => ?_)
    refine m_get B hw 21 (by decide) wd_F_X6_201 (congrArg some h21) dX6_pieces_17 ?_
    exact m_iret (v := (nI (pcn sa.2.2 (2 * sa.1 + 1)))) B hw dX6_pieces_20 (by exact ⟨0, _, _, Or.inr ⟨i, hi, ei, Or.inr ⟨sa, hsa, rfl, rfl⟩⟩, hS0, rfl, fun _ => rfl, hPb⟩) (Nat.le_of_ble_eq_true rfl) (Nat.le_of_ble_eq_true rfl)

theorem in_pc {k : Int32} {P : Nat} (hP : P < 2 ^ 20) : inB k.toInt64 0 (nI P - 1).toInt64 = true ↔ ∃ j, j < P ∧ k = nI j := by
  rw [inB_t, Int32.toInt_toInt64, Int32.toInt_toInt64, nI_m1 hP, Int64.toInt_zero]
  constructor
  · rintro ⟨h1, h2⟩
    have hn : ¬ k < 0 := fun q => by rw [Int32.lt_iff_toInt_lt, Int32.toInt_zero] at q; omega
    obtain ⟨j, hj, rfl⟩ := nI_of hn
    rw [nI_toI hj] at h2
    exact ⟨j, by omega, rfl⟩
  · rintro ⟨j, hj, rfl⟩
    rw [nI_toI (by omega)]
    omega
theorem pcn_on {mk : Nat → Bool} {n j : Nat} (h : j < pcn mk n) : ∃ c, c < n ∧ sp mk c = true ∧ pcn mk c = j := by
  induction n with
  | zero => exact absurd h (Nat.not_lt_zero _)
  | succ n ih =>
    by_cases e : sp mk n = true
    · rw [pcn_y e] at h
      by_cases e2 : j = pcn mk n
      · exact ⟨n, by omega, e, e2.symm⟩
      · obtain ⟨c, h1, h2, h3⟩ := ih (by omega)
        exact ⟨c, by omega, h2, h3⟩
    · rw [pcn_n e] at h
      obtain ⟨c, h1, h2, h3⟩ := ih h
      exact ⟨c, by omega, h2, h3⟩

def po_X6_end (mo : Nat) (S : Sc) (ct : Ct) (N : Nat) (th : Nat → Th) (as : St3) (f0 k0 sd k2 : Int32) : Option Value → Sc → Ct → Prop := fun v S2 ct2 => RdK N th as (R_end N th f0 k0 sd k2) v S2 ct2
theorem bkX6_end_0_3 : pb_chk cX6_end 0 [.aload_n 0, .iload_n 1, .iload_n 1] = some 3 := by decide +kernel
theorem dX6_end_3 : decode cX6_end 3 = .ok (.invokevirtual 188, 3) := by decide +kernel
theorem dX6_end_6 : decode cX6_end 6 = .ok (.ifCond .ne 5, 3) := by decide +kernel
theorem bkX6_end_9_10 : pb_chk cX6_end 9 [.iconst 0] = some 10 := by decide +kernel
theorem dX6_end_10 : decode cX6_end 10 = .ok (.ireturn, 1) := by decide +kernel
theorem bkX6_end_11_13 : pb_chk cX6_end 11 [.aload_n 0, .iload_n 1] = some 13 := by decide +kernel
theorem dX6_end_13 : decode cX6_end 13 = .ok (.invokevirtual 204, 3) := by decide +kernel
theorem bkX6_end_16_20 : pb_chk cX6_end 16 [.iload_n 2, .i2l, .lconst 0, .aload_n 0] = some 20 := by decide +kernel
theorem dX6_end_20 : decode cX6_end 20 = .ok (.getfield 201, 3) := by decide +kernel
theorem bkX6_end_23_26 : pb_chk cX6_end 23 [.iconst 1, .isub, .i2l] = some 26 := by decide +kernel
theorem dX6_end_26 : decode cX6_end 26 = .ok (.invokestatic 85, 3) := by decide +kernel
theorem dX6_end_29 : decode cX6_end 29 = .ok (.ifCond .ne 9, 3) := by decide +kernel
theorem bkX6_end_38_42 : pb_chk cX6_end 38 [.iload_n 3, .i2l, .lconst 0, .lconst 1] = some 42 := by decide +kernel
theorem dX6_end_42 : decode cX6_end 42 = .ok (.invokestatic 85, 3) := by decide +kernel
theorem dX6_end_45 : decode cX6_end 45 = .ok (.ifCond .eq 16, 3) := by decide +kernel
theorem bkX6_end_61_63 : pb_chk cX6_end 61 [.aload_n 0, .iconst 2] = some 63 := by decide +kernel
theorem dX6_end_63 : decode cX6_end 63 = .ok (.invokevirtual 97, 3) := by decide +kernel
theorem dX6_end_66 : decode cX6_end 66 = .ok (.ireturn, 1) := by decide +kernel
theorem bkX6_end_48_52 : pb_chk cX6_end 48 [.iload 4, .i2l, .lconst 0] = some 52 := by decide +kernel
theorem dX6_end_52 : decode cX6_end 52 = .ok (.ldc2_w 157, 3) := by decide +kernel
theorem dX6_end_55 : decode cX6_end 55 = .ok (.invokestatic 85, 3) := by decide +kernel
theorem dX6_end_58 : decode cX6_end 58 = .ok (.ifCond .ne 9, 3) := by decide +kernel
theorem bkX6_end_67_68 : pb_chk cX6_end 67 [.iload_n 3] = some 68 := by decide +kernel
theorem dX6_end_68 : decode cX6_end 68 = .ok (.ifCond .ne 12, 3) := by decide +kernel
theorem bkX6_end_80_81 : pb_chk cX6_end 80 [.aload_n 0] = some 81 := by decide +kernel
theorem dX6_end_81 : decode cX6_end 81 = .ok (.getfield 60, 3) := by decide +kernel
theorem bkX6_end_84_85 : pb_chk cX6_end 84 [.iload_n 2] = some 85 := by decide +kernel
theorem dX6_end_85 : decode cX6_end 85 = .ok (.iaload, 1) := by decide +kernel
theorem bkX6_end_86_91 : pb_chk cX6_end 86 [.istore 5, .iload 5, .iload_n 3] = some 91 := by decide +kernel
theorem dX6_end_91 : decode cX6_end 91 = .ok (.ifCond .ne 7, 3) := by decide +kernel
theorem bkX6_end_98_100 : pb_chk cX6_end 98 [.iconst 2, .aload_n 0] = some 100 := by decide +kernel
theorem dX6_end_100 : decode cX6_end 100 = .ok (.getfield 20, 3) := by decide +kernel
theorem bkX6_end_103_104 : pb_chk cX6_end 103 [.iload_n 1] = some 104 := by decide +kernel
theorem dX6_end_104 : decode cX6_end 104 = .ok (.iaload, 1) := by decide +kernel
theorem bkX6_end_105_106 : pb_chk cX6_end 105 [.imul] = some 106 := by decide +kernel
theorem dX6_end_106 : decode cX6_end 106 = .ok (.if_icmp .ne 15, 3) := by decide +kernel
theorem bkX6_end_121_123 : pb_chk cX6_end 121 [.iload 4] = some 123 := by decide +kernel
theorem dX6_end_123 : decode cX6_end 123 = .ok (.ifCond .ne 17, 3) := by decide +kernel
theorem bkX6_end_140_148 : pb_chk cX6_end 140 [.sipush 160, .iload_n 1, .imul, .iload 5, .iconst 2] = some 148 := by decide +kernel
theorem dX6_end_148 : decode cX6_end 148 = .ok (.irem, 1) := by decide +kernel
theorem bkX6_end_149_150 : pb_chk cX6_end 149 [.iconst 1] = some 150 := by decide +kernel
theorem dX6_end_150 : decode cX6_end 150 = .ok (.if_icmp .ne 10, 3) := by decide +kernel
theorem bkX6_end_160_161 : pb_chk cX6_end 160 [.iload_n 3] = some 161 := by decide +kernel
theorem dX6_end_161 : decode cX6_end 161 = .ok (.ifCond .ne 12, 3) := by decide +kernel
theorem bkX6_end_173_176 : pb_chk cX6_end 173 [.iload 5, .iconst 2] = some 176 := by decide +kernel
theorem dX6_end_176 : decode cX6_end 176 = .ok (.idiv, 1) := by decide +kernel
theorem bkX6_end_177_183 : pb_chk cX6_end 177 [.iadd, .istore 6, .iload 4, .iconst 1] = some 183 := by decide +kernel
theorem dX6_end_183 : decode cX6_end 183 = .ok (.if_icmp .ne 13, 3) := by decide +kernel
theorem bkX6_end_196_197 : pb_chk cX6_end 196 [.aload_n 0] = some 197 := by decide +kernel
theorem dX6_end_197 : decode cX6_end 197 = .ok (.getfield 26, 3) := by decide +kernel
theorem bkX6_end_200_202 : pb_chk cX6_end 200 [.iload 6] = some 202 := by decide +kernel
theorem dX6_end_202 : decode cX6_end 202 = .ok (.laload, 1) := by decide +kernel
theorem bkX6_end_203_204 : pb_chk cX6_end 203 [.l2i] = some 204 := by decide +kernel
theorem dX6_end_204 : decode cX6_end 204 = .ok (.ireturn, 1) := by decide +kernel
theorem bkX6_end_186_187 : pb_chk cX6_end 186 [.aload_n 0] = some 187 := by decide +kernel
theorem dX6_end_187 : decode cX6_end 187 = .ok (.getfield 23, 3) := by decide +kernel
theorem bkX6_end_190_192 : pb_chk cX6_end 190 [.iload 6] = some 192 := by decide +kernel
theorem dX6_end_192 : decode cX6_end 192 = .ok (.laload, 1) := by decide +kernel
theorem bkX6_end_193_204 : pb_chk cX6_end 193 [.goto 10, .l2i] = some 204 := by decide +kernel
theorem bkX6_end_153_156 : pb_chk cX6_end 153 [.iload 5, .iconst 2] = some 156 := by decide +kernel
theorem dX6_end_156 : decode cX6_end 156 = .ok (.idiv, 1) := by decide +kernel
theorem bkX6_end_157_177 : pb_chk cX6_end 157 [.goto 20] = some 177 := by decide +kernel
theorem bkX6_end_126_129 : pb_chk cX6_end 126 [.iload 5, .iconst 2] = some 129 := by decide +kernel
theorem dX6_end_129 : decode cX6_end 129 = .ok (.irem, 1) := by decide +kernel
theorem bkX6_end_130_131 : pb_chk cX6_end 130 [.iconst 1] = some 131 := by decide +kernel
theorem dX6_end_131 : decode cX6_end 131 = .ok (.if_icmp .ne 7, 3) := by decide +kernel
theorem bkX6_end_138_139 : pb_chk cX6_end 138 [.iconst 1] = some 139 := by decide +kernel
theorem dX6_end_139 : decode cX6_end 139 = .ok (.ireturn, 1) := by decide +kernel
theorem bkX6_end_134_139 : pb_chk cX6_end 134 [.iconst 2, .goto 4] = some 139 := by decide +kernel
theorem bkX6_end_109_112 : pb_chk cX6_end 109 [.iload 4, .iconst 2] = some 112 := by decide +kernel
theorem dX6_end_112 : decode cX6_end 112 = .ok (.if_icmp .ne 7, 3) := by decide +kernel
theorem bkX6_end_119_120 : pb_chk cX6_end 119 [.iconst 0] = some 120 := by decide +kernel
theorem dX6_end_120 : decode cX6_end 120 = .ok (.ireturn, 1) := by decide +kernel
theorem bkX6_end_115_120 : pb_chk cX6_end 115 [.iconst 1, .goto 4] = some 120 := by decide +kernel
theorem bkX6_end_71_72 : pb_chk cX6_end 71 [.aload_n 0] = some 72 := by decide +kernel
theorem dX6_end_72 : decode cX6_end 72 = .ok (.getfield 57, 3) := by decide +kernel
theorem bkX6_end_75_76 : pb_chk cX6_end 75 [.iload_n 2] = some 76 := by decide +kernel
theorem dX6_end_76 : decode cX6_end 76 = .ok (.iaload, 1) := by decide +kernel
theorem bkX6_end_77_91 : pb_chk cX6_end 77 [.goto 9, .istore 5, .iload 5, .iload_n 3] = some 91 := by decide +kernel
theorem bkX6_end_94_106 : pb_chk cX6_end 94 [.iconst 0, .goto 11] = some 106 := by decide +kernel
theorem bkX6_end_164_167 : pb_chk cX6_end 164 [.iload 5, .iconst 2] = some 167 := by decide +kernel
theorem dX6_end_167 : decode cX6_end 167 = .ok (.idiv, 1) := by decide +kernel
theorem bkX6_end_168_177 : pb_chk cX6_end 168 [.iconst 1, .isub, .goto 7] = some 177 := by decide +kernel
theorem bkX6_end_32_34 : pb_chk cX6_end 32 [.aload_n 0, .iconst 1] = some 34 := by decide +kernel
theorem dX6_end_34 : decode cX6_end 34 = .ok (.invokevirtual 97, 3) := by decide +kernel
theorem dX6_end_37 : decode cX6_end 37 = .ok (.ireturn, 1) := by decide +kernel
set_option maxHeartbeats 4000000 in
set_option maxRecDepth 100000 in
theorem c_X6_end (l : Launch) (G : Gm) (mo : Nat) (S : Sc) (ct : Ct) (N : Nat) (th : Nat → Th) (as : St3) (f0 k0 sd k2 : Int32) (hP : Pst N th as S ct) (hB : Bds N th as) : Mm l yX6_end cX6_end 7 (some .int) (⟨3, 0, 0, 74⟩ : Room) G mo S ct [.ref mo, .int f0, .int k0, .int sd, .int k2] (po_X6_end mo S ct N th as f0 k0 sd k2) := by
  refine of_met (by decide) (Nat.le_of_ble_eq_true rfl) ?_
  intro p e s m below meth c ls B hA hM0 hl
  have hw := Mw.start hM0
  refine pb_blk B.hx B.hb (lv' := [(0, .ref mo), (1, .int f0), (2, .int k0), (3, .int sd), (4, .int k2)]) (st' := [.int f0, .int f0, .ref mo]) hl bkX6_end_0_3 rfl (fun ls hl => ?_)
  refine m_callV B hw (c_X6_areSets l G mo S ct N th as f0 f0 hP) cy_X6_areSets im_X6_areSets se_X6_areSets wd_M_X6_188 rfl hl.1 rfl (Nat.le_of_ble_eq_true rfl) ⟨by decide, by decide⟩ ⟨rfl, rfl⟩ ⟨Nat.le_refl _, Nat.le_refl _⟩ dX6_end_3 (fun v H locs Sa cta hw_55 hv => ?_)
  obtain ⟨hc, har⟩ := hv
  have hw := hw_55
  rcases har with ⟨rfl, hbad⟩ | ⟨rfl, rfl, i, j, sa, sb, hi, hj, ei, ej, hsa, hsb⟩
  · refine lv_if_ne (tgt := 11) B.hx B.hb dX6_end_6 (by decide) (fun h => absurd h (by decide)) (fun _ => ?_)
    refine pb_blk B.hx B.hb (lv' := [(0, .ref mo), (1, .int f0), (2, .int k0), (3, .int sd), (4, .int k2)]) (st' := [.int 0]) hl bkX6_end_9_10 rfl (fun ls hl => ?_)
    exact m_iret (v := 0) B hw dX6_end_10 (by exact ars_bad hP hbad hc) (Nat.le_of_ble_eq_true rfl) (Nat.le_of_ble_eq_true rfl)
  · refine lv_if_ne (tgt := 11) B.hx B.hb dX6_end_6 (by decide) (fun _ => ?_) (fun h => absurd h (by decide))
    have hN := hP.1
    rw [hc] at hw
    have hsz := hP.2.2.1 i hi
    rw [hsa] at hsz
    have hz := hsz.2
    have hz1 := hz.1
    refine pb_blk B.hx B.hb (lv' := [(0, .ref mo), (1, .int f0), (2, .int k0), (3, .int sd), (4, .int k2)]) (st' := [.int f0, .ref mo]) hl bkX6_end_11_13 rfl (fun ls hl => ?_)
    refine m_callV B hw (c_X6_findPieces l G mo _ ct i sa (by omega) hz) cy_X6_findPieces im_X6_findPieces se_X6_findPieces wd_M_X6_204 rfl hl.1 (by rw [ei]; rfl) (Nat.le_of_ble_eq_true rfl) ⟨by decide, by decide⟩ ⟨rfl, rfl⟩ ⟨Nat.le_refl _, Nat.le_refl _⟩ dX6_end_13 (fun v H locs Sb ctb hw_56 hv => ?_)
    obtain ⟨rfl, hS, h21, oo, hfp⟩ := hv
    have hw := hw_56
    have hPb : Pst N th as Sb ctb := hP.ag ((hS 1 (by decide)).trans rfl) (Ag.hi (fun a g1 g2 => oo a (by omega) (by omega)))
    have hS0 : Sb 0 = .int 0 := (hS 0 (by decide)).trans rfl
    obtain ⟨ba1, ba2⟩ := hB.2.1 i hi sa hsa
    have hph := (pcn_half sa.2.2 (2 * sa.1 + 1)).1
    refine pb_blk B.hx B.hb (lv' := [(0, .ref mo), (1, .int f0), (2, .int k0), (3, .int sd), (4, .int k2)]) (st' := [.ref mo, .long 0, .long k0.toInt64]) hl bkX6_end_16_20 rfl (fun ls hl => ?_)
    refine m_get B hw 21 (by decide) wd_F_X6_201 (congrArg some h21) dX6_end_20 ?_
    refine pb_blk B.hx B.hb (lv' := [(0, .ref mo), (1, .int f0), (2, .int k0), (3, .int sd), (4, .int k2)]) (st' := [.long (((nI (pcn sa.2.2 (2 * sa.1 + 1))) - 1)).toInt64, .long 0, .long k0.toInt64]) hl bkX6_end_23_26 rfl (fun ls hl => ?_)
    refine m_callS B (c_X6_in l G (fun _ => False) k0.toInt64 0 (nI (pcn sa.2.2 (2 * sa.1 + 1)) - 1).toInt64) cy_X6_in st_X6_in wd_M_X6_85 trivial rfl hl.1 rfl (Nat.le_of_ble_eq_true rfl) ⟨by decide, by decide⟩ ⟨rfl, rfl⟩ ⟨Nat.le_refl _, Nat.le_refl _⟩ dX6_end_26 (fun v hv => ?_)
    rw [po_X6_in] at hv
    subst hv
    refine lv_if_ne (tgt := 38) B.hx B.hb dX6_end_29 (by decide) (fun h1 => ?_) (fun h1 => ?_)
    · obtain ⟨jj, hjj, hk0⟩ := (in_pc (by omega)).mp (ts9 (fun q => h1 ((b2i_0 _).mpr q)))
      obtain ⟨c0, hc0, hsp, hpc⟩ := pcn_on hjj
      obtain ⟨g16, dd, gd1, gd2, gd3, gd4, g17⟩ := hfp c0 hc0 hsp
      rw [hpc] at g16 g17
      have hkk : k0 = nI (pcn sa.2.2 c0) := by rw [hpc]; exact hk0
      have hjb : jj < 161 := by omega
      refine pb_blk B.hx B.hb (lv' := [(0, .ref mo), (1, .int f0), (2, .int k0), (3, .int sd), (4, .int k2)]) (st' := [.long 1, .long 0, .long sd.toInt64]) hl bkX6_end_38_42 rfl (fun ls hl => ?_)
      refine m_callS B (c_X6_in l G (fun _ => False) sd.toInt64 0 1) cy_X6_in st_X6_in wd_M_X6_85 trivial rfl hl.1 rfl (Nat.le_of_ble_eq_true rfl) ⟨by decide, by decide⟩ ⟨rfl, rfl⟩ ⟨Nat.le_refl _, Nat.le_refl _⟩ dX6_end_42 (fun v hv => ?_)
      rw [po_X6_in] at hv
      subst hv
      refine lv_if_eq (tgt := 61) B.hx B.hb dX6_end_45 (by decide) (fun h2 => ?_) (fun h2 => ?_)
      · have hs : ¬ (sd = 0 ∨ sd = 1) := fun q => by rw [in_01.mpr q] at h2; exact absurd h2 (by decide)
        refine pb_blk B.hx B.hb (lv' := [(0, .ref mo), (1, .int f0), (2, .int k0), (3, .int sd), (4, .int k2)]) (st' := [.int 2, .ref mo]) hl bkX6_end_61_63 rfl (fun ls hl => ?_)
        refine m_callV B hw (c_X6_raise l G mo _ _ 2) cy_X6_raise im_X6_raise se_X6_raise wd_M_X6_97 rfl hl.1 rfl (Nat.le_of_ble_eq_true rfl) ⟨by decide, by decide⟩ ⟨rfl, rfl⟩ ⟨Nat.le_refl _, Nat.le_refl _⟩ dX6_end_63 (fun v H locs S1 ct1 hw_57 hv => ?_)
        obtain ⟨rfl, rfl, rfl⟩ := hv
        have hw := hw_57
        exact m_iret (v := 0) B hw dX6_end_66 (by exact ⟨2, 0, 0, Or.inr ⟨i, hi, ei, Or.inr ⟨sa, hsa, Or.inr ⟨c0, hc0, hsp, hkk, Or.inl ⟨rfl, fun q => hs q.1⟩⟩⟩⟩, rfl, rfl, fun _ => rfl, hPb.ag rfl Ag.rf⟩) (Nat.le_of_ble_eq_true rfl) (Nat.le_of_ble_eq_true rfl)
      · have hside := in_01.mp (ts9 (fun q => h2 ((b2i_0 _).mpr q)))
        refine pb_blk B.hx B.hb (lv' := [(0, .ref mo), (1, .int f0), (2, .int k0), (3, .int sd), (4, .int k2)]) (st' := [.long 0, .long k2.toInt64]) hl bkX6_end_48_52 rfl (fun ls hl => ?_)
        refine z_ldc2 B wd_L_X6_157 dX6_end_52 ?_
        refine m_callS B (c_X6_in l G (fun _ => False) k2.toInt64 0 2) cy_X6_in st_X6_in wd_M_X6_85 trivial rfl hl.1 rfl (Nat.le_of_ble_eq_true rfl) ⟨by decide, by decide⟩ ⟨rfl, rfl⟩ ⟨Nat.le_refl _, Nat.le_refl _⟩ dX6_end_55 (fun v hv => ?_)
        rw [po_X6_in] at hv
        subst hv
        refine lv_if_ne (tgt := 67) B.hx B.hb dX6_end_58 (by decide) (fun h3 => ?_) (fun h3 => ?_)
        · have hpart := in_02.mp (ts9 (fun q => h3 ((b2i_0 _).mpr q)))
          refine pb_blk B.hx B.hb (lv' := [(0, .ref mo), (1, .int f0), (2, .int k0), (3, .int sd), (4, .int k2)]) (st' := [.int sd]) hl bkX6_end_67_68 rfl (fun ls hl => ?_)
          refine lv_if_ne (tgt := 80) B.hx B.hb dX6_end_68 (by decide) (fun h4 => ?_) (fun h4 => ?_)
          · have hs1 : sd = 1 := hside.elim (fun q => absurd q h4) id
            have hdl : dd < 2 * sa.1 + 1 := gd2
            have hda : dd < 2 ^ 20 := by omega
            refine pb_blk B.hx B.hb (lv' := [(0, .ref mo), (1, .int f0), (2, .int k0), (3, .int sd), (4, .int k2)]) (st' := [.ref mo]) hl bkX6_end_80_81 rfl (fun ls hl => ?_)
            refine m_get B hw 23 (by decide) wd_F_X6_60 rfl dX6_end_81 ?_
            refine pb_blk B.hx B.hb (lv' := [(0, .ref mo), (1, .int f0), (2, .int k0), (3, .int sd), (4, .int k2)]) (st' := [.int k0, .ref (mo + 17)]) hl bkX6_end_84_85 rfl (fun ls hl => ?_)
            refine m_iald B hw 17 (by decide) (by decide) rfl (by rw [hk0]; exact vp_in_nI (show jj < 161 by omega) (by decide)) (v := .int (nI dd)) (by rw [hk0, nI_clamp (by omega)]; exact g17) dX6_end_85 ?_
            refine pb_blk B.hx B.hb (lv' := [(5, .int (nI dd)), (0, .ref mo), (1, .int f0), (2, .int k0), (3, .int sd), (4, .int k2)]) (st' := [.int sd, .int (nI dd)]) hl bkX6_end_86_91 rfl (fun ls hl => ?_)
            refine lv_if_ne (tgt := 98) B.hx B.hb dX6_end_91 (by decide) (fun h41 => ?_) (fun h41 => ?_)
            · refine pb_blk B.hx B.hb (lv' := [(5, .int (nI dd)), (0, .ref mo), (1, .int f0), (2, .int k0), (3, .int sd), (4, .int k2)]) (st' := [.ref mo, .int 2, .int (nI dd)]) hl bkX6_end_98_100 rfl (fun ls hl => ?_)
              refine m_get B hw 5 (by decide) wd_F_X6_20 rfl dX6_end_100 ?_
              refine pb_blk B.hx B.hb (lv' := [(5, .int (nI dd)), (0, .ref mo), (1, .int f0), (2, .int k0), (3, .int sd), (4, .int k2)]) (st' := [.int f0, .ref (mo + 4), .int 2, .int (nI dd)]) hl bkX6_end_103_104 rfl (fun ls hl => ?_)
              refine m_iald B hw 4 (by decide) (by decide) rfl (by rw [ei]; exact vp_in_nI (show i < 82 by omega) (by decide)) (v := .int (nI sa.1)) (by rw [ei, nI_clamp (by omega), oo 4 (by decide) (by decide)]; exact hz.2.1) dX6_end_104 ?_
              refine pb_blk B.hx B.hb (lv' := [(5, .int (nI dd)), (0, .ref mo), (1, .int f0), (2, .int k0), (3, .int sd), (4, .int k2)]) (st' := [.int (2 * (nI sa.1)), .int (nI dd)]) hl bkX6_end_105_106 rfl (fun ls hl => ?_)
              rw [ix0]
              refine lv_icmp_ne (tgt := 121) B.hx B.hb dX6_end_106 (by decide) (fun h5 => ?_) (fun h5 => ?_)
              · have hdn : dd ≠ 2 * sa.1 := fun q => h5 (by rw [q])
                have hng : ¬ epl sa.1 dd sd < 0 := fun q => ((epl_neg hda).mp q).elim (fun h9 => h4 h9.1) (fun h9 => by omega)
                obtain ⟨ep1, ep2, ep3⟩ := epl_pos hda hng
                have her : enR sa dd sd = sa.2.1 (eplN sa.1 dd sd) := if_neg hng
                refine pb_blk B.hx B.hb (lv' := [(5, .int (nI dd)), (0, .ref mo), (1, .int f0), (2, .int k0), (3, .int sd), (4, .int k2)]) (st' := [.int k2]) hl bkX6_end_121_123 rfl (fun ls hl => ?_)
                refine lv_if_ne (tgt := 140) B.hx B.hb dX6_end_123 (by decide) (fun h6 => ?_) (fun h6 => ?_)
                · have hel : eplN sa.1 dd sd < sa.1 := by unfold eplN; by_cases h9 : sd = 0; rw [if_pos h9]; have := ep2 h9; omega; rw [if_neg h9]; exact ep3 h9
                  obtain ⟨pf, df, f1, f2, f3⟩ := hz.2.2.1 _ hel
                  have b0 := sm_nat f3 (ba2 _ hel)
                  have p5 : ctb 5 = ct 5 := oo 5 (by decide) (by decide)
                  have p6 : ctb 6 = ct 6 := oo 6 (by decide) (by decide)
                  refine pb_blk B.hx B.hb (lv' := [(5, .int (nI dd)), (0, .ref mo), (1, .int f0), (2, .int k0), (3, .int sd), (4, .int k2)]) (st' := [.int 2, .int (nI dd), .int (160 * f0)]) hl bkX6_end_140_148 rfl (fun ls hl => ?_)
                  refine lv_irem B.hx B.hb dX6_end_148 (by decide) ?_
                  rw [show nI dd - nI dd / 2 * 2 = nI (dd % 2) from pk_rem (a := dd) (d := 2) (by omega) (by decide) (by decide)]
                  refine pb_blk B.hx B.hb (lv' := [(5, .int (nI dd)), (0, .ref mo), (1, .int f0), (2, .int k0), (3, .int sd), (4, .int k2)]) (st' := [.int 1, .int (nI (dd % 2)), .int (160 * f0)]) hl bkX6_end_149_150 rfl (fun ls hl => ?_)
                  refine lv_icmp_ne (tgt := 160) B.hx B.hb dX6_end_150 (by decide) (fun h7 => ?_) (fun h7 => ?_)
                  · have e2 : ¬ dd % 2 = 1 := fun q => h7 (by rw [q]; rfl)
                    refine pb_blk B.hx B.hb (lv' := [(5, .int (nI dd)), (0, .ref mo), (1, .int f0), (2, .int k0), (3, .int sd), (4, .int k2)]) (st' := [.int sd, .int (160 * f0)]) hl bkX6_end_160_161 rfl (fun ls hl => ?_)
                    refine lv_if_ne (tgt := 173) B.hx B.hb dX6_end_161 (by decide) (fun h9 => ?_) (fun h9 => ?_)
                    · refine pb_blk B.hx B.hb (lv' := [(5, .int (nI dd)), (0, .ref mo), (1, .int f0), (2, .int k0), (3, .int sd), (4, .int k2)]) (st' := [.int 2, .int (nI dd), .int (160 * f0)]) hl bkX6_end_173_176 rfl (fun ls hl => ?_)
                      refine lv_idiv B.hx B.hb dX6_end_176 (by decide) ?_
                      rw [show nI dd / 2 = nI (dd / 2) from pk_div (a := dd) (d := 2) (by omega) (by decide) (by decide)]
                      have hix : 160 * f0 + (nI (dd / 2)) = nI (160 * i + eplN sa.1 dd sd) := by rw [ei, show nI (dd / 2) = nI (eplN sa.1 dd sd) by unfold eplN; rw [if_neg h9], ix160]
                      refine pb_blk B.hx B.hb (lv' := [(6, .int ((160 * f0) + (nI (dd / 2)))), (5, .int (nI dd)), (0, .ref mo), (1, .int f0), (2, .int k0), (3, .int sd), (4, .int k2)]) (st' := [.int 1, .int k2]) hl bkX6_end_177_183 rfl (fun ls hl => ?_)
                      have hpt2 := hpart
                      refine lv_icmp_ne (tgt := 196) B.hx B.hb dX6_end_183 (by decide) (fun h8 => ?_) (fun h8 => ?_)
                      · have hp2 : k2 = 2 := hpart.elim (fun q => absurd q h6) (fun q => q.elim (fun q => absurd q h8) id)
                        refine pb_blk B.hx B.hb (lv' := [(6, .int ((160 * f0) + (nI (dd / 2)))), (5, .int (nI dd)), (0, .ref mo), (1, .int f0), (2, .int k0), (3, .int sd), (4, .int k2)]) (st' := [.ref mo]) hl bkX6_end_196_197 rfl (fun ls hl => ?_)
                        refine m_get B hw 7 (by decide) wd_F_X6_26 rfl dX6_end_197 ?_
                        refine pb_blk B.hx B.hb (lv' := [(6, .int ((160 * f0) + (nI (dd / 2)))), (5, .int (nI dd)), (0, .ref mo), (1, .int f0), (2, .int k0), (3, .int sd), (4, .int k2)]) (st' := [.int ((160 * f0) + (nI (dd / 2))), .ref (mo + 6)]) hl bkX6_end_200_202 rfl (fun ls hl => ?_)
                        refine m_lald B hw 6 (by decide) (by decide) rfl (by rw [hix]; exact vp_in_nI (show 160 * i + eplN sa.1 dd sd < 13120 by omega) (by decide)) (v := .long df) (by rw [hix, nI_clamp (by omega), p6]; exact f2) dX6_end_202 ?_
                        refine pb_blk B.hx B.hb (lv' := [(6, .int ((160 * f0) + (nI (dd / 2)))), (5, .int (nI dd)), (0, .ref mo), (1, .int f0), (2, .int k0), (3, .int sd), (4, .int k2)]) (st' := [.int (df).toInt32]) hl bkX6_end_203_204 rfl (fun ls hl => ?_)
                        exact m_iret (v := (df).toInt32) B hw dX6_end_204 (by exact ⟨0, _, _, Or.inr ⟨i, hi, ei, Or.inr ⟨sa, hsa, Or.inr ⟨c0, hc0, hsp, hkk, Or.inr ⟨⟨hside, hpart⟩, rfl, dd, Or.inr ⟨hs1, gd1, gd2, gd3, gd4⟩, Or.inr (Or.inr ⟨hp2, by rw [l2i_sm (by omega), her]; exact f3.2⟩)⟩⟩⟩⟩, hS0, rfl, fun _ => rfl, hPb⟩) (Nat.le_of_ble_eq_true rfl) (Nat.le_of_ble_eq_true rfl)
                      · refine pb_blk B.hx B.hb (lv' := [(6, .int ((160 * f0) + (nI (dd / 2)))), (5, .int (nI dd)), (0, .ref mo), (1, .int f0), (2, .int k0), (3, .int sd), (4, .int k2)]) (st' := [.ref mo]) hl bkX6_end_186_187 rfl (fun ls hl => ?_)
                        refine m_get B hw 6 (by decide) wd_F_X6_23 rfl dX6_end_187 ?_
                        refine pb_blk B.hx B.hb (lv' := [(6, .int ((160 * f0) + (nI (dd / 2)))), (5, .int (nI dd)), (0, .ref mo), (1, .int f0), (2, .int k0), (3, .int sd), (4, .int k2)]) (st' := [.int ((160 * f0) + (nI (dd / 2))), .ref (mo + 5)]) hl bkX6_end_190_192 rfl (fun ls hl => ?_)
                        refine m_lald B hw 5 (by decide) (by decide) rfl (by rw [hix]; exact vp_in_nI (show 160 * i + eplN sa.1 dd sd < 13120 by omega) (by decide)) (v := .long pf) (by rw [hix, nI_clamp (by omega), p5]; exact f1) dX6_end_192 ?_
                        refine pb_blk B.hx B.hb (lv' := [(6, .int ((160 * f0) + (nI (dd / 2)))), (5, .int (nI dd)), (0, .ref mo), (1, .int f0), (2, .int k0), (3, .int sd), (4, .int k2)]) (st' := [.int (pf).toInt32]) hl bkX6_end_193_204 rfl (fun ls hl => ?_)
                        exact m_iret (v := (pf).toInt32) B hw dX6_end_204 (by exact ⟨0, _, _, Or.inr ⟨i, hi, ei, Or.inr ⟨sa, hsa, Or.inr ⟨c0, hc0, hsp, hkk, Or.inr ⟨⟨hside, hpart⟩, rfl, dd, Or.inr ⟨hs1, gd1, gd2, gd3, gd4⟩, Or.inr (Or.inl ⟨h8, by rw [l2i_sm (by omega), her]; exact f3.1⟩)⟩⟩⟩⟩, hS0, rfl, fun _ => rfl, hPb⟩) (Nat.le_of_ble_eq_true rfl) (Nat.le_of_ble_eq_true rfl)
                    · exact absurd h9 h4
                  · have e2 : dd % 2 = 1 := (nI_eq (by omega) (by decide)).mp h7
                    refine pb_blk B.hx B.hb (lv' := [(5, .int (nI dd)), (0, .ref mo), (1, .int f0), (2, .int k0), (3, .int sd), (4, .int k2)]) (st' := [.int 2, .int (nI dd), .int (160 * f0)]) hl bkX6_end_153_156 rfl (fun ls hl => ?_)
                    refine lv_idiv B.hx B.hb dX6_end_156 (by decide) ?_
                    rw [show nI dd / 2 = nI (dd / 2) from pk_div (a := dd) (d := 2) (by omega) (by decide) (by decide)]
                    refine pb_blk B.hx B.hb (lv' := [(5, .int (nI dd)), (0, .ref mo), (1, .int f0), (2, .int k0), (3, .int sd), (4, .int k2)]) (st' := [.int (nI (dd / 2)), .int (160 * f0)]) hl bkX6_end_157_177 rfl (fun ls hl => ?_)
                    have hix : 160 * f0 + (nI (dd / 2)) = nI (160 * i + eplN sa.1 dd sd) := by rw [ei, show nI (dd / 2) = nI (eplN sa.1 dd sd) by unfold eplN; congr 1; by_cases h9 : sd = 0; rw [if_pos h9]; omega; rw [if_neg h9], ix160]
                    refine pb_blk B.hx B.hb (lv' := [(6, .int ((160 * f0) + (nI (dd / 2)))), (5, .int (nI dd)), (0, .ref mo), (1, .int f0), (2, .int k0), (3, .int sd), (4, .int k2)]) (st' := [.int 1, .int k2]) hl bkX6_end_177_183 rfl (fun ls hl => ?_)
                    have hpt2 := hpart
                    refine lv_icmp_ne (tgt := 196) B.hx B.hb dX6_end_183 (by decide) (fun h8 => ?_) (fun h8 => ?_)
                    · have hp2 : k2 = 2 := hpart.elim (fun q => absurd q h6) (fun q => q.elim (fun q => absurd q h8) id)
                      refine pb_blk B.hx B.hb (lv' := [(6, .int ((160 * f0) + (nI (dd / 2)))), (5, .int (nI dd)), (0, .ref mo), (1, .int f0), (2, .int k0), (3, .int sd), (4, .int k2)]) (st' := [.ref mo]) hl bkX6_end_196_197 rfl (fun ls hl => ?_)
                      refine m_get B hw 7 (by decide) wd_F_X6_26 rfl dX6_end_197 ?_
                      refine pb_blk B.hx B.hb (lv' := [(6, .int ((160 * f0) + (nI (dd / 2)))), (5, .int (nI dd)), (0, .ref mo), (1, .int f0), (2, .int k0), (3, .int sd), (4, .int k2)]) (st' := [.int ((160 * f0) + (nI (dd / 2))), .ref (mo + 6)]) hl bkX6_end_200_202 rfl (fun ls hl => ?_)
                      refine m_lald B hw 6 (by decide) (by decide) rfl (by rw [hix]; exact vp_in_nI (show 160 * i + eplN sa.1 dd sd < 13120 by omega) (by decide)) (v := .long df) (by rw [hix, nI_clamp (by omega), p6]; exact f2) dX6_end_202 ?_
                      refine pb_blk B.hx B.hb (lv' := [(6, .int ((160 * f0) + (nI (dd / 2)))), (5, .int (nI dd)), (0, .ref mo), (1, .int f0), (2, .int k0), (3, .int sd), (4, .int k2)]) (st' := [.int (df).toInt32]) hl bkX6_end_203_204 rfl (fun ls hl => ?_)
                      exact m_iret (v := (df).toInt32) B hw dX6_end_204 (by exact ⟨0, _, _, Or.inr ⟨i, hi, ei, Or.inr ⟨sa, hsa, Or.inr ⟨c0, hc0, hsp, hkk, Or.inr ⟨⟨hside, hpart⟩, rfl, dd, Or.inr ⟨hs1, gd1, gd2, gd3, gd4⟩, Or.inr (Or.inr ⟨hp2, by rw [l2i_sm (by omega), her]; exact f3.2⟩)⟩⟩⟩⟩, hS0, rfl, fun _ => rfl, hPb⟩) (Nat.le_of_ble_eq_true rfl) (Nat.le_of_ble_eq_true rfl)
                    · refine pb_blk B.hx B.hb (lv' := [(6, .int ((160 * f0) + (nI (dd / 2)))), (5, .int (nI dd)), (0, .ref mo), (1, .int f0), (2, .int k0), (3, .int sd), (4, .int k2)]) (st' := [.ref mo]) hl bkX6_end_186_187 rfl (fun ls hl => ?_)
                      refine m_get B hw 6 (by decide) wd_F_X6_23 rfl dX6_end_187 ?_
                      refine pb_blk B.hx B.hb (lv' := [(6, .int ((160 * f0) + (nI (dd / 2)))), (5, .int (nI dd)), (0, .ref mo), (1, .int f0), (2, .int k0), (3, .int sd), (4, .int k2)]) (st' := [.int ((160 * f0) + (nI (dd / 2))), .ref (mo + 5)]) hl bkX6_end_190_192 rfl (fun ls hl => ?_)
                      refine m_lald B hw 5 (by decide) (by decide) rfl (by rw [hix]; exact vp_in_nI (show 160 * i + eplN sa.1 dd sd < 13120 by omega) (by decide)) (v := .long pf) (by rw [hix, nI_clamp (by omega), p5]; exact f1) dX6_end_192 ?_
                      refine pb_blk B.hx B.hb (lv' := [(6, .int ((160 * f0) + (nI (dd / 2)))), (5, .int (nI dd)), (0, .ref mo), (1, .int f0), (2, .int k0), (3, .int sd), (4, .int k2)]) (st' := [.int (pf).toInt32]) hl bkX6_end_193_204 rfl (fun ls hl => ?_)
                      exact m_iret (v := (pf).toInt32) B hw dX6_end_204 (by exact ⟨0, _, _, Or.inr ⟨i, hi, ei, Or.inr ⟨sa, hsa, Or.inr ⟨c0, hc0, hsp, hkk, Or.inr ⟨⟨hside, hpart⟩, rfl, dd, Or.inr ⟨hs1, gd1, gd2, gd3, gd4⟩, Or.inr (Or.inl ⟨h8, by rw [l2i_sm (by omega), her]; exact f3.1⟩)⟩⟩⟩⟩, hS0, rfl, fun _ => rfl, hPb⟩) (Nat.le_of_ble_eq_true rfl) (Nat.le_of_ble_eq_true rfl)
                · refine pb_blk B.hx B.hb (lv' := [(5, .int (nI dd)), (0, .ref mo), (1, .int f0), (2, .int k0), (3, .int sd), (4, .int k2)]) (st' := [.int 2, .int (nI dd)]) hl bkX6_end_126_129 rfl (fun ls hl => ?_)
                  refine lv_irem B.hx B.hb dX6_end_129 (by decide) ?_
                  rw [show nI dd - nI dd / 2 * 2 = nI (dd % 2) from pk_rem (a := dd) (d := 2) (by omega) (by decide) (by decide)]
                  refine pb_blk B.hx B.hb (lv' := [(5, .int (nI dd)), (0, .ref mo), (1, .int f0), (2, .int k0), (3, .int sd), (4, .int k2)]) (st' := [.int 1, .int (nI (dd % 2))]) hl bkX6_end_130_131 rfl (fun ls hl => ?_)
                  refine lv_icmp_ne (tgt := 138) B.hx B.hb dX6_end_131 (by decide) (fun h7 => ?_) (fun h7 => ?_)
                  · have e2 : ¬ dd % 2 = 1 := fun q => h7 (by rw [q]; rfl)
                    refine pb_blk B.hx B.hb (lv' := [(5, .int (nI dd)), (0, .ref mo), (1, .int f0), (2, .int k0), (3, .int sd), (4, .int k2)]) (st' := [.int 1]) hl bkX6_end_138_139 rfl (fun ls hl => ?_)
                    exact m_iret (v := 1) B hw dX6_end_139 (by exact ⟨0, 1, 1, Or.inr ⟨i, hi, ei, Or.inr ⟨sa, hsa, Or.inr ⟨c0, hc0, hsp, hkk, Or.inr ⟨⟨hside, hpart⟩, rfl, dd, Or.inr ⟨hs1, gd1, gd2, gd3, gd4⟩, Or.inl ⟨h6, by rw [if_neg hng, if_neg e2]⟩⟩⟩⟩⟩, hS0, rfl, fun _ => rfl, hPb⟩) (Nat.le_of_ble_eq_true rfl) (Nat.le_of_ble_eq_true rfl)
                  · have e2 : dd % 2 = 1 := (nI_eq (by omega) (by decide)).mp h7
                    refine pb_blk B.hx B.hb (lv' := [(5, .int (nI dd)), (0, .ref mo), (1, .int f0), (2, .int k0), (3, .int sd), (4, .int k2)]) (st' := [.int 2]) hl bkX6_end_134_139 rfl (fun ls hl => ?_)
                    exact m_iret (v := 2) B hw dX6_end_139 (by exact ⟨0, 2, 2, Or.inr ⟨i, hi, ei, Or.inr ⟨sa, hsa, Or.inr ⟨c0, hc0, hsp, hkk, Or.inr ⟨⟨hside, hpart⟩, rfl, dd, Or.inr ⟨hs1, gd1, gd2, gd3, gd4⟩, Or.inl ⟨h6, by rw [if_neg hng, if_pos e2]⟩⟩⟩⟩⟩, hS0, rfl, fun _ => rfl, hPb⟩) (Nat.le_of_ble_eq_true rfl) (Nat.le_of_ble_eq_true rfl)
              · have hdn : dd = 2 * sa.1 := (nI_eq (by omega) (by omega)).mp h5
                have hng : epl sa.1 dd sd < 0 := (epl_neg hda).mpr (Or.inr ⟨h4, by omega⟩)
                have her : enR sa dd sd = 0 := if_pos hng
                refine pb_blk B.hx B.hb (lv' := [(5, .int (nI dd)), (0, .ref mo), (1, .int f0), (2, .int k0), (3, .int sd), (4, .int k2)]) (st' := [.int 2, .int k2]) hl bkX6_end_109_112 rfl (fun ls hl => ?_)
                refine lv_icmp_ne (tgt := 119) B.hx B.hb dX6_end_112 (by decide) (fun h6 => ?_) (fun h6 => ?_)
                · have hcs : k2 = 0 ∨ k2 = 1 := hpart.elim Or.inl (fun q => q.elim Or.inr (fun q => absurd q h6))
                  refine pb_blk B.hx B.hb (lv' := [(5, .int (nI dd)), (0, .ref mo), (1, .int f0), (2, .int k0), (3, .int sd), (4, .int k2)]) (st' := [.int 0]) hl bkX6_end_119_120 rfl (fun ls hl => ?_)
                  exact m_iret (v := 0) B hw dX6_end_120 (by exact ⟨0, 0, 0, Or.inr ⟨i, hi, ei, Or.inr ⟨sa, hsa, Or.inr ⟨c0, hc0, hsp, hkk, Or.inr ⟨⟨hside, hpart⟩, rfl, dd, Or.inr ⟨hs1, gd1, gd2, gd3, gd4⟩, hcs.elim (fun q => Or.inl ⟨q, by rw [if_pos hng]⟩) (fun q => Or.inr (Or.inl ⟨q, by rw [her]; rfl⟩))⟩⟩⟩⟩, hS0, rfl, fun _ => rfl, hPb⟩) (Nat.le_of_ble_eq_true rfl) (Nat.le_of_ble_eq_true rfl)
                · refine pb_blk B.hx B.hb (lv' := [(5, .int (nI dd)), (0, .ref mo), (1, .int f0), (2, .int k0), (3, .int sd), (4, .int k2)]) (st' := [.int 1]) hl bkX6_end_115_120 rfl (fun ls hl => ?_)
                  exact m_iret (v := 1) B hw dX6_end_120 (by exact ⟨0, 1, 1, Or.inr ⟨i, hi, ei, Or.inr ⟨sa, hsa, Or.inr ⟨c0, hc0, hsp, hkk, Or.inr ⟨⟨hside, hpart⟩, rfl, dd, Or.inr ⟨hs1, gd1, gd2, gd3, gd4⟩, Or.inr (Or.inr ⟨h6, by rw [her]; rfl⟩)⟩⟩⟩⟩, hS0, rfl, fun _ => rfl, hPb⟩) (Nat.le_of_ble_eq_true rfl) (Nat.le_of_ble_eq_true rfl)
            · exact absurd h41 h4
          · have hdl : c0 < 2 * sa.1 + 1 := hc0
            have hda : c0 < 2 ^ 20 := by omega
            refine pb_blk B.hx B.hb (lv' := [(0, .ref mo), (1, .int f0), (2, .int k0), (3, .int sd), (4, .int k2)]) (st' := [.ref mo]) hl bkX6_end_71_72 rfl (fun ls hl => ?_)
            refine m_get B hw 22 (by decide) wd_F_X6_57 rfl dX6_end_72 ?_
            refine pb_blk B.hx B.hb (lv' := [(0, .ref mo), (1, .int f0), (2, .int k0), (3, .int sd), (4, .int k2)]) (st' := [.int k0, .ref (mo + 16)]) hl bkX6_end_75_76 rfl (fun ls hl => ?_)
            refine m_iald B hw 16 (by decide) (by decide) rfl (by rw [hk0]; exact vp_in_nI (show jj < 161 by omega) (by decide)) (v := .int (nI c0)) (by rw [hk0, nI_clamp (by omega)]; exact g16) dX6_end_76 ?_
            refine pb_blk B.hx B.hb (lv' := [(5, .int (nI c0)), (0, .ref mo), (1, .int f0), (2, .int k0), (3, .int sd), (4, .int k2)]) (st' := [.int sd, .int (nI c0)]) hl bkX6_end_77_91 rfl (fun ls hl => ?_)
            refine lv_if_ne (tgt := 98) B.hx B.hb dX6_end_91 (by decide) (fun h41 => ?_) (fun h41 => ?_)
            · exact absurd h4 h41
            · refine pb_blk B.hx B.hb (lv' := [(5, .int (nI c0)), (0, .ref mo), (1, .int f0), (2, .int k0), (3, .int sd), (4, .int k2)]) (st' := [.int 0, .int (nI c0)]) hl bkX6_end_94_106 rfl (fun ls hl => ?_)
              refine lv_icmp_ne (tgt := 121) B.hx B.hb dX6_end_106 (by decide) (fun h5 => ?_) (fun h5 => ?_)
              · have hc0n : c0 ≠ 0 := fun q => h5 (by rw [q]; rfl)
                have hng : ¬ epl sa.1 c0 sd < 0 := fun q => ((epl_neg hda).mp q).elim (fun h9 => hc0n h9.2) (fun h9 => h9.1 h4)
                obtain ⟨ep1, ep2, ep3⟩ := epl_pos hda hng
                have her : enR sa c0 sd = sa.2.1 (eplN sa.1 c0 sd) := if_neg hng
                refine pb_blk B.hx B.hb (lv' := [(5, .int (nI c0)), (0, .ref mo), (1, .int f0), (2, .int k0), (3, .int sd), (4, .int k2)]) (st' := [.int k2]) hl bkX6_end_121_123 rfl (fun ls hl => ?_)
                refine lv_if_ne (tgt := 140) B.hx B.hb dX6_end_123 (by decide) (fun h6 => ?_) (fun h6 => ?_)
                · have hel : eplN sa.1 c0 sd < sa.1 := by unfold eplN; by_cases h9 : sd = 0; rw [if_pos h9]; have := ep2 h9; omega; rw [if_neg h9]; exact ep3 h9
                  obtain ⟨pf, df, f1, f2, f3⟩ := hz.2.2.1 _ hel
                  have b0 := sm_nat f3 (ba2 _ hel)
                  have p5 : ctb 5 = ct 5 := oo 5 (by decide) (by decide)
                  have p6 : ctb 6 = ct 6 := oo 6 (by decide) (by decide)
                  refine pb_blk B.hx B.hb (lv' := [(5, .int (nI c0)), (0, .ref mo), (1, .int f0), (2, .int k0), (3, .int sd), (4, .int k2)]) (st' := [.int 2, .int (nI c0), .int (160 * f0)]) hl bkX6_end_140_148 rfl (fun ls hl => ?_)
                  refine lv_irem B.hx B.hb dX6_end_148 (by decide) ?_
                  rw [show nI c0 - nI c0 / 2 * 2 = nI (c0 % 2) from pk_rem (a := c0) (d := 2) (by omega) (by decide) (by decide)]
                  refine pb_blk B.hx B.hb (lv' := [(5, .int (nI c0)), (0, .ref mo), (1, .int f0), (2, .int k0), (3, .int sd), (4, .int k2)]) (st' := [.int 1, .int (nI (c0 % 2)), .int (160 * f0)]) hl bkX6_end_149_150 rfl (fun ls hl => ?_)
                  refine lv_icmp_ne (tgt := 160) B.hx B.hb dX6_end_150 (by decide) (fun h7 => ?_) (fun h7 => ?_)
                  · have e2 : ¬ c0 % 2 = 1 := fun q => h7 (by rw [q]; rfl)
                    refine pb_blk B.hx B.hb (lv' := [(5, .int (nI c0)), (0, .ref mo), (1, .int f0), (2, .int k0), (3, .int sd), (4, .int k2)]) (st' := [.int sd, .int (160 * f0)]) hl bkX6_end_160_161 rfl (fun ls hl => ?_)
                    refine lv_if_ne (tgt := 173) B.hx B.hb dX6_end_161 (by decide) (fun h9 => ?_) (fun h9 => ?_)
                    · exact absurd h4 h9
                    · have hpos := ep2 h4
                      refine pb_blk B.hx B.hb (lv' := [(5, .int (nI c0)), (0, .ref mo), (1, .int f0), (2, .int k0), (3, .int sd), (4, .int k2)]) (st' := [.int 2, .int (nI c0), .int (160 * f0)]) hl bkX6_end_164_167 rfl (fun ls hl => ?_)
                      refine lv_idiv B.hx B.hb dX6_end_167 (by decide) ?_
                      rw [show nI c0 / 2 = nI (c0 / 2) from pk_div (a := c0) (d := 2) (by omega) (by decide) (by decide)]
                      refine pb_blk B.hx B.hb (lv' := [(5, .int (nI c0)), (0, .ref mo), (1, .int f0), (2, .int k0), (3, .int sd), (4, .int k2)]) (st' := [.int ((nI (c0 / 2)) - 1), .int (160 * f0)]) hl bkX6_end_168_177 rfl (fun ls hl => ?_)
                      have hix : 160 * f0 + ((nI (c0 / 2)) - 1) = nI (160 * i + eplN sa.1 c0 sd) := by rw [ei, show nI (c0 / 2) - 1 = nI (eplN sa.1 c0 sd) by unfold eplN; rw [if_pos h9, show c0 / 2 = (c0 - 1) / 2 + 1 by omega, nI_sub1], ix160]
                      refine pb_blk B.hx B.hb (lv' := [(6, .int ((160 * f0) + ((nI (c0 / 2)) - 1))), (5, .int (nI c0)), (0, .ref mo), (1, .int f0), (2, .int k0), (3, .int sd), (4, .int k2)]) (st' := [.int 1, .int k2]) hl bkX6_end_177_183 rfl (fun ls hl => ?_)
                      have hpt2 := hpart
                      refine lv_icmp_ne (tgt := 196) B.hx B.hb dX6_end_183 (by decide) (fun h8 => ?_) (fun h8 => ?_)
                      · have hp2 : k2 = 2 := hpart.elim (fun q => absurd q h6) (fun q => q.elim (fun q => absurd q h8) id)
                        refine pb_blk B.hx B.hb (lv' := [(6, .int ((160 * f0) + ((nI (c0 / 2)) - 1))), (5, .int (nI c0)), (0, .ref mo), (1, .int f0), (2, .int k0), (3, .int sd), (4, .int k2)]) (st' := [.ref mo]) hl bkX6_end_196_197 rfl (fun ls hl => ?_)
                        refine m_get B hw 7 (by decide) wd_F_X6_26 rfl dX6_end_197 ?_
                        refine pb_blk B.hx B.hb (lv' := [(6, .int ((160 * f0) + ((nI (c0 / 2)) - 1))), (5, .int (nI c0)), (0, .ref mo), (1, .int f0), (2, .int k0), (3, .int sd), (4, .int k2)]) (st' := [.int ((160 * f0) + ((nI (c0 / 2)) - 1)), .ref (mo + 6)]) hl bkX6_end_200_202 rfl (fun ls hl => ?_)
                        refine m_lald B hw 6 (by decide) (by decide) rfl (by rw [hix]; exact vp_in_nI (show 160 * i + eplN sa.1 c0 sd < 13120 by omega) (by decide)) (v := .long df) (by rw [hix, nI_clamp (by omega), p6]; exact f2) dX6_end_202 ?_
                        refine pb_blk B.hx B.hb (lv' := [(6, .int ((160 * f0) + ((nI (c0 / 2)) - 1))), (5, .int (nI c0)), (0, .ref mo), (1, .int f0), (2, .int k0), (3, .int sd), (4, .int k2)]) (st' := [.int (df).toInt32]) hl bkX6_end_203_204 rfl (fun ls hl => ?_)
                        exact m_iret (v := (df).toInt32) B hw dX6_end_204 (by exact ⟨0, _, _, Or.inr ⟨i, hi, ei, Or.inr ⟨sa, hsa, Or.inr ⟨c0, hc0, hsp, hkk, Or.inr ⟨⟨hside, hpart⟩, rfl, c0, Or.inl ⟨h4, rfl⟩, Or.inr (Or.inr ⟨hp2, by rw [l2i_sm (by omega), her]; exact f3.2⟩)⟩⟩⟩⟩, hS0, rfl, fun _ => rfl, hPb⟩) (Nat.le_of_ble_eq_true rfl) (Nat.le_of_ble_eq_true rfl)
                      · refine pb_blk B.hx B.hb (lv' := [(6, .int ((160 * f0) + ((nI (c0 / 2)) - 1))), (5, .int (nI c0)), (0, .ref mo), (1, .int f0), (2, .int k0), (3, .int sd), (4, .int k2)]) (st' := [.ref mo]) hl bkX6_end_186_187 rfl (fun ls hl => ?_)
                        refine m_get B hw 6 (by decide) wd_F_X6_23 rfl dX6_end_187 ?_
                        refine pb_blk B.hx B.hb (lv' := [(6, .int ((160 * f0) + ((nI (c0 / 2)) - 1))), (5, .int (nI c0)), (0, .ref mo), (1, .int f0), (2, .int k0), (3, .int sd), (4, .int k2)]) (st' := [.int ((160 * f0) + ((nI (c0 / 2)) - 1)), .ref (mo + 5)]) hl bkX6_end_190_192 rfl (fun ls hl => ?_)
                        refine m_lald B hw 5 (by decide) (by decide) rfl (by rw [hix]; exact vp_in_nI (show 160 * i + eplN sa.1 c0 sd < 13120 by omega) (by decide)) (v := .long pf) (by rw [hix, nI_clamp (by omega), p5]; exact f1) dX6_end_192 ?_
                        refine pb_blk B.hx B.hb (lv' := [(6, .int ((160 * f0) + ((nI (c0 / 2)) - 1))), (5, .int (nI c0)), (0, .ref mo), (1, .int f0), (2, .int k0), (3, .int sd), (4, .int k2)]) (st' := [.int (pf).toInt32]) hl bkX6_end_193_204 rfl (fun ls hl => ?_)
                        exact m_iret (v := (pf).toInt32) B hw dX6_end_204 (by exact ⟨0, _, _, Or.inr ⟨i, hi, ei, Or.inr ⟨sa, hsa, Or.inr ⟨c0, hc0, hsp, hkk, Or.inr ⟨⟨hside, hpart⟩, rfl, c0, Or.inl ⟨h4, rfl⟩, Or.inr (Or.inl ⟨h8, by rw [l2i_sm (by omega), her]; exact f3.1⟩)⟩⟩⟩⟩, hS0, rfl, fun _ => rfl, hPb⟩) (Nat.le_of_ble_eq_true rfl) (Nat.le_of_ble_eq_true rfl)
                  · have e2 : c0 % 2 = 1 := (nI_eq (by omega) (by decide)).mp h7
                    refine pb_blk B.hx B.hb (lv' := [(5, .int (nI c0)), (0, .ref mo), (1, .int f0), (2, .int k0), (3, .int sd), (4, .int k2)]) (st' := [.int 2, .int (nI c0), .int (160 * f0)]) hl bkX6_end_153_156 rfl (fun ls hl => ?_)
                    refine lv_idiv B.hx B.hb dX6_end_156 (by decide) ?_
                    rw [show nI c0 / 2 = nI (c0 / 2) from pk_div (a := c0) (d := 2) (by omega) (by decide) (by decide)]
                    refine pb_blk B.hx B.hb (lv' := [(5, .int (nI c0)), (0, .ref mo), (1, .int f0), (2, .int k0), (3, .int sd), (4, .int k2)]) (st' := [.int (nI (c0 / 2)), .int (160 * f0)]) hl bkX6_end_157_177 rfl (fun ls hl => ?_)
                    have hix : 160 * f0 + (nI (c0 / 2)) = nI (160 * i + eplN sa.1 c0 sd) := by rw [ei, show nI (c0 / 2) = nI (eplN sa.1 c0 sd) by unfold eplN; congr 1; by_cases h9 : sd = 0; rw [if_pos h9]; omega; rw [if_neg h9], ix160]
                    refine pb_blk B.hx B.hb (lv' := [(6, .int ((160 * f0) + (nI (c0 / 2)))), (5, .int (nI c0)), (0, .ref mo), (1, .int f0), (2, .int k0), (3, .int sd), (4, .int k2)]) (st' := [.int 1, .int k2]) hl bkX6_end_177_183 rfl (fun ls hl => ?_)
                    have hpt2 := hpart
                    refine lv_icmp_ne (tgt := 196) B.hx B.hb dX6_end_183 (by decide) (fun h8 => ?_) (fun h8 => ?_)
                    · have hp2 : k2 = 2 := hpart.elim (fun q => absurd q h6) (fun q => q.elim (fun q => absurd q h8) id)
                      refine pb_blk B.hx B.hb (lv' := [(6, .int ((160 * f0) + (nI (c0 / 2)))), (5, .int (nI c0)), (0, .ref mo), (1, .int f0), (2, .int k0), (3, .int sd), (4, .int k2)]) (st' := [.ref mo]) hl bkX6_end_196_197 rfl (fun ls hl => ?_)
                      refine m_get B hw 7 (by decide) wd_F_X6_26 rfl dX6_end_197 ?_
                      refine pb_blk B.hx B.hb (lv' := [(6, .int ((160 * f0) + (nI (c0 / 2)))), (5, .int (nI c0)), (0, .ref mo), (1, .int f0), (2, .int k0), (3, .int sd), (4, .int k2)]) (st' := [.int ((160 * f0) + (nI (c0 / 2))), .ref (mo + 6)]) hl bkX6_end_200_202 rfl (fun ls hl => ?_)
                      refine m_lald B hw 6 (by decide) (by decide) rfl (by rw [hix]; exact vp_in_nI (show 160 * i + eplN sa.1 c0 sd < 13120 by omega) (by decide)) (v := .long df) (by rw [hix, nI_clamp (by omega), p6]; exact f2) dX6_end_202 ?_
                      refine pb_blk B.hx B.hb (lv' := [(6, .int ((160 * f0) + (nI (c0 / 2)))), (5, .int (nI c0)), (0, .ref mo), (1, .int f0), (2, .int k0), (3, .int sd), (4, .int k2)]) (st' := [.int (df).toInt32]) hl bkX6_end_203_204 rfl (fun ls hl => ?_)
                      exact m_iret (v := (df).toInt32) B hw dX6_end_204 (by exact ⟨0, _, _, Or.inr ⟨i, hi, ei, Or.inr ⟨sa, hsa, Or.inr ⟨c0, hc0, hsp, hkk, Or.inr ⟨⟨hside, hpart⟩, rfl, c0, Or.inl ⟨h4, rfl⟩, Or.inr (Or.inr ⟨hp2, by rw [l2i_sm (by omega), her]; exact f3.2⟩)⟩⟩⟩⟩, hS0, rfl, fun _ => rfl, hPb⟩) (Nat.le_of_ble_eq_true rfl) (Nat.le_of_ble_eq_true rfl)
                    · refine pb_blk B.hx B.hb (lv' := [(6, .int ((160 * f0) + (nI (c0 / 2)))), (5, .int (nI c0)), (0, .ref mo), (1, .int f0), (2, .int k0), (3, .int sd), (4, .int k2)]) (st' := [.ref mo]) hl bkX6_end_186_187 rfl (fun ls hl => ?_)
                      refine m_get B hw 6 (by decide) wd_F_X6_23 rfl dX6_end_187 ?_
                      refine pb_blk B.hx B.hb (lv' := [(6, .int ((160 * f0) + (nI (c0 / 2)))), (5, .int (nI c0)), (0, .ref mo), (1, .int f0), (2, .int k0), (3, .int sd), (4, .int k2)]) (st' := [.int ((160 * f0) + (nI (c0 / 2))), .ref (mo + 5)]) hl bkX6_end_190_192 rfl (fun ls hl => ?_)
                      refine m_lald B hw 5 (by decide) (by decide) rfl (by rw [hix]; exact vp_in_nI (show 160 * i + eplN sa.1 c0 sd < 13120 by omega) (by decide)) (v := .long pf) (by rw [hix, nI_clamp (by omega), p5]; exact f1) dX6_end_192 ?_
                      refine pb_blk B.hx B.hb (lv' := [(6, .int ((160 * f0) + (nI (c0 / 2)))), (5, .int (nI c0)), (0, .ref mo), (1, .int f0), (2, .int k0), (3, .int sd), (4, .int k2)]) (st' := [.int (pf).toInt32]) hl bkX6_end_193_204 rfl (fun ls hl => ?_)
                      exact m_iret (v := (pf).toInt32) B hw dX6_end_204 (by exact ⟨0, _, _, Or.inr ⟨i, hi, ei, Or.inr ⟨sa, hsa, Or.inr ⟨c0, hc0, hsp, hkk, Or.inr ⟨⟨hside, hpart⟩, rfl, c0, Or.inl ⟨h4, rfl⟩, Or.inr (Or.inl ⟨h8, by rw [l2i_sm (by omega), her]; exact f3.1⟩)⟩⟩⟩⟩, hS0, rfl, fun _ => rfl, hPb⟩) (Nat.le_of_ble_eq_true rfl) (Nat.le_of_ble_eq_true rfl)
                · refine pb_blk B.hx B.hb (lv' := [(5, .int (nI c0)), (0, .ref mo), (1, .int f0), (2, .int k0), (3, .int sd), (4, .int k2)]) (st' := [.int 2, .int (nI c0)]) hl bkX6_end_126_129 rfl (fun ls hl => ?_)
                  refine lv_irem B.hx B.hb dX6_end_129 (by decide) ?_
                  rw [show nI c0 - nI c0 / 2 * 2 = nI (c0 % 2) from pk_rem (a := c0) (d := 2) (by omega) (by decide) (by decide)]
                  refine pb_blk B.hx B.hb (lv' := [(5, .int (nI c0)), (0, .ref mo), (1, .int f0), (2, .int k0), (3, .int sd), (4, .int k2)]) (st' := [.int 1, .int (nI (c0 % 2))]) hl bkX6_end_130_131 rfl (fun ls hl => ?_)
                  refine lv_icmp_ne (tgt := 138) B.hx B.hb dX6_end_131 (by decide) (fun h7 => ?_) (fun h7 => ?_)
                  · have e2 : ¬ c0 % 2 = 1 := fun q => h7 (by rw [q]; rfl)
                    refine pb_blk B.hx B.hb (lv' := [(5, .int (nI c0)), (0, .ref mo), (1, .int f0), (2, .int k0), (3, .int sd), (4, .int k2)]) (st' := [.int 1]) hl bkX6_end_138_139 rfl (fun ls hl => ?_)
                    exact m_iret (v := 1) B hw dX6_end_139 (by exact ⟨0, 1, 1, Or.inr ⟨i, hi, ei, Or.inr ⟨sa, hsa, Or.inr ⟨c0, hc0, hsp, hkk, Or.inr ⟨⟨hside, hpart⟩, rfl, c0, Or.inl ⟨h4, rfl⟩, Or.inl ⟨h6, by rw [if_neg hng, if_neg e2]⟩⟩⟩⟩⟩, hS0, rfl, fun _ => rfl, hPb⟩) (Nat.le_of_ble_eq_true rfl) (Nat.le_of_ble_eq_true rfl)
                  · have e2 : c0 % 2 = 1 := (nI_eq (by omega) (by decide)).mp h7
                    refine pb_blk B.hx B.hb (lv' := [(5, .int (nI c0)), (0, .ref mo), (1, .int f0), (2, .int k0), (3, .int sd), (4, .int k2)]) (st' := [.int 2]) hl bkX6_end_134_139 rfl (fun ls hl => ?_)
                    exact m_iret (v := 2) B hw dX6_end_139 (by exact ⟨0, 2, 2, Or.inr ⟨i, hi, ei, Or.inr ⟨sa, hsa, Or.inr ⟨c0, hc0, hsp, hkk, Or.inr ⟨⟨hside, hpart⟩, rfl, c0, Or.inl ⟨h4, rfl⟩, Or.inl ⟨h6, by rw [if_neg hng, if_pos e2]⟩⟩⟩⟩⟩, hS0, rfl, fun _ => rfl, hPb⟩) (Nat.le_of_ble_eq_true rfl) (Nat.le_of_ble_eq_true rfl)
              · have hc0n : c0 = 0 := (nI_eq (by omega) (by decide)).mp (show nI c0 = nI 0 from h5)
                have hng : epl sa.1 c0 sd < 0 := (epl_neg hda).mpr (Or.inl ⟨h4, hc0n⟩)
                have her : enR sa c0 sd = 0 := if_pos hng
                refine pb_blk B.hx B.hb (lv' := [(5, .int (nI c0)), (0, .ref mo), (1, .int f0), (2, .int k0), (3, .int sd), (4, .int k2)]) (st' := [.int 2, .int k2]) hl bkX6_end_109_112 rfl (fun ls hl => ?_)
                refine lv_icmp_ne (tgt := 119) B.hx B.hb dX6_end_112 (by decide) (fun h6 => ?_) (fun h6 => ?_)
                · have hcs : k2 = 0 ∨ k2 = 1 := hpart.elim Or.inl (fun q => q.elim Or.inr (fun q => absurd q h6))
                  refine pb_blk B.hx B.hb (lv' := [(5, .int (nI c0)), (0, .ref mo), (1, .int f0), (2, .int k0), (3, .int sd), (4, .int k2)]) (st' := [.int 0]) hl bkX6_end_119_120 rfl (fun ls hl => ?_)
                  exact m_iret (v := 0) B hw dX6_end_120 (by exact ⟨0, 0, 0, Or.inr ⟨i, hi, ei, Or.inr ⟨sa, hsa, Or.inr ⟨c0, hc0, hsp, hkk, Or.inr ⟨⟨hside, hpart⟩, rfl, c0, Or.inl ⟨h4, rfl⟩, hcs.elim (fun q => Or.inl ⟨q, by rw [if_pos hng]⟩) (fun q => Or.inr (Or.inl ⟨q, by rw [her]; rfl⟩))⟩⟩⟩⟩, hS0, rfl, fun _ => rfl, hPb⟩) (Nat.le_of_ble_eq_true rfl) (Nat.le_of_ble_eq_true rfl)
                · refine pb_blk B.hx B.hb (lv' := [(5, .int (nI c0)), (0, .ref mo), (1, .int f0), (2, .int k0), (3, .int sd), (4, .int k2)]) (st' := [.int 1]) hl bkX6_end_115_120 rfl (fun ls hl => ?_)
                  exact m_iret (v := 1) B hw dX6_end_120 (by exact ⟨0, 1, 1, Or.inr ⟨i, hi, ei, Or.inr ⟨sa, hsa, Or.inr ⟨c0, hc0, hsp, hkk, Or.inr ⟨⟨hside, hpart⟩, rfl, c0, Or.inl ⟨h4, rfl⟩, Or.inr (Or.inr ⟨h6, by rw [her]; rfl⟩)⟩⟩⟩⟩, hS0, rfl, fun _ => rfl, hPb⟩) (Nat.le_of_ble_eq_true rfl) (Nat.le_of_ble_eq_true rfl)
        · have hp : ¬ (k2 = 0 ∨ k2 = 1 ∨ k2 = 2) := fun q => by rw [in_02.mpr q] at h3; exact absurd h3 (by decide)
          refine pb_blk B.hx B.hb (lv' := [(0, .ref mo), (1, .int f0), (2, .int k0), (3, .int sd), (4, .int k2)]) (st' := [.int 2, .ref mo]) hl bkX6_end_61_63 rfl (fun ls hl => ?_)
          refine m_callV B hw (c_X6_raise l G mo _ _ 2) cy_X6_raise im_X6_raise se_X6_raise wd_M_X6_97 rfl hl.1 rfl (Nat.le_of_ble_eq_true rfl) ⟨by decide, by decide⟩ ⟨rfl, rfl⟩ ⟨Nat.le_refl _, Nat.le_refl _⟩ dX6_end_63 (fun v H locs S1 ct1 hw_58 hv => ?_)
          obtain ⟨rfl, rfl, rfl⟩ := hv
          have hw := hw_58
          exact m_iret (v := 0) B hw dX6_end_66 (by exact ⟨2, 0, 0, Or.inr ⟨i, hi, ei, Or.inr ⟨sa, hsa, Or.inr ⟨c0, hc0, hsp, hkk, Or.inl ⟨rfl, fun q => hp q.2⟩⟩⟩⟩, rfl, rfl, fun _ => rfl, hPb.ag rfl Ag.rf⟩) (Nat.le_of_ble_eq_true rfl) (Nat.le_of_ble_eq_true rfl)
    · have hno : ∀ c0, c0 < 2 * sa.1 + 1 → sp sa.2.2 c0 = true → k0 ≠ nI (pcn sa.2.2 c0) := fun c0 g1 g2 g3 => by rw [(in_pc (by omega)).mpr ⟨_, pcn_lt g1 g2, g3⟩] at h1; exact absurd h1 (by decide)
      refine pb_blk B.hx B.hb (lv' := [(0, .ref mo), (1, .int f0), (2, .int k0), (3, .int sd), (4, .int k2)]) (st' := [.int 1, .ref mo]) hl bkX6_end_32_34 rfl (fun ls hl => ?_)
      refine m_callV B hw (c_X6_raise l G mo _ _ 1) cy_X6_raise im_X6_raise se_X6_raise wd_M_X6_97 rfl hl.1 rfl (Nat.le_of_ble_eq_true rfl) ⟨by decide, by decide⟩ ⟨rfl, rfl⟩ ⟨Nat.le_refl _, Nat.le_refl _⟩ dX6_end_34 (fun v H locs S1 ct1 hw_59 hv => ?_)
      obtain ⟨rfl, rfl, rfl⟩ := hv
      have hw := hw_59
      exact m_iret (v := 0) B hw dX6_end_37 (by exact ⟨1, 0, 0, Or.inr ⟨i, hi, ei, Or.inr ⟨sa, hsa, Or.inl ⟨rfl, hno⟩⟩⟩, rfl, rfl, fun _ => rfl, hPb.ag rfl Ag.rf⟩) (Nat.le_of_ble_eq_true rfl) (Nat.le_of_ble_eq_true rfl)

