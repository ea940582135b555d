theorem chg_n {b : Nat → Bool} {k : Nat} (h : chg b k = false) : b (2 * k) = b (2 * k + 1) ∧ b (2 * k + 1) = b (2 * k + 2) := by
  unfold chg at h
  rw [Bool.or_eq_false_iff, bne_eq_false_iff_eq, bne_eq_false_iff_eq] at h
  exact ⟨h.1.symm, h.2⟩
theorem chg_y {b : Nat → Bool} {k : Nat} (h : chg b k = true) : ¬ (b (2 * k) = b (2 * k + 1) ∧ b (2 * k + 1) = b (2 * k + 2)) := by
  rintro ⟨h1, h2⟩
  unfold chg at h
  rw [h1, h2] at h
  simp at h
theorem cz_end (b : Nat → Bool) (k : Nat) : czm b k (2 * czn b k) = b (2 * k) := by
  induction k with
  | zero => rfl
  | succ k ih =>
    cases h : chg b k
    · rw [czm_n h, czn_n h, ih, (chg_n h).1, (chg_n h).2]
      rfl
    · rw [czm_y h, czn_y h]
      show (if 2 * (czn b k + 1) = 2 * czn b k + 1 then _ else if 2 * (czn b k + 1) = 2 * czn b k + 2 then _ else _) = _
      rw [if_neg (by omega), if_pos (by omega)]
      rfl
theorem ap_cz (p : Nat → Rat) (b : Nat → Bool) (k : Nat) : apS (czn b k, czp p b k, czm b k) (p k) (b (2 * k + 1)) (b (2 * k + 2)) = (czn b (k + 1), czp p b (k + 1), czm b (k + 1)) := by
  unfold apS
  show (if czm b k (2 * czn b k) = b (2 * k + 1) ∧ b (2 * k + 1) = b (2 * k + 2) then _ else _) = _
  rw [cz_end]
  cases h : chg b k
  · rw [if_pos (chg_n h), czn_n h, czp_n h, czm_n h]
  · rw [if_neg (chg_y h), czn_y h, czp_y h, czm_y h]
theorem ap_step {ct : Ct} {p : Nat → Rat} {b : Nat → Bool} {k : Nat} {r : Rat} {x y : Bool} (h : SeA ct 81 (apS (czn b k, czp p b k, czm b k) r x y)) (hr : p k = r) (hx : b (2 * k + 1) = x) (hy : b (2 * k + 2) = y) : SeA ct 81 (czn b (k + 1), czp p b (k + 1), czm b (k + 1)) := by
  subst hr hx hy
  rw [ap_cz] at h
  exact h
theorem ap_room {b : Nat → Bool} {k J : Nat} (hk : k < J) {x y : Bool} (hx : b (2 * k + 1) = x) (hy : b (2 * k + 2) = y) (h : ¬ (czm b k (2 * czn b k) = x ∧ x = y)) : czn b k < czn b J := by
  subst hx hy
  rw [cz_end] at h
  have h1 : chg b k = true := by
    cases e : chg b k
    · exact absurd (chg_n e) h
    · rfl
  have h2 := czn_mono b (show k + 1 ≤ J by omega)
  rw [czn_y h1] at h2
  omega
theorem st_se {ct : Ct} (b : Bool) : SeA (va_up (va_up ct 4 (updV (ct 4) 81 (.int 0))) 7 (updV (ct 7) 26001 (.int (b2i b)))) 81 (0, fun _ => 0, fun _ => b) ∧ Ag ct (va_up (va_up ct 4 (updV (ct 4) 81 (.int 0))) 7 (updV (ct 7) 26001 (.int (b2i b)))) ∧ ∀ a, 8 ≤ a → va_up (va_up ct 4 (updV (ct 4) 81 (.int 0))) 7 (updV (ct 7) 26001 (.int (b2i b))) a = ct a := by
  refine ⟨⟨Nat.zero_le _, ?_, fun i hi => absurd hi (Nat.not_lt_zero _), fun j hj => ?_⟩, ⟨rfl, rfl, rfl, fun i hi => ?_, fun i hi => ⟨rfl, rfl⟩, fun i hi => ?_⟩, fun a ha => oth2 (by omega) (by omega)⟩
  · show updV (ct 4) 81 (.int 0) 81 = .int 0
    exact updV_at
  · have hj0 : j = 0 := by have : j < 2 * 0 + 1 := hj; omega
    subst hj0
    show updV (ct 7) 26001 (.int (b2i b)) 26001 = .int (b2i b)
    exact updV_at
  · exact updV_ne (by omega)
  · exact updV_ne (by omega)
theorem kp_set {N : Nat} {th : Nat → Th} {as : St3} {bd : Nat} {z : St3} {S1 S2 : Sc} {ct1 ct2 : Ct} {r : Option Value} (hP : Pst N th as S1 ct1) (hb : bd ≠ 0) (h : KpM N th as bd (.inr z) (80 ≤ N ∨ tgS z.1 z.2.1 = true) S1 ct1 r S2 ct2) : MkK N th as (Kp N bd (.inr z)) r S2 ct2 := by
  rcases h with ⟨g, rfl, rfl, rfl⟩ | ⟨g, rfl, e0, hp⟩
  · exact ⟨bd, .inr z, Or.inl ⟨rfl, g⟩, rfl, Or.inr ⟨hb, ⟨_, rfl⟩, hP.ag rfl Ag.rf⟩⟩
  · refine ⟨0, .inr z, Or.inr ⟨rfl, ?_, ?_, rfl⟩, e0, Or.inl ⟨rfl, rfl, hp⟩⟩
    · exact Nat.lt_of_not_le (fun q => g (Or.inl q))
    · cases e : tgT (.inr z)
      · rfl
      · exact absurd (Or.inr e) g

theorem nn9 {p : Prop} [Decidable p] (h : ¬ ¬ p) : p := Decidable.not_not.mp h

def po_X6_where (mo : Nat) (S : Sc) (ct : Ct) (N : Nat) (th : Nat → Th) (as : St3) (f0 g0 : Int32) : Option Value → Sc → Ct → Prop := fun v S2 ct2 => MkK N th as (R_where N th f0 g0) v S2 ct2
theorem bkX6_where_0_3 : pb_chk cX6_where 0 [.aload_n 0, .aload_n 0, .iload_n 1] = some 3 := by decide +kernel
theorem dX6_where_3 : decode cX6_where 3 = .ok (.invokevirtual 107, 3) := by decide +kernel
theorem dX6_where_6 : decode cX6_where 6 = .ok (.ifCond .ne 7, 3) := by decide +kernel
theorem bkX6_where_13_15 : pb_chk cX6_where 13 [.aload_n 0, .iload_n 1] = some 15 := by decide +kernel
theorem dX6_where_15 : decode cX6_where 15 = .ok (.invokevirtual 111, 3) := by decide +kernel
theorem dX6_where_18 : decode cX6_where 18 = .ok (.ifCond .eq 15, 3) := by decide +kernel
theorem bkX6_where_33_38 : pb_chk cX6_where 33 [.iconst 2, .goto 4] = some 38 := by decide +kernel
theorem dX6_where_38 : decode cX6_where 38 = .ok (.putfield 63, 3) := by decide +kernel
theorem bkX6_where_41_42 : pb_chk cX6_where 41 [.aload_n 0] = some 42 := by decide +kernel
theorem dX6_where_42 : decode cX6_where 42 = .ok (.getfield 63, 3) := by decide +kernel
theorem dX6_where_45 : decode cX6_where 45 = .ok (.ifCond .le 5, 3) := by decide +kernel
theorem bkX6_where_48_49 : pb_chk cX6_where 48 [.iconst 0] = some 49 := by decide +kernel
theorem dX6_where_49 : decode cX6_where 49 = .ok (.ireturn, 1) := by decide +kernel
theorem bkX6_where_21_24 : pb_chk cX6_where 21 [.iload_n 2, .i2l, .lconst 0] = some 24 := by decide +kernel
theorem dX6_where_24 : decode cX6_where 24 = .ok (.ldc2_w 157, 3) := by decide +kernel
theorem dX6_where_27 : decode cX6_where 27 = .ok (.invokestatic 85, 3) := by decide +kernel
theorem dX6_where_30 : decode cX6_where 30 = .ok (.ifCond .ne 7, 3) := by decide +kernel
theorem bkX6_where_37_38 : pb_chk cX6_where 37 [.iconst 0] = some 38 := by decide +kernel
theorem bkX6_where_50_52 : pb_chk cX6_where 50 [.aload_n 0, .iload_n 1] = some 52 := by decide +kernel
theorem dX6_where_52 : decode cX6_where 52 = .ok (.invokevirtual 168, 3) := by decide +kernel
theorem dX6_where_55 : decode cX6_where 55 = .ok (.ifCond .ne 9, 3) := by decide +kernel
theorem bkX6_where_58_60 : pb_chk cX6_where 58 [.aload_n 0, .iconst 3] = some 60 := by decide +kernel
theorem dX6_where_60 : decode cX6_where 60 = .ok (.invokevirtual 97, 3) := by decide +kernel
theorem dX6_where_63 : decode cX6_where 63 = .ok (.ireturn, 1) := by decide +kernel
theorem bkX6_where_64_67 : pb_chk cX6_where 64 [.aload_n 0, .aload_n 0, .aload_n 0] = some 67 := by decide +kernel
theorem dX6_where_67 : decode cX6_where 67 = .ok (.getfield 138, 3) := by decide +kernel
theorem dX6_where_70 : decode cX6_where 70 = .ok (.invokevirtual 171, 3) := by decide +kernel
theorem bkX6_where_73_74 : pb_chk cX6_where 73 [.iload_n 2] = some 74 := by decide +kernel
theorem dX6_where_74 : decode cX6_where 74 = .ok (.invokestatic 174, 3) := by decide +kernel
theorem dX6_where_77 : decode cX6_where 77 = .ok (.invokevirtual 177, 3) := by decide +kernel
theorem bkX6_where_80_84 : pb_chk cX6_where 80 [.iconst 0, .istore_n 3, .iload_n 3, .aload_n 0] = some 84 := by decide +kernel
theorem dX6_where_84 : decode cX6_where 84 = .ok (.getfield 138, 3) := by decide +kernel
theorem dX6_where_87 : decode cX6_where 87 = .ok (.if_icmp .ge 116, 3) := by decide +kernel
theorem bkX6_where_203_205 : pb_chk cX6_where 203 [.aload_n 0, .iconst 3] = some 205 := by decide +kernel
theorem dX6_where_205 : decode cX6_where 205 = .ok (.invokevirtual 185, 3) := by decide +kernel
theorem dX6_where_208 : decode cX6_where 208 = .ok (.ireturn, 1) := by decide +kernel
theorem bkX6_where_90_94 : pb_chk cX6_where 90 [.iload_n 3, .iconst 1, .iadd, .aload_n 0] = some 94 := by decide +kernel
theorem dX6_where_94 : decode cX6_where 94 = .ok (.getfield 138, 3) := by decide +kernel
theorem dX6_where_97 : decode cX6_where 97 = .ok (.if_icmp .ge 39, 3) := by decide +kernel
theorem bkX6_where_136_141 : pb_chk cX6_where 136 [.iconst 0, .istore 4, .iload 4] = some 141 := by decide +kernel
theorem dX6_where_141 : decode cX6_where 141 = .ok (.ifCond .eq 7, 3) := by decide +kernel
theorem bkX6_where_148_149 : pb_chk cX6_where 148 [.aload_n 0] = some 149 := by decide +kernel
theorem dX6_where_149 : decode cX6_where 149 = .ok (.getfield 138, 3) := by decide +kernel
theorem bkX6_where_152_160 : pb_chk cX6_where 152 [.iconst 1, .isub, .iload_n 3, .isub, .istore 5, .aload_n 0, .aload_n 0] = some 160 := by decide +kernel
theorem dX6_where_160 : decode cX6_where 160 = .ok (.getfield 45, 3) := by decide +kernel
theorem bkX6_where_163_164 : pb_chk cX6_where 163 [.iload_n 3] = some 164 := by decide +kernel
theorem dX6_where_164 : decode cX6_where 164 = .ok (.laload, 1) := by decide +kernel
theorem bkX6_where_165_166 : pb_chk cX6_where 165 [.aload_n 0] = some 166 := by decide +kernel
theorem dX6_where_166 : decode cX6_where 166 = .ok (.getfield 48, 3) := by decide +kernel
theorem bkX6_where_169_170 : pb_chk cX6_where 169 [.iload_n 3] = some 170 := by decide +kernel
theorem dX6_where_170 : decode cX6_where 170 = .ok (.laload, 1) := by decide +kernel
theorem bkX6_where_171_173 : pb_chk cX6_where 171 [.iconst 0, .iload_n 2] = some 173 := by decide +kernel
theorem dX6_where_173 : decode cX6_where 173 = .ok (.invokestatic 174, 3) := by decide +kernel
theorem bkX6_where_176_179 : pb_chk cX6_where 176 [.aload_n 0, .iload 5] = some 179 := by decide +kernel
theorem dX6_where_179 : decode cX6_where 179 = .ok (.invokevirtual 171, 3) := by decide +kernel
theorem bkX6_where_182_183 : pb_chk cX6_where 182 [.iload_n 2] = some 183 := by decide +kernel
theorem dX6_where_183 : decode cX6_where 183 = .ok (.invokestatic 174, 3) := by decide +kernel
theorem dX6_where_186 : decode cX6_where 186 = .ok (.invokevirtual 181, 3) := by decide +kernel
theorem bkX6_where_189_191 : pb_chk cX6_where 189 [.iload 4] = some 191 := by decide +kernel
theorem dX6_where_191 : decode cX6_where 191 = .ok (.ifCond .eq 6, 3) := by decide +kernel
theorem bkX6_where_197_84 : pb_chk cX6_where 197 [.iinc 3 1, .goto (-118), .iload_n 3, .aload_n 0] = some 84 := by decide +kernel
theorem bkX6_where_100_101 : pb_chk cX6_where 100 [.aload_n 0] = some 101 := by decide +kernel
theorem dX6_where_101 : decode cX6_where 101 = .ok (.getfield 45, 3) := by decide +kernel
theorem bkX6_where_104_105 : pb_chk cX6_where 104 [.iconst 0] = some 105 := by decide +kernel
theorem dX6_where_105 : decode cX6_where 105 = .ok (.laload, 1) := by decide +kernel
theorem bkX6_where_106_107 : pb_chk cX6_where 106 [.aload_n 0] = some 107 := by decide +kernel
theorem dX6_where_107 : decode cX6_where 107 = .ok (.getfield 45, 3) := by decide +kernel
theorem bkX6_where_110_111 : pb_chk cX6_where 110 [.iconst 1] = some 111 := by decide +kernel
theorem dX6_where_111 : decode cX6_where 111 = .ok (.laload, 1) := by decide +kernel
theorem bkX6_where_112_113 : pb_chk cX6_where 112 [.lcmp] = some 113 := by decide +kernel
theorem dX6_where_113 : decode cX6_where 113 = .ok (.ifCond .ne 23, 3) := by decide +kernel
theorem bkX6_where_116_117 : pb_chk cX6_where 116 [.aload_n 0] = some 117 := by decide +kernel
theorem dX6_where_117 : decode cX6_where 117 = .ok (.getfield 48, 3) := by decide +kernel
theorem bkX6_where_120_121 : pb_chk cX6_where 120 [.iconst 0] = some 121 := by decide +kernel
theorem dX6_where_121 : decode cX6_where 121 = .ok (.laload, 1) := by decide +kernel
theorem bkX6_where_122_123 : pb_chk cX6_where 122 [.aload_n 0] = some 123 := by decide +kernel
theorem dX6_where_123 : decode cX6_where 123 = .ok (.getfield 48, 3) := by decide +kernel
theorem bkX6_where_126_127 : pb_chk cX6_where 126 [.iconst 1] = some 127 := by decide +kernel
theorem dX6_where_127 : decode cX6_where 127 = .ok (.laload, 1) := by decide +kernel
theorem bkX6_where_128_129 : pb_chk cX6_where 128 [.lcmp] = some 129 := by decide +kernel
theorem dX6_where_129 : decode cX6_where 129 = .ok (.ifCond .ne 7, 3) := by decide +kernel
theorem bkX6_where_132_141 : pb_chk cX6_where 132 [.iconst 1, .goto 4, .istore 4, .iload 4] = some 141 := by decide +kernel
theorem bkX6_where_144_160 : pb_chk cX6_where 144 [.iconst 0, .goto 11, .istore 5, .aload_n 0, .aload_n 0] = some 160 := by decide +kernel
theorem bkX6_where_194_205 : pb_chk cX6_where 194 [.goto 9, .aload_n 0, .iconst 3] = some 205 := by decide +kernel
theorem bkX6_where_9_38 : pb_chk cX6_where 9 [.iconst 1, .goto 28] = some 38 := by decide +kernel
set_option maxHeartbeats 4000000 in
set_option maxRecDepth 100000 in
theorem c_X6_where (l : Launch) (G : Gm) (mo : Nat) (S : Sc) (ct : Ct) (N : Nat) (th : Nat → Th) (as : St3) (f0 g0 : Int32) (hP : Pst N th as S ct) (hB : Bds N th as) : Mm l yX6_where cX6_where 6 (some .int) (⟨4, 0, 0, 120⟩ : Room) G mo S ct [.ref mo, .int f0, .int g0] (po_X6_where mo S ct N th as f0 g0) := by
  refine of_met (by decide) (Nat.le_of_ble_eq_true rfl) ?_
  intro p e s m below meth c ls B hA hM0 hl
  have hw := Mw.start hM0
  refine pb_blk B.hx B.hb (lv' := [(0, .ref mo), (1, .int f0), (2, .int g0)]) (st' := [.int f0, .ref mo, .ref mo]) hl bkX6_where_0_3 rfl (fun ls hl => ?_)
  refine m_callN B hw (c_X6_isThere l G (fun _ => False) mo S ct N f0 hP.1 hP.2.1) cy_X6_isThere im_X6_isThere se_X6_isThere wd_M_X6_107 hw.1 rfl hl.1 rfl (Nat.le_of_ble_eq_true rfl) ⟨by decide, by decide⟩ ⟨rfl, rfl⟩ ⟨Nat.le_refl _, Nat.le_refl _⟩ dX6_where_3 (fun v hv => ?_)
  obtain ⟨t1, rfl, ht1⟩ := hv
  refine lv_if_ne (tgt := 13) B.hx B.hb dX6_where_6 (by decide) (fun h1 => ?_) (fun h1 => ?_)
  · obtain ⟨i, hi, rfl⟩ := ht1.mp (ts9 (fun q => h1 ((b2i_0 _).mpr q)))
    have hN := hP.1
    refine pb_blk B.hx B.hb (lv' := [(0, .ref mo), (1, .int (nI i)), (2, .int g0)]) (st' := [.int (nI i), .ref mo, .ref mo]) hl bkX6_where_13_15 rfl (fun ls hl => ?_)
    refine m_callN B hw (c_X6_isFormula l G (fun _ => False) mo S ct i (th i) (by have := hP.1; omega) (hP.2.2.1 i hi)) cy_X6_isFormula im_X6_isFormula se_X6_isFormula wd_M_X6_111 hw.1 rfl hl.1 rfl (Nat.le_of_ble_eq_true rfl) ⟨by decide, by decide⟩ ⟨rfl, rfl⟩ ⟨Nat.le_refl _, Nat.le_refl _⟩ dX6_where_15 (fun v hv => ?_)
    obtain ⟨t3, rfl, ht3⟩ := hv
    refine lv_if_eq (tgt := 33) B.hx B.hb dX6_where_18 (by decide) (fun h3 => ?_) (fun h3 => ?_)
    · have y3 : ¬ ∃ u, th i = .inl u := fun q => by rw [ht3.mpr q] at h3; exact absurd h3 (by decide)
      refine pb_blk B.hx B.hb (lv' := [(0, .ref mo), (1, .int (nI i)), (2, .int g0)]) (st' := [.int 2, .ref mo]) hl bkX6_where_33_38 rfl (fun ls hl => ?_)
      refine m_put B hw 0 (by decide) wd_F_X6_63 rfl rfl rfl rfl dX6_where_38 (fun H locs hw => ?_)
      refine pb_blk B.hx B.hb (lv' := [(0, .ref mo), (1, .int (nI i)), (2, .int g0)]) (st' := [.ref mo]) hl bkX6_where_41_42 rfl (fun ls hl => ?_)
      refine m_get B hw 0 (by decide) wd_F_X6_63 (congrArg some (show _ = (.int 2 : Value) from rfl)) dX6_where_42 ?_
      refine lv_if_le (tgt := 50) B.hx B.hb dX6_where_45 (by decide) (fun h => absurd h (by decide)) (fun _ => ?_)
      refine pb_blk B.hx B.hb (lv' := [(0, .ref mo), (1, .int (nI i)), (2, .int g0)]) (st' := [.int 0]) hl bkX6_where_48_49 rfl (fun ls hl => ?_)
      exact m_iret (v := 0) B hw dX6_where_49 (by exact ⟨2, .inl (fun _ => 0), Or.inr ⟨i, hi, rfl, Or.inl ⟨rfl, y3⟩⟩, rfl, Or.inr ⟨by decide, ⟨_, rfl⟩, hP.ag rfl Ag.rf⟩⟩) (Nat.le_of_ble_eq_true rfl) (Nat.le_of_ble_eq_true rfl)
    · obtain ⟨u, hu⟩ := ht3.mp (ts9 (fun q => h3 ((b2i_0 _).mpr q)))
      have fi := hP.2.2.1 i hi
      rw [hu] at fi
      have hsu := hB.1 i hi u hu
      refine pb_blk B.hx B.hb (lv' := [(0, .ref mo), (1, .int (nI i)), (2, .int g0)]) (st' := [.long 0, .long g0.toInt64, .ref mo]) hl bkX6_where_21_24 rfl (fun ls hl => ?_)
      refine z_ldc2 B wd_L_X6_157 dX6_where_24 ?_
      refine m_callS B (c_X6_in l G (fun _ => False) g0.toInt64 0 2) cy_X6_in st_X6_in wd_M_X6_85 trivial rfl hl.1 rfl (Nat.le_of_ble_eq_true rfl) ⟨by decide, by decide⟩ ⟨rfl, rfl⟩ ⟨Nat.le_refl _, Nat.le_refl _⟩ dX6_where_27 (fun v hv => ?_)
      rw [po_X6_in] at hv
      subst hv
      refine lv_if_ne (tgt := 37) B.hx B.hb dX6_where_30 (by decide) (fun h4 => ?_) (fun h4 => ?_)
      · have hk : opOK g0 := in_02.mp (ts9 (fun q => h4 ((b2i_0 _).mpr q)))
        refine pb_blk B.hx B.hb (lv' := [(0, .ref mo), (1, .int (nI i)), (2, .int g0)]) (st' := [.int 0, .ref mo]) hl bkX6_where_37_38 rfl (fun ls hl => ?_)
        refine m_put B hw 0 (by decide) wd_F_X6_63 rfl rfl rfl rfl dX6_where_38 (fun H locs hw => ?_)
        refine pb_blk B.hx B.hb (lv' := [(0, .ref mo), (1, .int (nI i)), (2, .int g0)]) (st' := [.ref mo]) hl bkX6_where_41_42 rfl (fun ls hl => ?_)
        refine m_get B hw 0 (by decide) wd_F_X6_63 (congrArg some (show _ = (.int 0 : Value) from rfl)) dX6_where_42 ?_
        refine lv_if_le (tgt := 50) B.hx B.hb dX6_where_45 (by decide) (fun _ => ?_) (fun h => absurd h (by decide))
        refine pb_blk B.hx B.hb (lv' := [(0, .ref mo), (1, .int (nI i)), (2, .int g0)]) (st' := [.int (nI i), .ref mo]) hl bkX6_where_50_52 rfl (fun ls hl => ?_)
        refine m_callV B hw (c_X6_tells l G mo _ _ N th as i u (hP.ag rfl Ag.rf) hi hu hsu) cy_X6_tells im_X6_tells se_X6_tells wd_M_X6_168 rfl hl.1 rfl (Nat.le_of_ble_eq_true rfl) ⟨by decide, by decide⟩ ⟨rfl, rfl⟩ ⟨Nat.le_refl _, Nat.le_refl _⟩ dX6_where_52 (fun v H locs Sb ctb hw_69 hv => ?_)
        obtain ⟨s0, s1, ot, hv⟩ := hv
        have hw := hw_69
        have hPb : Pst N th as Sb ctb := hP.ag s1 (Ag.hi (fun a g1 g2 => ot a (by omega) (by omega) (by omega) (by omega)))
        rcases hv with ⟨rfl, hno⟩ | ⟨rfl, j, be, AA, n, pt, sg, e15, e18, hrow, htl, han⟩
        · refine lv_if_ne (tgt := 64) B.hx B.hb dX6_where_55 (by decide) (fun h5 => absurd h5 (by decide)) (fun h5 => ?_)
          refine pb_blk B.hx B.hb (lv' := [(0, .ref mo), (1, .int (nI i)), (2, .int g0)]) (st' := [.int 3, .ref mo]) hl bkX6_where_58_60 rfl (fun ls hl => ?_)
          refine m_callV B hw (c_X6_raise l G mo _ _ 3) cy_X6_raise im_X6_raise se_X6_raise wd_M_X6_97 rfl hl.1 rfl (Nat.le_of_ble_eq_true rfl) ⟨by decide, by decide⟩ ⟨rfl, rfl⟩ ⟨Nat.le_refl _, Nat.le_refl _⟩ dX6_where_60 (fun v H locs Sc1 ctc hw_70 hv => ?_)
          obtain ⟨rfl, rfl, rfl⟩ := hv
          have hw := hw_70
          exact m_iret (v := 0) B hw dX6_where_63 (by exact ⟨3, .inl (fun _ => 0), Or.inr ⟨i, hi, rfl, Or.inr ⟨u, hu, Or.inr ⟨hk, Or.inl ⟨rfl, hno⟩⟩⟩⟩, rfl, Or.inr ⟨by decide, ⟨_, rfl⟩, hPb.ag rfl Ag.rf⟩⟩) (Nat.le_of_ble_eq_true rfl) (Nat.le_of_ble_eq_true rfl)
        · refine lv_if_ne (tgt := 64) B.hx B.hb dX6_where_55 (by decide) (fun h5 => ?_) (fun h5 => absurd h5 (by decide))
          rcases han with ⟨rfl, rfl, rfl⟩ | ⟨rfl, rfl, hp0, rfl⟩ | ⟨rfl, rfl, h01, hp0, rfl⟩ | ⟨rfl, rfl, h01, hp0, hp1, rfl⟩
          · refine pb_blk B.hx B.hb (lv' := [(0, .ref mo), (1, .int (nI i)), (2, .int g0)]) (st' := [.ref mo, .ref mo, .ref mo]) hl bkX6_where_64_67 rfl (fun ls hl => ?_)
            refine m_get B hw 15 (by decide) wd_F_X6_138 (congrArg some (show _ = (.int 0 : Value) from e15)) dX6_where_67 ?_
            refine m_callN B hw (c_X6_signBefore l G (fun _ => False) mo _ _ 0 be (by decide) e18) cy_X6_signBefore im_X6_signBefore se_X6_signBefore wd_M_X6_171 hw.1 rfl hl.1 rfl (Nat.le_of_ble_eq_true rfl) ⟨by decide, by decide⟩ ⟨rfl, rfl⟩ ⟨Nat.le_refl _, Nat.le_refl _⟩ dX6_where_70 (fun v hv => ?_)
            have hv : v = some (.int be) := hv
            subst hv
            refine pb_blk B.hx B.hb (lv' := [(0, .ref mo), (1, .int (nI i)), (2, .int g0)]) (st' := [.int g0, .int be, .ref mo]) hl bkX6_where_73_74 rfl (fun ls hl => ?_)
            refine m_callS B (c_X6_is l G (fun _ => False) be g0) cy_X6_is st_X6_is wd_M_X6_174 trivial rfl hl.1 rfl (Nat.le_of_ble_eq_true rfl) ⟨by decide, by decide⟩ ⟨rfl, rfl⟩ ⟨Nat.le_refl _, Nat.le_refl _⟩ dX6_where_74 (fun v hv => ?_)
            rw [po_X6_is] at hv
            subst hv
            refine m_callV B hw (c_X6_start l G mo _ _ (chB g0 be)) cy_X6_start im_X6_start se_X6_start wd_M_X6_177 rfl hl.1 rfl (Nat.le_of_ble_eq_true rfl) ⟨by decide, by decide⟩ ⟨rfl, rfl⟩ ⟨Nat.le_refl _, Nat.le_refl _⟩ dX6_where_77 (fun v H locs Sq0 ct0 hw_71 hv => ?_)
            obtain ⟨rfl, rfl, rfl⟩ := hv
            have hw := hw_71
            obtain ⟨hz0, ag0, o0⟩ := st_se (ct := ctb) (chB g0 be)
            have hz0 : SeA _ 81 (czn (fun j => chB g0 ((fun _ : Nat => be) j)) 0, czp pt (fun j => chB g0 ((fun _ : Nat => be) j)) 0, czm (fun j => chB g0 ((fun _ : Nat => be) j)) 0) := hz0
            have oq0 := o0
            refine pb_blk B.hx B.hb (lv' := [(3, .int 0), (0, .ref mo), (1, .int (nI i)), (2, .int g0)]) (st' := [.ref mo, .int 0]) hl bkX6_where_80_84 rfl (fun ls hl => ?_)
            refine m_get B hw 15 (by decide) wd_F_X6_138 (congrArg some (show _ = (.int 0 : Value) from e15)) dX6_where_84 ?_
            refine lv_icmp_ge (tgt := 203) B.hx B.hb dX6_where_87 (by decide) (fun h6 => ?_) (fun h6 => absurd h6 (by decide))
            refine pb_blk B.hx B.hb (lv' := [(3, .int 0), (0, .ref mo), (1, .int (nI i)), (2, .int g0)]) (st' := [.int 3, .ref mo]) hl bkX6_where_203_205 rfl (fun ls hl => ?_)
            have hPq : Pst N th as _ _ := hPb.ag rfl ag0
            refine m_callV B hw (c_X6_keepSet l G mo _ _ N th as 3 (czn (fun j => chB g0 ((fun _ : Nat => be) j)) 0, czp pt (fun j => chB g0 ((fun _ : Nat => be) j)) 0, czm (fun j => chB g0 ((fun _ : Nat => be) j)) 0) hPq hz0) cy_X6_keepSet im_X6_keepSet se_X6_keepSet wd_M_X6_185 rfl hl.1 rfl (Nat.le_of_ble_eq_true rfl) ⟨by decide, by decide⟩ ⟨rfl, rfl⟩ ⟨Nat.le_refl _, Nat.le_refl _⟩ dX6_where_205 (fun v H locs Sd ctd hw_72 hv => ?_)
            have hk9 := kp_set hPq (by decide) hv
            have hw := hw_72
            obtain ⟨cc, tt, g1, g2, g3⟩ := hk9
            have hval : ∃ r, v = some (.int r) := by rcases g3 with ⟨-, e9, -⟩ | ⟨-, ⟨r9, e9⟩, -⟩; exact ⟨_, e9⟩; exact ⟨_, e9⟩
            obtain ⟨r9, rfl⟩ := hval
            exact m_iret (v := r9) B hw dX6_where_208 (by exact ⟨cc, tt, Or.inr ⟨i, hi, rfl, Or.inr ⟨u, hu, Or.inr ⟨hk, Or.inr ⟨_, pt, _, htl, g1⟩⟩⟩⟩, g2, g3⟩) (Nat.le_of_ble_eq_true rfl) (Nat.le_of_ble_eq_true rfl)
          · obtain ⟨n0, d0, w0, v0, fx0⟩ := hrow 0 (by decide)
            refine pb_blk B.hx B.hb (lv' := [(0, .ref mo), (1, .int (nI i)), (2, .int g0)]) (st' := [.ref mo, .ref mo, .ref mo]) hl bkX6_where_64_67 rfl (fun ls hl => ?_)
            refine m_get B hw 15 (by decide) wd_F_X6_138 (congrArg some (show _ = (.int 1 : Value) from e15)) dX6_where_67 ?_
            refine m_callN B hw (c_X6_signBefore l G (fun _ => False) mo _ _ 1 be (by decide) e18) cy_X6_signBefore im_X6_signBefore se_X6_signBefore wd_M_X6_171 hw.1 rfl hl.1 rfl (Nat.le_of_ble_eq_true rfl) ⟨by decide, by decide⟩ ⟨rfl, rfl⟩ ⟨Nat.le_refl _, Nat.le_refl _⟩ dX6_where_70 (fun v hv => ?_)
            have hv : v = some (.int (-be)) := hv
            subst hv
            refine pb_blk B.hx B.hb (lv' := [(0, .ref mo), (1, .int (nI i)), (2, .int g0)]) (st' := [.int g0, .int (-be), .ref mo]) hl bkX6_where_73_74 rfl (fun ls hl => ?_)
            refine m_callS B (c_X6_is l G (fun _ => False) (-be) g0) cy_X6_is st_X6_is wd_M_X6_174 trivial rfl hl.1 rfl (Nat.le_of_ble_eq_true rfl) ⟨by decide, by decide⟩ ⟨rfl, rfl⟩ ⟨Nat.le_refl _, Nat.le_refl _⟩ dX6_where_74 (fun v hv => ?_)
            rw [po_X6_is] at hv
            subst hv
            refine m_callV B hw (c_X6_start l G mo _ _ (chB g0 (-be))) cy_X6_start im_X6_start se_X6_start wd_M_X6_177 rfl hl.1 rfl (Nat.le_of_ble_eq_true rfl) ⟨by decide, by decide⟩ ⟨rfl, rfl⟩ ⟨Nat.le_refl _, Nat.le_refl _⟩ dX6_where_77 (fun v H locs Sq0 ct0 hw_73 hv => ?_)
            obtain ⟨rfl, rfl, rfl⟩ := hv
            have hw := hw_73
            obtain ⟨hz0, ag0, o0⟩ := st_se (ct := ctb) (chB g0 (-be))
            have hz0 : SeA _ 81 (czn (fun j => chB g0 (sl3 be j)) 0, czp pt (fun j => chB g0 (sl3 be j)) 0, czm (fun j => chB g0 (sl3 be j)) 0) := hz0
            have oq0 := o0
            refine pb_blk B.hx B.hb (lv' := [(3, .int 0), (0, .ref mo), (1, .int (nI i)), (2, .int g0)]) (st' := [.ref mo, .int 0]) hl bkX6_where_80_84 rfl (fun ls hl => ?_)
            refine m_get B hw 15 (by decide) wd_F_X6_138 (congrArg some (show _ = (.int 1 : Value) from e15)) dX6_where_84 ?_
            refine lv_icmp_ge (tgt := 203) B.hx B.hb dX6_where_87 (by decide) (fun h6 => absurd h6 (by decide)) (fun h6 => ?_)
            refine pb_blk B.hx B.hb (lv' := [(3, .int 0), (0, .ref mo), (1, .int (nI i)), (2, .int g0)]) (st' := [.ref mo, .int 1]) hl bkX6_where_90_94 rfl (fun ls hl => ?_)
            refine m_get B hw 15 (by decide) wd_F_X6_138 (congrArg some (show _ = (.int 1 : Value) from e15)) dX6_where_94 ?_
            refine lv_icmp_ge (tgt := 136) B.hx B.hb dX6_where_97 (by decide) (fun h7 => ?_) (fun h7 => absurd h7 (by decide))
            refine pb_blk B.hx B.hb (lv' := [(4, .int 0), (3, .int 0), (0, .ref mo), (1, .int (nI i)), (2, .int g0)]) (st' := [.int 0]) hl bkX6_where_136_141 rfl (fun ls hl => ?_)
            refine lv_if_eq (tgt := 148) B.hx B.hb dX6_where_141 (by decide) (fun h8 => ?_) (fun h8 => absurd h8 (by decide))
            refine pb_blk B.hx B.hb (lv' := [(4, .int 0), (3, .int 0), (0, .ref mo), (1, .int (nI i)), (2, .int g0)]) (st' := [.ref mo]) hl bkX6_where_148_149 rfl (fun ls hl => ?_)
            refine m_get B hw 15 (by decide) wd_F_X6_138 (congrArg some (show _ = (.int 1 : Value) from e15)) dX6_where_149 ?_
            refine pb_blk B.hx B.hb (lv' := [(5, .int 0), (4, .int 0), (3, .int 0), (0, .ref mo), (1, .int (nI i)), (2, .int g0)]) (st' := [.ref mo, .ref mo]) hl bkX6_where_152_160 rfl (fun ls hl => ?_)
            refine m_get B hw 16 (by decide) wd_F_X6_45 rfl dX6_where_160 ?_
            refine pb_blk B.hx B.hb (lv' := [(5, .int 0), (4, .int 0), (3, .int 0), (0, .ref mo), (1, .int (nI i)), (2, .int g0)]) (st' := [.int 0, .ref (mo + 12), .ref mo]) hl bkX6_where_163_164 rfl (fun ls hl => ?_)
            refine m_lald B hw 12 (by decide) (by decide) rfl (show vp_in (nI 0) 2 from vp_in_nI (by decide) (by decide)) (v := .long n0) (by rw [show (0 : Int32).toNatClampNeg = 0 from by decide]; exact ((congrFun (oq0 12 (by decide)) 0).trans w0)) dX6_where_164 ?_
            refine pb_blk B.hx B.hb (lv' := [(5, .int 0), (4, .int 0), (3, .int 0), (0, .ref mo), (1, .int (nI i)), (2, .int g0)]) (st' := [.ref mo, .long n0, .ref mo]) hl bkX6_where_165_166 rfl (fun ls hl => ?_)
            refine m_get B hw 17 (by decide) wd_F_X6_48 rfl dX6_where_166 ?_
            refine pb_blk B.hx B.hb (lv' := [(5, .int 0), (4, .int 0), (3, .int 0), (0, .ref mo), (1, .int (nI i)), (2, .int g0)]) (st' := [.int 0, .ref (mo + 13), .long n0, .ref mo]) hl bkX6_where_169_170 rfl (fun ls hl => ?_)
            refine m_lald B hw 13 (by decide) (by decide) rfl (show vp_in (nI 0) 2 from vp_in_nI (by decide) (by decide)) (v := .long d0) (by rw [show (0 : Int32).toNatClampNeg = 0 from by decide]; exact ((congrFun (oq0 13 (by decide)) 0).trans v0)) dX6_where_170 ?_
            refine pb_blk B.hx B.hb (lv' := [(5, .int 0), (4, .int 0), (3, .int 0), (0, .ref mo), (1, .int (nI i)), (2, .int g0)]) (st' := [.int g0, .int 0, .long d0, .long n0, .ref mo]) hl bkX6_where_171_173 rfl (fun ls hl => ?_)
            refine m_callS B (c_X6_is l G (fun _ => False) 0 g0) cy_X6_is st_X6_is wd_M_X6_174 trivial rfl hl.1 rfl (Nat.le_of_ble_eq_true rfl) ⟨by decide, by decide⟩ ⟨rfl, rfl⟩ ⟨Nat.le_refl _, Nat.le_refl _⟩ dX6_where_173 (fun v hv => ?_)
            rw [po_X6_is] at hv
            subst hv
            refine pb_blk B.hx B.hb (lv' := [(5, .int 0), (4, .int 0), (3, .int 0), (0, .ref mo), (1, .int (nI i)), (2, .int g0)]) (st' := [.int 0, .ref mo, .int (b2i (chB g0 0)), .long d0, .long n0, .ref mo]) hl bkX6_where_176_179 rfl (fun ls hl => ?_)
            refine m_callN B hw (c_X6_signBefore l G (fun _ => False) mo _ _ 0 be (by decide) e18) cy_X6_signBefore im_X6_signBefore se_X6_signBefore wd_M_X6_171 hw.1 rfl hl.1 rfl (Nat.le_of_ble_eq_true rfl) ⟨by decide, by decide⟩ ⟨rfl, rfl⟩ ⟨Nat.le_refl _, Nat.le_refl _⟩ dX6_where_179 (fun v hv => ?_)
            have hv : v = some (.int be) := hv
            subst hv
            refine pb_blk B.hx B.hb (lv' := [(5, .int 0), (4, .int 0), (3, .int 0), (0, .ref mo), (1, .int (nI i)), (2, .int g0)]) (st' := [.int g0, .int be, .int (b2i (chB g0 0)), .long d0, .long n0, .ref mo]) hl bkX6_where_182_183 rfl (fun ls hl => ?_)
            refine m_callS B (c_X6_is l G (fun _ => False) be g0) cy_X6_is st_X6_is wd_M_X6_174 trivial rfl hl.1 rfl (Nat.le_of_ble_eq_true rfl) ⟨by decide, by decide⟩ ⟨rfl, rfl⟩ ⟨Nat.le_refl _, Nat.le_refl _⟩ dX6_where_183 (fun v hv => ?_)
            rw [po_X6_is] at hv
            subst hv
            refine m_callV B hw (c_X6_append l G mo _ _ n0 d0 (chB g0 0) (chB g0 be) (AA 0) (czn (fun j => chB g0 (sl3 be j)) 0, czp pt (fun j => chB g0 (sl3 be j)) 0, czm (fun j => chB g0 (sl3 be j)) 0) fx0 hz0 (fun _ => Nat.lt_of_le_of_lt (czn_le _ _) (by decide))) cy_X6_append im_X6_append se_X6_append wd_M_X6_181 rfl hl.1 rfl (Nat.le_of_ble_eq_true rfl) ⟨by decide, by decide⟩ ⟨rfl, rfl⟩ ⟨Nat.le_refl _, Nat.le_refl _⟩ dX6_where_186 (fun v H locs Sq1 ct1 hw_74 hv => ?_)
            obtain ⟨rfl, rfl, hz1, ag1, o1⟩ := hv
            have hw := hw_74
            have hz1 := ap_step (p := pt) (b := (fun j => chB g0 (sl3 be j))) (k := 0) hz1 hp0 rfl rfl
            have oq1 := fun a h => (o1 a h).trans (oq0 a h)
            have ag1 := ag0.trans ag1
            refine pb_blk B.hx B.hb (lv' := [(5, .int 0), (4, .int 0), (3, .int 0), (0, .ref mo), (1, .int (nI i)), (2, .int g0)]) (st' := [.int 0]) hl bkX6_where_189_191 rfl (fun ls hl => ?_)
            refine lv_if_eq (tgt := 197) B.hx B.hb dX6_where_191 (by decide) (fun h9 => ?_) (fun h9 => absurd h9 (by decide))
            refine pb_blk B.hx B.hb (lv' := [(3, .int 1), (5, .int 0), (4, .int 0), (0, .ref mo), (1, .int (nI i)), (2, .int g0)]) (st' := [.ref mo, .int 1]) hl bkX6_where_197_84 rfl (fun ls hl => ?_)
            refine m_get B hw 15 (by decide) wd_F_X6_138 (congrArg some (show _ = (.int 1 : Value) from e15)) dX6_where_84 ?_
            refine lv_icmp_ge (tgt := 203) B.hx B.hb dX6_where_87 (by decide) (fun h6 => ?_) (fun h6 => absurd h6 (by decide))
            refine pb_blk B.hx B.hb (lv' := [(3, .int 1), (5, .int 0), (4, .int 0), (0, .ref mo), (1, .int (nI i)), (2, .int g0)]) (st' := [.int 3, .ref mo]) hl bkX6_where_203_205 rfl (fun ls hl => ?_)
            have hPq : Pst N th as _ _ := hPb.ag rfl ag1
            refine m_callV B hw (c_X6_keepSet l G mo _ _ N th as 3 (czn (fun j => chB g0 (sl3 be j)) 1, czp pt (fun j => chB g0 (sl3 be j)) 1, czm (fun j => chB g0 (sl3 be j)) 1) hPq hz1) cy_X6_keepSet im_X6_keepSet se_X6_keepSet wd_M_X6_185 rfl hl.1 rfl (Nat.le_of_ble_eq_true rfl) ⟨by decide, by decide⟩ ⟨rfl, rfl⟩ ⟨Nat.le_refl _, Nat.le_refl _⟩ dX6_where_205 (fun v H locs Sd ctd hw_75 hv => ?_)
            have hk9 := kp_set hPq (by decide) hv
            have hw := hw_75
            obtain ⟨cc, tt, g1, g2, g3⟩ := hk9
            have hval : ∃ r, v = some (.int r) := by rcases g3 with ⟨-, e9, -⟩ | ⟨-, ⟨r9, e9⟩, -⟩; exact ⟨_, e9⟩; exact ⟨_, e9⟩
            obtain ⟨r9, rfl⟩ := hval
            exact m_iret (v := r9) B hw dX6_where_208 (by exact ⟨cc, tt, Or.inr ⟨i, hi, rfl, Or.inr ⟨u, hu, Or.inr ⟨hk, Or.inr ⟨_, pt, _, htl, g1⟩⟩⟩⟩, g2, g3⟩) (Nat.le_of_ble_eq_true rfl) (Nat.le_of_ble_eq_true rfl)
          · obtain ⟨n0, d0, w0, v0, fx0⟩ := hrow 0 (by decide)
            obtain ⟨n1, d1, w1, v1, fx1⟩ := hrow 1 (by decide)
            refine pb_blk B.hx B.hb (lv' := [(0, .ref mo), (1, .int (nI i)), (2, .int g0)]) (st' := [.ref mo, .ref mo, .ref mo]) hl bkX6_where_64_67 rfl (fun ls hl => ?_)
            refine m_get B hw 15 (by decide) wd_F_X6_138 (congrArg some (show _ = (.int 2 : Value) from e15)) dX6_where_67 ?_
            refine m_callN B hw (c_X6_signBefore l G (fun _ => False) mo _ _ 2 be (by decide) e18) cy_X6_signBefore im_X6_signBefore se_X6_signBefore wd_M_X6_171 hw.1 rfl hl.1 rfl (Nat.le_of_ble_eq_true rfl) ⟨by decide, by decide⟩ ⟨rfl, rfl⟩ ⟨Nat.le_refl _, Nat.le_refl _⟩ dX6_where_70 (fun v hv => ?_)
            have hv : v = some (.int be) := hv
            subst hv
            refine pb_blk B.hx B.hb (lv' := [(0, .ref mo), (1, .int (nI i)), (2, .int g0)]) (st' := [.int g0, .int be, .ref mo]) hl bkX6_where_73_74 rfl (fun ls hl => ?_)
            refine m_callS B (c_X6_is l G (fun _ => False) be g0) cy_X6_is st_X6_is wd_M_X6_174 trivial rfl hl.1 rfl (Nat.le_of_ble_eq_true rfl) ⟨by decide, by decide⟩ ⟨rfl, rfl⟩ ⟨Nat.le_refl _, Nat.le_refl _⟩ dX6_where_74 (fun v hv => ?_)
            rw [po_X6_is] at hv
            subst hv
            refine m_callV B hw (c_X6_start l G mo _ _ (chB g0 be)) cy_X6_start im_X6_start se_X6_start wd_M_X6_177 rfl hl.1 rfl (Nat.le_of_ble_eq_true rfl) ⟨by decide, by decide⟩ ⟨rfl, rfl⟩ ⟨Nat.le_refl _, Nat.le_refl _⟩ dX6_where_77 (fun v H locs Sq0 ct0 hw_76 hv => ?_)
            obtain ⟨rfl, rfl, rfl⟩ := hv
            have hw := hw_76
            obtain ⟨hz0, ag0, o0⟩ := st_se (ct := ctb) (chB g0 be)
            have hz0 : SeA _ 81 (czn (fun j => chB g0 (sq3 be j)) 0, czp pt (fun j => chB g0 (sq3 be j)) 0, czm (fun j => chB g0 (sq3 be j)) 0) := hz0
            have oq0 := o0
            refine pb_blk B.hx B.hb (lv' := [(3, .int 0), (0, .ref mo), (1, .int (nI i)), (2, .int g0)]) (st' := [.ref mo, .int 0]) hl bkX6_where_80_84 rfl (fun ls hl => ?_)
            refine m_get B hw 15 (by decide) wd_F_X6_138 (congrArg some (show _ = (.int 2 : Value) from e15)) dX6_where_84 ?_
            refine lv_icmp_ge (tgt := 203) B.hx B.hb dX6_where_87 (by decide) (fun h6 => absurd h6 (by decide)) (fun h6 => ?_)
            refine pb_blk B.hx B.hb (lv' := [(3, .int 0), (0, .ref mo), (1, .int (nI i)), (2, .int g0)]) (st' := [.ref mo, .int 1]) hl bkX6_where_90_94 rfl (fun ls hl => ?_)
            refine m_get B hw 15 (by decide) wd_F_X6_138 (congrArg some (show _ = (.int 2 : Value) from e15)) dX6_where_94 ?_
            refine lv_icmp_ge (tgt := 136) B.hx B.hb dX6_where_97 (by decide) (fun h7 => absurd h7 (by decide)) (fun h7 => ?_)
            obtain ⟨en, ed⟩ := (fx_eq fx0 fx1).mpr h01
            refine pb_blk B.hx B.hb (lv' := [(3, .int 0), (0, .ref mo), (1, .int (nI i)), (2, .int g0)]) (st' := [.ref mo]) hl bkX6_where_100_101 rfl (fun ls hl => ?_)
            refine m_get B hw 16 (by decide) wd_F_X6_45 rfl dX6_where_101 ?_
            refine pb_blk B.hx B.hb (lv' := [(3, .int 0), (0, .ref mo), (1, .int (nI i)), (2, .int g0)]) (st' := [.int 0, .ref (mo + 12)]) hl bkX6_where_104_105 rfl (fun ls hl => ?_)
            refine m_lald B hw 12 (by decide) (by decide) rfl (show vp_in (nI 0) 2 from vp_in_nI (by decide) (by decide)) (v := .long n0) (by rw [show (0 : Int32).toNatClampNeg = 0 from by decide]; exact ((congrFun (oq0 12 (by decide)) 0).trans w0)) dX6_where_105 ?_
            refine pb_blk B.hx B.hb (lv' := [(3, .int 0), (0, .ref mo), (1, .int (nI i)), (2, .int g0)]) (st' := [.ref mo, .long n0]) hl bkX6_where_106_107 rfl (fun ls hl => ?_)
            refine m_get B hw 16 (by decide) wd_F_X6_45 rfl dX6_where_107 ?_
            refine pb_blk B.hx B.hb (lv' := [(3, .int 0), (0, .ref mo), (1, .int (nI i)), (2, .int g0)]) (st' := [.int 1, .ref (mo + 12), .long n0]) hl bkX6_where_110_111 rfl (fun ls hl => ?_)
            refine m_lald B hw 12 (by decide) (by decide) rfl (show vp_in (nI 1) 2 from vp_in_nI (by decide) (by decide)) (v := .long n1) (by rw [show (1 : Int32).toNatClampNeg = 1 from by decide]; exact ((congrFun (oq0 12 (by decide)) 1).trans w1)) dX6_where_111 ?_
            refine pb_blk B.hx B.hb (lv' := [(3, .int 0), (0, .ref mo), (1, .int (nI i)), (2, .int g0)]) (st' := [.int (lg_cmp n0 n1)]) hl bkX6_where_112_113 rfl (fun ls hl => ?_)
            refine lv_if_ne (tgt := 136) B.hx B.hb dX6_where_113 (by decide) (fun h7 => absurd h7 (not_not_intro ((lg_cmp_eq _ _).mpr en))) (fun h7 => ?_)
            refine pb_blk B.hx B.hb (lv' := [(3, .int 0), (0, .ref mo), (1, .int (nI i)), (2, .int g0)]) (st' := [.ref mo]) hl bkX6_where_116_117 rfl (fun ls hl => ?_)
            refine m_get B hw 17 (by decide) wd_F_X6_48 rfl dX6_where_117 ?_
            refine pb_blk B.hx B.hb (lv' := [(3, .int 0), (0, .ref mo), (1, .int (nI i)), (2, .int g0)]) (st' := [.int 0, .ref (mo + 13)]) hl bkX6_where_120_121 rfl (fun ls hl => ?_)
            refine m_lald B hw 13 (by decide) (by decide) rfl (show vp_in (nI 0) 2 from vp_in_nI (by decide) (by decide)) (v := .long d0) (by rw [show (0 : Int32).toNatClampNeg = 0 from by decide]; exact ((congrFun (oq0 13 (by decide)) 0).trans v0)) dX6_where_121 ?_
            refine pb_blk B.hx B.hb (lv' := [(3, .int 0), (0, .ref mo), (1, .int (nI i)), (2, .int g0)]) (st' := [.ref mo, .long d0]) hl bkX6_where_122_123 rfl (fun ls hl => ?_)
            refine m_get B hw 17 (by decide) wd_F_X6_48 rfl dX6_where_123 ?_
            refine pb_blk B.hx B.hb (lv' := [(3, .int 0), (0, .ref mo), (1, .int (nI i)), (2, .int g0)]) (st' := [.int 1, .ref (mo + 13), .long d0]) hl bkX6_where_126_127 rfl (fun ls hl => ?_)
            refine m_lald B hw 13 (by decide) (by decide) rfl (show vp_in (nI 1) 2 from vp_in_nI (by decide) (by decide)) (v := .long d1) (by rw [show (1 : Int32).toNatClampNeg = 1 from by decide]; exact ((congrFun (oq0 13 (by decide)) 1).trans v1)) dX6_where_127 ?_
            refine pb_blk B.hx B.hb (lv' := [(3, .int 0), (0, .ref mo), (1, .int (nI i)), (2, .int g0)]) (st' := [.int (lg_cmp d0 d1)]) hl bkX6_where_128_129 rfl (fun ls hl => ?_)
            refine lv_if_ne (tgt := 136) B.hx B.hb dX6_where_129 (by decide) (fun h7 => absurd h7 (not_not_intro ((lg_cmp_eq _ _).mpr ed))) (fun h7 => ?_)
            refine pb_blk B.hx B.hb (lv' := [(4, .int 1), (3, .int 0), (0, .ref mo), (1, .int (nI i)), (2, .int g0)]) (st' := [.int 1]) hl bkX6_where_132_141 rfl (fun ls hl => ?_)
            refine lv_if_eq (tgt := 148) B.hx B.hb dX6_where_141 (by decide) (fun h8 => absurd h8 (by decide)) (fun h8 => ?_)
            refine pb_blk B.hx B.hb (lv' := [(5, .int 0), (4, .int 1), (3, .int 0), (0, .ref mo), (1, .int (nI i)), (2, .int g0)]) (st' := [.ref mo, .ref mo]) hl bkX6_where_144_160 rfl (fun ls hl => ?_)
            refine m_get B hw 16 (by decide) wd_F_X6_45 rfl dX6_where_160 ?_
            refine pb_blk B.hx B.hb (lv' := [(5, .int 0), (4, .int 1), (3, .int 0), (0, .ref mo), (1, .int (nI i)), (2, .int g0)]) (st' := [.int 0, .ref (mo + 12), .ref mo]) hl bkX6_where_163_164 rfl (fun ls hl => ?_)
            refine m_lald B hw 12 (by decide) (by decide) rfl (show vp_in (nI 0) 2 from vp_in_nI (by decide) (by decide)) (v := .long n0) (by rw [show (0 : Int32).toNatClampNeg = 0 from by decide]; exact ((congrFun (oq0 12 (by decide)) 0).trans w0)) dX6_where_164 ?_
            refine pb_blk B.hx B.hb (lv' := [(5, .int 0), (4, .int 1), (3, .int 0), (0, .ref mo), (1, .int (nI i)), (2, .int g0)]) (st' := [.ref mo, .long n0, .ref mo]) hl bkX6_where_165_166 rfl (fun ls hl => ?_)
            refine m_get B hw 17 (by decide) wd_F_X6_48 rfl dX6_where_166 ?_
            refine pb_blk B.hx B.hb (lv' := [(5, .int 0), (4, .int 1), (3, .int 0), (0, .ref mo), (1, .int (nI i)), (2, .int g0)]) (st' := [.int 0, .ref (mo + 13), .long n0, .ref mo]) hl bkX6_where_169_170 rfl (fun ls hl => ?_)
            refine m_lald B hw 13 (by decide) (by decide) rfl (show vp_in (nI 0) 2 from vp_in_nI (by decide) (by decide)) (v := .long d0) (by rw [show (0 : Int32).toNatClampNeg = 0 from by decide]; exact ((congrFun (oq0 13 (by decide)) 0).trans v0)) dX6_where_170 ?_
            refine pb_blk B.hx B.hb (lv' := [(5, .int 0), (4, .int 1), (3, .int 0), (0, .ref mo), (1, .int (nI i)), (2, .int g0)]) (st' := [.int g0, .int 0, .long d0, .long n0, .ref mo]) hl bkX6_where_171_173 rfl (fun ls hl => ?_)
            refine m_callS B (c_X6_is l G (fun _ => False) 0 g0) cy_X6_is st_X6_is wd_M_X6_174 trivial rfl hl.1 rfl (Nat.le_of_ble_eq_true rfl) ⟨by decide, by decide⟩ ⟨rfl, rfl⟩ ⟨Nat.le_refl _, Nat.le_refl _⟩ dX6_where_173 (fun v hv => ?_)
            rw [po_X6_is] at hv
            subst hv
            refine pb_blk B.hx B.hb (lv' := [(5, .int 0), (4, .int 1), (3, .int 0), (0, .ref mo), (1, .int (nI i)), (2, .int g0)]) (st' := [.int 0, .ref mo, .int (b2i (chB g0 0)), .long d0, .long n0, .ref mo]) hl bkX6_where_176_179 rfl (fun ls hl => ?_)
            refine m_callN B hw (c_X6_signBefore l G (fun _ => False) mo _ _ 0 be (by decide) e18) cy_X6_signBefore im_X6_signBefore se_X6_signBefore wd_M_X6_171 hw.1 rfl hl.1 rfl (Nat.le_of_ble_eq_true rfl) ⟨by decide, by decide⟩ ⟨rfl, rfl⟩ ⟨Nat.le_refl _, Nat.le_refl _⟩ dX6_where_179 (fun v hv => ?_)
            have hv : v = some (.int be) := hv
            subst hv
            refine pb_blk B.hx B.hb (lv' := [(5, .int 0), (4, .int 1), (3, .int 0), (0, .ref mo), (1, .int (nI i)), (2, .int g0)]) (st' := [.int g0, .int be, .int (b2i (chB g0 0)), .long d0, .long n0, .ref mo]) hl bkX6_where_182_183 rfl (fun ls hl => ?_)
            refine m_callS B (c_X6_is l G (fun _ => False) be g0) cy_X6_is st_X6_is wd_M_X6_174 trivial rfl hl.1 rfl (Nat.le_of_ble_eq_true rfl) ⟨by decide, by decide⟩ ⟨rfl, rfl⟩ ⟨Nat.le_refl _, Nat.le_refl _⟩ dX6_where_183 (fun v hv => ?_)
            rw [po_X6_is] at hv
            subst hv
            refine m_callV B hw (c_X6_append l G mo _ _ n0 d0 (chB g0 0) (chB g0 be) (AA 0) (czn (fun j => chB g0 (sq3 be j)) 0, czp pt (fun j => chB g0 (sq3 be j)) 0, czm (fun j => chB g0 (sq3 be j)) 0) fx0 hz0 (fun _ => Nat.lt_of_le_of_lt (czn_le _ _) (by decide))) cy_X6_append im_X6_append se_X6_append wd_M_X6_181 rfl hl.1 rfl (Nat.le_of_ble_eq_true rfl) ⟨by decide, by decide⟩ ⟨rfl, rfl⟩ ⟨Nat.le_refl _, Nat.le_refl _⟩ dX6_where_186 (fun v H locs Sq1 ct1 hw_77 hv => ?_)
            obtain ⟨rfl, rfl, hz1, ag1, o1⟩ := hv
            have hw := hw_77
            have hz1 := ap_step (p := pt) (b := (fun j => chB g0 (sq3 be j))) (k := 0) hz1 hp0 rfl rfl
            have oq1 := fun a h => (o1 a h).trans (oq0 a h)
            have ag1 := ag0.trans ag1
            refine pb_blk B.hx B.hb (lv' := [(5, .int 0), (4, .int 1), (3, .int 0), (0, .ref mo), (1, .int (nI i)), (2, .int g0)]) (st' := [.int 1]) hl bkX6_where_189_191 rfl (fun ls hl => ?_)
            refine lv_if_eq (tgt := 197) B.hx B.hb dX6_where_191 (by decide) (fun h9 => absurd h9 (by decide)) (fun h9 => ?_)
            refine pb_blk B.hx B.hb (lv' := [(5, .int 0), (4, .int 1), (3, .int 0), (0, .ref mo), (1, .int (nI i)), (2, .int g0)]) (st' := [.int 3, .ref mo]) hl bkX6_where_194_205 rfl (fun ls hl => ?_)
            have hPq : Pst N th as _ _ := hPb.ag rfl ag1
            refine m_callV B hw (c_X6_keepSet l G mo _ _ N th as 3 (czn (fun j => chB g0 (sq3 be j)) 1, czp pt (fun j => chB g0 (sq3 be j)) 1, czm (fun j => chB g0 (sq3 be j)) 1) hPq hz1) cy_X6_keepSet im_X6_keepSet se_X6_keepSet wd_M_X6_185 rfl hl.1 rfl (Nat.le_of_ble_eq_true rfl) ⟨by decide, by decide⟩ ⟨rfl, rfl⟩ ⟨Nat.le_refl _, Nat.le_refl _⟩ dX6_where_205 (fun v H locs Sd ctd hw_78 hv => ?_)
            have hk9 := kp_set hPq (by decide) hv
            have hw := hw_78
            obtain ⟨cc, tt, g1, g2, g3⟩ := hk9
            have hval : ∃ r, v = some (.int r) := by rcases g3 with ⟨-, e9, -⟩ | ⟨-, ⟨r9, e9⟩, -⟩; exact ⟨_, e9⟩; exact ⟨_, e9⟩
            obtain ⟨r9, rfl⟩ := hval
            exact m_iret (v := r9) B hw dX6_where_208 (by exact ⟨cc, tt, Or.inr ⟨i, hi, rfl, Or.inr ⟨u, hu, Or.inr ⟨hk, Or.inr ⟨_, pt, _, htl, g1⟩⟩⟩⟩, g2, g3⟩) (Nat.le_of_ble_eq_true rfl) (Nat.le_of_ble_eq_true rfl)
          · obtain ⟨n0, d0, w0, v0, fx0⟩ := hrow 0 (by decide)
            obtain ⟨n1, d1, w1, v1, fx1⟩ := hrow 1 (by decide)
            refine pb_blk B.hx B.hb (lv' := [(0, .ref mo), (1, .int (nI i)), (2, .int g0)]) (st' := [.ref mo, .ref mo, .ref mo]) hl bkX6_where_64_67 rfl (fun ls hl => ?_)
            refine m_get B hw 15 (by decide) wd_F_X6_138 (congrArg some (show _ = (.int 2 : Value) from e15)) dX6_where_67 ?_
            refine m_callN B hw (c_X6_signBefore l G (fun _ => False) mo _ _ 2 be (by decide) e18) cy_X6_signBefore im_X6_signBefore se_X6_signBefore wd_M_X6_171 hw.1 rfl hl.1 rfl (Nat.le_of_ble_eq_true rfl) ⟨by decide, by decide⟩ ⟨rfl, rfl⟩ ⟨Nat.le_refl _, Nat.le_refl _⟩ dX6_where_70 (fun v hv => ?_)
            have hv : v = some (.int be) := hv
            subst hv
            refine pb_blk B.hx B.hb (lv' := [(0, .ref mo), (1, .int (nI i)), (2, .int g0)]) (st' := [.int g0, .int be, .ref mo]) hl bkX6_where_73_74 rfl (fun ls hl => ?_)
            refine m_callS B (c_X6_is l G (fun _ => False) be g0) cy_X6_is st_X6_is wd_M_X6_174 trivial rfl hl.1 rfl (Nat.le_of_ble_eq_true rfl) ⟨by decide, by decide⟩ ⟨rfl, rfl⟩ ⟨Nat.le_refl _, Nat.le_refl _⟩ dX6_where_74 (fun v hv => ?_)
            rw [po_X6_is] at hv
            subst hv
            refine m_callV B hw (c_X6_start l G mo _ _ (chB g0 be)) cy_X6_start im_X6_start se_X6_start wd_M_X6_177 rfl hl.1 rfl (Nat.le_of_ble_eq_true rfl) ⟨by decide, by decide⟩ ⟨rfl, rfl⟩ ⟨Nat.le_refl _, Nat.le_refl _⟩ dX6_where_77 (fun v H locs Sq0 ct0 hw_79 hv => ?_)
            obtain ⟨rfl, rfl, rfl⟩ := hv
            have hw := hw_79
            obtain ⟨hz0, ag0, o0⟩ := st_se (ct := ctb) (chB g0 be)
            have hz0 : SeA _ 81 (czn (fun j => chB g0 (sq5 be j)) 0, czp pt (fun j => chB g0 (sq5 be j)) 0, czm (fun j => chB g0 (sq5 be j)) 0) := hz0
            have oq0 := o0
            refine pb_blk B.hx B.hb (lv' := [(3, .int 0), (0, .ref mo), (1, .int (nI i)), (2, .int g0)]) (st' := [.ref mo, .int 0]) hl bkX6_where_80_84 rfl (fun ls hl => ?_)
            refine m_get B hw 15 (by decide) wd_F_X6_138 (congrArg some (show _ = (.int 2 : Value) from e15)) dX6_where_84 ?_
            refine lv_icmp_ge (tgt := 203) B.hx B.hb dX6_where_87 (by decide) (fun h6 => absurd h6 (by decide)) (fun h6 => ?_)
            refine pb_blk B.hx B.hb (lv' := [(3, .int 0), (0, .ref mo), (1, .int (nI i)), (2, .int g0)]) (st' := [.ref mo, .int 1]) hl bkX6_where_90_94 rfl (fun ls hl => ?_)
            refine m_get B hw 15 (by decide) wd_F_X6_138 (congrArg some (show _ = (.int 2 : Value) from e15)) dX6_where_94 ?_
            refine lv_icmp_ge (tgt := 136) B.hx B.hb dX6_where_97 (by decide) (fun h7 => absurd h7 (by decide)) (fun h7 => ?_)
            have hne : ¬ (n0 = n1 ∧ d0 = d1) := fun q => absurd ((fx_eq fx0 fx1).mp q) (Rat.ne_of_lt h01)
            refine pb_blk B.hx B.hb (lv' := [(3, .int 0), (0, .ref mo), (1, .int (nI i)), (2, .int g0)]) (st' := [.ref mo]) hl bkX6_where_100_101 rfl (fun ls hl => ?_)
            refine m_get B hw 16 (by decide) wd_F_X6_45 rfl dX6_where_101 ?_
            refine pb_blk B.hx B.hb (lv' := [(3, .int 0), (0, .ref mo), (1, .int (nI i)), (2, .int g0)]) (st' := [.int 0, .ref (mo + 12)]) hl bkX6_where_104_105 rfl (fun ls hl => ?_)
            refine m_lald B hw 12 (by decide) (by decide) rfl (show vp_in (nI 0) 2 from vp_in_nI (by decide) (by decide)) (v := .long n0) (by rw [show (0 : Int32).toNatClampNeg = 0 from by decide]; exact ((congrFun (oq0 12 (by decide)) 0).trans w0)) dX6_where_105 ?_
            refine pb_blk B.hx B.hb (lv' := [(3, .int 0), (0, .ref mo), (1, .int (nI i)), (2, .int g0)]) (st' := [.ref mo, .long n0]) hl bkX6_where_106_107 rfl (fun ls hl => ?_)
            refine m_get B hw 16 (by decide) wd_F_X6_45 rfl dX6_where_107 ?_
            refine pb_blk B.hx B.hb (lv' := [(3, .int 0), (0, .ref mo), (1, .int (nI i)), (2, .int g0)]) (st' := [.int 1, .ref (mo + 12), .long n0]) hl bkX6_where_110_111 rfl (fun ls hl => ?_)
            refine m_lald B hw 12 (by decide) (by decide) rfl (show vp_in (nI 1) 2 from vp_in_nI (by decide) (by decide)) (v := .long n1) (by rw [show (1 : Int32).toNatClampNeg = 1 from by decide]; exact ((congrFun (oq0 12 (by decide)) 1).trans w1)) dX6_where_111 ?_
            refine pb_blk B.hx B.hb (lv' := [(3, .int 0), (0, .ref mo), (1, .int (nI i)), (2, .int g0)]) (st' := [.int (lg_cmp n0 n1)]) hl bkX6_where_112_113 rfl (fun ls hl => ?_)
            have join : ∀ ls : Array Slot, lv_has ls 6 [(3, .int 0), (0, .ref mo), (1, .int (nI i)), (2, .int g0)] → W p l e (⟨4, 0, 0, 120⟩ : Room) s m ([.ref mo, .int (nI i), .int g0] : List Value).toArray below meth c H locs 0 0 (MQ below (Qm G mo (po_X6_where mo S ct N th as (nI i) g0)) ([.ref mo, .int (nI i), .int g0] : List Value).toArray s (⟨4, 0, 0, 120⟩ : Room).cells (⟨4, 0, 0, 120⟩ : Room).slots (FM mo)) (F0 m 136 ls []) := by
              intro ls hl
              refine pb_blk B.hx B.hb (lv' := [(4, .int 0), (3, .int 0), (0, .ref mo), (1, .int (nI i)), (2, .int g0)]) (st' := [.int 0]) hl bkX6_where_136_141 rfl (fun ls hl => ?_)
              refine lv_if_eq (tgt := 148) B.hx B.hb dX6_where_141 (by decide) (fun h8 => ?_) (fun h8 => absurd h8 (by decide))
              refine pb_blk B.hx B.hb (lv' := [(4, .int 0), (3, .int 0), (0, .ref mo), (1, .int (nI i)), (2, .int g0)]) (st' := [.ref mo]) hl bkX6_where_148_149 rfl (fun ls hl => ?_)
              refine m_get B hw 15 (by decide) wd_F_X6_138 (congrArg some (show _ = (.int 2 : Value) from e15)) dX6_where_149 ?_
              refine pb_blk B.hx B.hb (lv' := [(5, .int 1), (4, .int 0), (3, .int 0), (0, .ref mo), (1, .int (nI i)), (2, .int g0)]) (st' := [.ref mo, .ref mo]) hl bkX6_where_152_160 rfl (fun ls hl => ?_)
              refine m_get B hw 16 (by decide) wd_F_X6_45 rfl dX6_where_160 ?_
              refine pb_blk B.hx B.hb (lv' := [(5, .int 1), (4, .int 0), (3, .int 0), (0, .ref mo), (1, .int (nI i)), (2, .int g0)]) (st' := [.int 0, .ref (mo + 12), .ref mo]) hl bkX6_where_163_164 rfl (fun ls hl => ?_)
              refine m_lald B hw 12 (by decide) (by decide) rfl (show vp_in (nI 0) 2 from vp_in_nI (by decide) (by decide)) (v := .long n0) (by rw [show (0 : Int32).toNatClampNeg = 0 from by decide]; exact ((congrFun (oq0 12 (by decide)) 0).trans w0)) dX6_where_164 ?_
              refine pb_blk B.hx B.hb (lv' := [(5, .int 1), (4, .int 0), (3, .int 0), (0, .ref mo), (1, .int (nI i)), (2, .int g0)]) (st' := [.ref mo, .long n0, .ref mo]) hl bkX6_where_165_166 rfl (fun ls hl => ?_)
              refine m_get B hw 17 (by decide) wd_F_X6_48 rfl dX6_where_166 ?_
              refine pb_blk B.hx B.hb (lv' := [(5, .int 1), (4, .int 0), (3, .int 0), (0, .ref mo), (1, .int (nI i)), (2, .int g0)]) (st' := [.int 0, .ref (mo + 13), .long n0, .ref mo]) hl bkX6_where_169_170 rfl (fun ls hl => ?_)
              refine m_lald B hw 13 (by decide) (by decide) rfl (show vp_in (nI 0) 2 from vp_in_nI (by decide) (by decide)) (v := .long d0) (by rw [show (0 : Int32).toNatClampNeg = 0 from by decide]; exact ((congrFun (oq0 13 (by decide)) 0).trans v0)) dX6_where_170 ?_
              refine pb_blk B.hx B.hb (lv' := [(5, .int 1), (4, .int 0), (3, .int 0), (0, .ref mo), (1, .int (nI i)), (2, .int g0)]) (st' := [.int g0, .int 0, .long d0, .long n0, .ref mo]) hl bkX6_where_171_173 rfl (fun ls hl => ?_)
              refine m_callS B (c_X6_is l G (fun _ => False) 0 g0) cy_X6_is st_X6_is wd_M_X6_174 trivial rfl hl.1 rfl (Nat.le_of_ble_eq_true rfl) ⟨by decide, by decide⟩ ⟨rfl, rfl⟩ ⟨Nat.le_refl _, Nat.le_refl _⟩ dX6_where_173 (fun v hv => ?_)
              rw [po_X6_is] at hv
              subst hv
              refine pb_blk B.hx B.hb (lv' := [(5, .int 1), (4, .int 0), (3, .int 0), (0, .ref mo), (1, .int (nI i)), (2, .int g0)]) (st' := [.int 1, .ref mo, .int (b2i (chB g0 0)), .long d0, .long n0, .ref mo]) hl bkX6_where_176_179 rfl (fun ls hl => ?_)
              refine m_callN B hw (c_X6_signBefore l G (fun _ => False) mo _ _ 1 be (by decide) e18) cy_X6_signBefore im_X6_signBefore se_X6_signBefore wd_M_X6_171 hw.1 rfl hl.1 rfl (Nat.le_of_ble_eq_true rfl) ⟨by decide, by decide⟩ ⟨rfl, rfl⟩ ⟨Nat.le_refl _, Nat.le_refl _⟩ dX6_where_179 (fun v hv => ?_)
              have hv : v = some (.int (-be)) := hv
              subst hv
              refine pb_blk B.hx B.hb (lv' := [(5, .int 1), (4, .int 0), (3, .int 0), (0, .ref mo), (1, .int (nI i)), (2, .int g0)]) (st' := [.int g0, .int (-be), .int (b2i (chB g0 0)), .long d0, .long n0, .ref mo]) hl bkX6_where_182_183 rfl (fun ls hl => ?_)
              refine m_callS B (c_X6_is l G (fun _ => False) (-be) g0) cy_X6_is st_X6_is wd_M_X6_174 trivial rfl hl.1 rfl (Nat.le_of_ble_eq_true rfl) ⟨by decide, by decide⟩ ⟨rfl, rfl⟩ ⟨Nat.le_refl _, Nat.le_refl _⟩ dX6_where_183 (fun v hv => ?_)
              rw [po_X6_is] at hv
              subst hv
              refine m_callV B hw (c_X6_append l G mo _ _ n0 d0 (chB g0 0) (chB g0 (-be)) (AA 0) (czn (fun j => chB g0 (sq5 be j)) 0, czp pt (fun j => chB g0 (sq5 be j)) 0, czm (fun j => chB g0 (sq5 be j)) 0) fx0 hz0 (fun _ => Nat.lt_of_le_of_lt (czn_le _ _) (by decide))) cy_X6_append im_X6_append se_X6_append wd_M_X6_181 rfl hl.1 rfl (Nat.le_of_ble_eq_true rfl) ⟨by decide, by decide⟩ ⟨rfl, rfl⟩ ⟨Nat.le_refl _, Nat.le_refl _⟩ dX6_where_186 (fun v H locs Sq1 ct1 hw_80 hv => ?_)
              obtain ⟨rfl, rfl, hz1, ag1, o1⟩ := hv
              have hw := hw_80
              have hz1 := ap_step (p := pt) (b := (fun j => chB g0 (sq5 be j))) (k := 0) hz1 hp0 rfl rfl
              have oq1 := fun a h => (o1 a h).trans (oq0 a h)
              have ag1 := ag0.trans ag1
              refine pb_blk B.hx B.hb (lv' := [(5, .int 1), (4, .int 0), (3, .int 0), (0, .ref mo), (1, .int (nI i)), (2, .int g0)]) (st' := [.int 0]) hl bkX6_where_189_191 rfl (fun ls hl => ?_)
              refine lv_if_eq (tgt := 197) B.hx B.hb dX6_where_191 (by decide) (fun h9 => ?_) (fun h9 => absurd h9 (by decide))
              refine pb_blk B.hx B.hb (lv' := [(3, .int 1), (5, .int 1), (4, .int 0), (0, .ref mo), (1, .int (nI i)), (2, .int g0)]) (st' := [.ref mo, .int 1]) hl bkX6_where_197_84 rfl (fun ls hl => ?_)
              refine m_get B hw 15 (by decide) wd_F_X6_138 (congrArg some (show _ = (.int 2 : Value) from e15)) dX6_where_84 ?_
              refine lv_icmp_ge (tgt := 203) B.hx B.hb dX6_where_87 (by decide) (fun h6 => absurd h6 (by decide)) (fun h6 => ?_)
              refine pb_blk B.hx B.hb (lv' := [(3, .int 1), (5, .int 1), (4, .int 0), (0, .ref mo), (1, .int (nI i)), (2, .int g0)]) (st' := [.ref mo, .int 2]) hl bkX6_where_90_94 rfl (fun ls hl => ?_)
              refine m_get B hw 15 (by decide) wd_F_X6_138 (congrArg some (show _ = (.int 2 : Value) from e15)) dX6_where_94 ?_
              refine lv_icmp_ge (tgt := 136) B.hx B.hb dX6_where_97 (by decide) (fun h7 => ?_) (fun h7 => absurd h7 (by decide))
              refine pb_blk B.hx B.hb (lv' := [(4, .int 0), (3, .int 1), (5, .int 1), (0, .ref mo), (1, .int (nI i)), (2, .int g0)]) (st' := [.int 0]) hl bkX6_where_136_141 rfl (fun ls hl => ?_)
              refine lv_if_eq (tgt := 148) B.hx B.hb dX6_where_141 (by decide) (fun h8 => ?_) (fun h8 => absurd h8 (by decide))
              refine pb_blk B.hx B.hb (lv' := [(4, .int 0), (3, .int 1), (5, .int 1), (0, .ref mo), (1, .int (nI i)), (2, .int g0)]) (st' := [.ref mo]) hl bkX6_where_148_149 rfl (fun ls hl => ?_)
              refine m_get B hw 15 (by decide) wd_F_X6_138 (congrArg some (show _ = (.int 2 : Value) from e15)) dX6_where_149 ?_
              refine pb_blk B.hx B.hb (lv' := [(5, .int 0), (4, .int 0), (3, .int 1), (0, .ref mo), (1, .int (nI i)), (2, .int g0)]) (st' := [.ref mo, .ref mo]) hl bkX6_where_152_160 rfl (fun ls hl => ?_)
              refine m_get B hw 16 (by decide) wd_F_X6_45 rfl dX6_where_160 ?_
              refine pb_blk B.hx B.hb (lv' := [(5, .int 0), (4, .int 0), (3, .int 1), (0, .ref mo), (1, .int (nI i)), (2, .int g0)]) (st' := [.int 1, .ref (mo + 12), .ref mo]) hl bkX6_where_163_164 rfl (fun ls hl => ?_)
              refine m_lald B hw 12 (by decide) (by decide) rfl (show vp_in (nI 1) 2 from vp_in_nI (by decide) (by decide)) (v := .long n1) (by rw [show (1 : Int32).toNatClampNeg = 1 from by decide]; exact ((congrFun (oq1 12 (by decide)) 1).trans w1)) dX6_where_164 ?_
              refine pb_blk B.hx B.hb (lv' := [(5, .int 0), (4, .int 0), (3, .int 1), (0, .ref mo), (1, .int (nI i)), (2, .int g0)]) (st' := [.ref mo, .long n1, .ref mo]) hl bkX6_where_165_166 rfl (fun ls hl => ?_)
              refine m_get B hw 17 (by decide) wd_F_X6_48 rfl dX6_where_166 ?_
              refine pb_blk B.hx B.hb (lv' := [(5, .int 0), (4, .int 0), (3, .int 1), (0, .ref mo), (1, .int (nI i)), (2, .int g0)]) (st' := [.int 1, .ref (mo + 13), .long n1, .ref mo]) hl bkX6_where_169_170 rfl (fun ls hl => ?_)
              refine m_lald B hw 13 (by decide) (by decide) rfl (show vp_in (nI 1) 2 from vp_in_nI (by decide) (by decide)) (v := .long d1) (by rw [show (1 : Int32).toNatClampNeg = 1 from by decide]; exact ((congrFun (oq1 13 (by decide)) 1).trans v1)) dX6_where_170 ?_
              refine pb_blk B.hx B.hb (lv' := [(5, .int 0), (4, .int 0), (3, .int 1), (0, .ref mo), (1, .int (nI i)), (2, .int g0)]) (st' := [.int g0, .int 0, .long d1, .long n1, .ref mo]) hl bkX6_where_171_173 rfl (fun ls hl => ?_)
              refine m_callS B (c_X6_is l G (fun _ => False) 0 g0) cy_X6_is st_X6_is wd_M_X6_174 trivial rfl hl.1 rfl (Nat.le_of_ble_eq_true rfl) ⟨by decide, by decide⟩ ⟨rfl, rfl⟩ ⟨Nat.le_refl _, Nat.le_refl _⟩ dX6_where_173 (fun v hv => ?_)
              rw [po_X6_is] at hv
              subst hv
              refine pb_blk B.hx B.hb (lv' := [(5, .int 0), (4, .int 0), (3, .int 1), (0, .ref mo), (1, .int (nI i)), (2, .int g0)]) (st' := [.int 0, .ref mo, .int (b2i (chB g0 0)), .long d1, .long n1, .ref mo]) hl bkX6_where_176_179 rfl (fun ls hl => ?_)
              refine m_callN B hw (c_X6_signBefore l G (fun _ => False) mo _ _ 0 be (by decide) e18) cy_X6_signBefore im_X6_signBefore se_X6_signBefore wd_M_X6_171 hw.1 rfl hl.1 rfl (Nat.le_of_ble_eq_true rfl) ⟨by decide, by decide⟩ ⟨rfl, rfl⟩ ⟨Nat.le_refl _, Nat.le_refl _⟩ dX6_where_179 (fun v hv => ?_)
              have hv : v = some (.int be) := hv
              subst hv
              refine pb_blk B.hx B.hb (lv' := [(5, .int 0), (4, .int 0), (3, .int 1), (0, .ref mo), (1, .int (nI i)), (2, .int g0)]) (st' := [.int g0, .int be, .int (b2i (chB g0 0)), .long d1, .long n1, .ref mo]) hl bkX6_where_182_183 rfl (fun ls hl => ?_)
              refine m_callS B (c_X6_is l G (fun _ => False) be g0) cy_X6_is st_X6_is wd_M_X6_174 trivial rfl hl.1 rfl (Nat.le_of_ble_eq_true rfl) ⟨by decide, by decide⟩ ⟨rfl, rfl⟩ ⟨Nat.le_refl _, Nat.le_refl _⟩ dX6_where_183 (fun v hv => ?_)
              rw [po_X6_is] at hv
              subst hv
              refine m_callV B hw (c_X6_append l G mo _ _ n1 d1 (chB g0 0) (chB g0 be) (AA 1) (czn (fun j => chB g0 (sq5 be j)) 1, czp pt (fun j => chB g0 (sq5 be j)) 1, czm (fun j => chB g0 (sq5 be j)) 1) fx1 hz1 (fun _ => Nat.lt_of_le_of_lt (czn_le _ _) (by decide))) cy_X6_append im_X6_append se_X6_append wd_M_X6_181 rfl hl.1 rfl (Nat.le_of_ble_eq_true rfl) ⟨by decide, by decide⟩ ⟨rfl, rfl⟩ ⟨Nat.le_refl _, Nat.le_refl _⟩ dX6_where_186 (fun v H locs Sq2 ct2 hw_81 hv => ?_)
              obtain ⟨rfl, rfl, hz2, ag2, o2⟩ := hv
              have hw := hw_81
              have hz2 := ap_step (p := pt) (b := (fun j => chB g0 (sq5 be j))) (k := 1) hz2 hp1 rfl rfl
              have oq2 := fun a h => (o2 a h).trans (oq1 a h)
              have ag2 := ag1.trans ag2
              refine pb_blk B.hx B.hb (lv' := [(5, .int 0), (4, .int 0), (3, .int 1), (0, .ref mo), (1, .int (nI i)), (2, .int g0)]) (st' := [.int 0]) hl bkX6_where_189_191 rfl (fun ls hl => ?_)
              refine lv_if_eq (tgt := 197) B.hx B.hb dX6_where_191 (by decide) (fun h9 => ?_) (fun h9 => absurd h9 (by decide))
              refine pb_blk B.hx B.hb (lv' := [(3, .int 2), (5, .int 0), (4, .int 0), (0, .ref mo), (1, .int (nI i)), (2, .int g0)]) (st' := [.ref mo, .int 2]) hl bkX6_where_197_84 rfl (fun ls hl => ?_)
              refine m_get B hw 15 (by decide) wd_F_X6_138 (congrArg some (show _ = (.int 2 : Value) from e15)) dX6_where_84 ?_
              refine lv_icmp_ge (tgt := 203) B.hx B.hb dX6_where_87 (by decide) (fun h6 => ?_) (fun h6 => absurd h6 (by decide))
              refine pb_blk B.hx B.hb (lv' := [(3, .int 2), (5, .int 0), (4, .int 0), (0, .ref mo), (1, .int (nI i)), (2, .int g0)]) (st' := [.int 3, .ref mo]) hl bkX6_where_203_205 rfl (fun ls hl => ?_)
              have hPq : Pst N th as _ _ := hPb.ag rfl ag2
              refine m_callV B hw (c_X6_keepSet l G mo _ _ N th as 3 (czn (fun j => chB g0 (sq5 be j)) 2, czp pt (fun j => chB g0 (sq5 be j)) 2, czm (fun j => chB g0 (sq5 be j)) 2) hPq hz2) cy_X6_keepSet im_X6_keepSet se_X6_keepSet wd_M_X6_185 rfl hl.1 rfl (Nat.le_of_ble_eq_true rfl) ⟨by decide, by decide⟩ ⟨rfl, rfl⟩ ⟨Nat.le_refl _, Nat.le_refl _⟩ dX6_where_205 (fun v H locs Sd ctd hw_82 hv => ?_)
              have hk9 := kp_set hPq (by decide) hv
              have hw := hw_82
              obtain ⟨cc, tt, g1, g2, g3⟩ := hk9
              have hval : ∃ r, v = some (.int r) := by rcases g3 with ⟨-, e9, -⟩ | ⟨-, ⟨r9, e9⟩, -⟩; exact ⟨_, e9⟩; exact ⟨_, e9⟩
              obtain ⟨r9, rfl⟩ := hval
              exact m_iret (v := r9) B hw dX6_where_208 (by exact ⟨cc, tt, Or.inr ⟨i, hi, rfl, Or.inr ⟨u, hu, Or.inr ⟨hk, Or.inr ⟨_, pt, _, htl, g1⟩⟩⟩⟩, g2, g3⟩) (Nat.le_of_ble_eq_true rfl) (Nat.le_of_ble_eq_true rfl)
            refine lv_if_ne (tgt := 136) B.hx B.hb dX6_where_113 (by decide) (fun h7 => ?_) (fun h7 => ?_)
            · exact join ls hl
            · have en := (lg_cmp_eq _ _).mp h7
              refine pb_blk B.hx B.hb (lv' := [(3, .int 0), (0, .ref mo), (1, .int (nI i)), (2, .int g0)]) (st' := [.ref mo]) hl bkX6_where_116_117 rfl (fun ls hl => ?_)
              refine m_get B hw 17 (by decide) wd_F_X6_48 rfl dX6_where_117 ?_
              refine pb_blk B.hx B.hb (lv' := [(3, .int 0), (0, .ref mo), (1, .int (nI i)), (2, .int g0)]) (st' := [.int 0, .ref (mo + 13)]) hl bkX6_where_120_121 rfl (fun ls hl => ?_)
              refine m_lald B hw 13 (by decide) (by decide) rfl (show vp_in (nI 0) 2 from vp_in_nI (by decide) (by decide)) (v := .long d0) (by rw [show (0 : Int32).toNatClampNeg = 0 from by decide]; exact ((congrFun (oq0 13 (by decide)) 0).trans v0)) dX6_where_121 ?_
              refine pb_blk B.hx B.hb (lv' := [(3, .int 0), (0, .ref mo), (1, .int (nI i)), (2, .int g0)]) (st' := [.ref mo, .long d0]) hl bkX6_where_122_123 rfl (fun ls hl => ?_)
              refine m_get B hw 17 (by decide) wd_F_X6_48 rfl dX6_where_123 ?_
              refine pb_blk B.hx B.hb (lv' := [(3, .int 0), (0, .ref mo), (1, .int (nI i)), (2, .int g0)]) (st' := [.int 1, .ref (mo + 13), .long d0]) hl bkX6_where_126_127 rfl (fun ls hl => ?_)
              refine m_lald B hw 13 (by decide) (by decide) rfl (show vp_in (nI 1) 2 from vp_in_nI (by decide) (by decide)) (v := .long d1) (by rw [show (1 : Int32).toNatClampNeg = 1 from by decide]; exact ((congrFun (oq0 13 (by decide)) 1).trans v1)) dX6_where_127 ?_
              refine pb_blk B.hx B.hb (lv' := [(3, .int 0), (0, .ref mo), (1, .int (nI i)), (2, .int g0)]) (st' := [.int (lg_cmp d0 d1)]) hl bkX6_where_128_129 rfl (fun ls hl => ?_)
              refine lv_if_ne (tgt := 136) B.hx B.hb dX6_where_129 (by decide) (fun h8 => ?_) (fun h8 => absurd h8 (fun e9 => hne ⟨en, (lg_cmp_eq _ _).mp e9⟩))
              exact join ls hl
      · have hk : ¬ opOK g0 := fun q => by rw [in_02.mpr q] at h4; exact absurd h4 (by decide)
        refine pb_blk B.hx B.hb (lv' := [(0, .ref mo), (1, .int (nI i)), (2, .int g0)]) (st' := [.int 2, .ref mo]) hl bkX6_where_33_38 rfl (fun ls hl => ?_)
        refine m_put B hw 0 (by decide) wd_F_X6_63 rfl rfl rfl rfl dX6_where_38 (fun H locs hw => ?_)
        refine pb_blk B.hx B.hb (lv' := [(0, .ref mo), (1, .int (nI i)), (2, .int g0)]) (st' := [.ref mo]) hl bkX6_where_41_42 rfl (fun ls hl => ?_)
        refine m_get B hw 0 (by decide) wd_F_X6_63 (congrArg some (show _ = (.int 2 : Value) from rfl)) dX6_where_42 ?_
        refine lv_if_le (tgt := 50) B.hx B.hb dX6_where_45 (by decide) (fun h => absurd h (by decide)) (fun _ => ?_)
        refine pb_blk B.hx B.hb (lv' := [(0, .ref mo), (1, .int (nI i)), (2, .int g0)]) (st' := [.int 0]) hl bkX6_where_48_49 rfl (fun ls hl => ?_)
        exact m_iret (v := 0) B hw dX6_where_49 (by exact ⟨2, .inl (fun _ => 0), Or.inr ⟨i, hi, rfl, Or.inr ⟨u, hu, Or.inl ⟨rfl, hk⟩⟩⟩, rfl, Or.inr ⟨by decide, ⟨_, rfl⟩, hP.ag rfl Ag.rf⟩⟩) (Nat.le_of_ble_eq_true rfl) (Nat.le_of_ble_eq_true rfl)
  · have y1 : ¬ Tr N f0 := fun q => by rw [ht1.mpr q] at h1; exact absurd h1 (by decide)
    refine pb_blk B.hx B.hb (lv' := [(0, .ref mo), (1, .int f0), (2, .int g0)]) (st' := [.int 1, .ref mo]) hl bkX6_where_9_38 rfl (fun ls hl => ?_)
    refine m_put B hw 0 (by decide) wd_F_X6_63 rfl rfl rfl rfl dX6_where_38 (fun H locs hw => ?_)
    refine pb_blk B.hx B.hb (lv' := [(0, .ref mo), (1, .int f0), (2, .int g0)]) (st' := [.ref mo]) hl bkX6_where_41_42 rfl (fun ls hl => ?_)
    refine m_get B hw 0 (by decide) wd_F_X6_63 (congrArg some (show _ = (.int 1 : Value) from rfl)) dX6_where_42 ?_
    refine lv_if_le (tgt := 50) B.hx B.hb dX6_where_45 (by decide) (fun h => absurd h (by decide)) (fun _ => ?_)
    refine pb_blk B.hx B.hb (lv' := [(0, .ref mo), (1, .int f0), (2, .int g0)]) (st' := [.int 0]) hl bkX6_where_48_49 rfl (fun ls hl => ?_)
    exact m_iret (v := 0) B hw dX6_where_49 (by exact ⟨1, .inl (fun _ => 0), Or.inl ⟨rfl, y1⟩, rfl, Or.inr ⟨by decide, ⟨_, rfl⟩, hP.ag rfl Ag.rf⟩⟩) (Nat.le_of_ble_eq_true rfl) (Nat.le_of_ble_eq_true rfl)

