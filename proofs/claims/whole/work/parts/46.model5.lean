theorem tgS_ex {n : Nat} {pt : Nat → Rat} : tgS n pt = true ↔ ∃ j, j < n ∧ tgR (pt j) = true := by
  constructor
  · intro h
    by_cases g : ∃ j, j < n ∧ tgR (pt j) = true
    · exact g
    · have h9 : tgS n pt = false := anyN_no (fun j hj => by cases e : tgR (pt j); rfl; exact absurd ⟨j, hj, e⟩ g)
      rw [h9] at h; exact absurd h (by decide)
  · rintro ⟨j, hj, e⟩; exact anyN_yes (f := fun k => tgR (pt k)) hj e
theorem keepS_pst {N : Nat} {th : Nat → Th} {as : St3} {S S2 : Sc} {ct ct1 ct2 : Ct} {z : St3} (hP : Pst N th as S ct) (hN : N < 80) (hS : S2 1 = .int (nI (N + 1))) (h1 : ct1 = va_up ct 1 (updV (ct 1) N (.int 2))) (hz : SeA ct2 N z) (hc : Cp ct1 ct2 N) : Pst (N + 1) (upT th N (.inr z)) as S2 ct2 := by
  have e1 : ct2 1 = updV (ct 1) N (.int 2) := by rw [hc.1 1 (by omega), h1]; rfl
  have e2 : ct2 2 = ct 2 := by rw [hc.1 2 (by omega), h1]; rfl
  have e3 : ct2 3 = ct 3 := by rw [hc.1 3 (by omega), h1]; rfl
  have hse : ∀ k y, k ≠ N → SeA ct k y → SeA ct2 k y := fun k y hk h => by
    have h9 : SeA ct1 k y := by rw [h1]; exact h
    exact h9.cp hc hk
  refine ⟨by omega, hS, fun k hk => ?_, hse _ _ (by omega) hP.2.2.2⟩
  by_cases e : k = N
  · subst e
    rw [upT_at]
    exact ⟨by rw [e1]; exact updV_at, hz⟩
  · rw [upT_ne _ _ e]
    have hk2 := hP.2.2.1 k (by omega)
    cases ht : th k with
    | inl v =>
      rw [ht] at hk2
      exact ⟨by rw [e1, updV_ne e]; exact hk2.1, by rw [e2, e3]; exact hk2.2⟩
    | inr y =>
      rw [ht] at hk2
      exact ⟨by rw [e1, updV_ne e]; exact hk2.1, hse _ _ e hk2.2⟩

def po_X6_keepSet (mo : Nat) (S : Sc) (ct : Ct) (N : Nat) (th : Nat → Th) (as : St3) (bd : Nat) (z : St3) : Option Value → Sc → Ct → Prop := fun r S2 ct2 => KpM N th as bd (.inr z) (80 ≤ N ∨ tgS z.1 z.2.1 = true) S ct r S2 ct2
theorem bkX6_keepSet_0_1 : pb_chk cX6_keepSet 0 [.aload_n 0] = some 1 := by decide +kernel
theorem dX6_keepSet_1 : decode cX6_keepSet 1 = .ok (.getfield 82, 3) := by decide +kernel
theorem bkX6_keepSet_4_6 : pb_chk cX6_keepSet 4 [.bipush 80] = some 6 := by decide +kernel
theorem dX6_keepSet_6 : decode cX6_keepSet 6 = .ok (.if_icmp .ne 9, 3) := by decide +kernel
theorem bkX6_keepSet_15_17 : pb_chk cX6_keepSet 15 [.iconst 0, .istore_n 2] = some 17 := by decide +kernel
theorem bkX6_keepSet_9_11 : pb_chk cX6_keepSet 9 [.aload_n 0, .iload_n 1] = some 11 := by decide +kernel
theorem dX6_keepSet_11 : decode cX6_keepSet 11 = .ok (.invokevirtual 97, 3) := by decide +kernel
theorem dX6_keepSet_14 : decode cX6_keepSet 14 = .ok (.ireturn, 1) := by decide +kernel
theorem bkX6_keepSet_17_19 : pb_chk cX6_keepSet 17 [.iload_n 2, .aload_n 0] = some 19 := by decide +kernel
theorem dX6_keepSet_19 : decode cX6_keepSet 19 = .ok (.getfield 20, 3) := by decide +kernel
theorem bkX6_keepSet_22_24 : pb_chk cX6_keepSet 22 [.bipush 81] = some 24 := by decide +kernel
theorem dX6_keepSet_24 : decode cX6_keepSet 24 = .ok (.iaload, 1) := by decide +kernel
theorem dX6_keepSet_25 : decode cX6_keepSet 25 = .ok (.if_icmp .ge 54, 3) := by decide +kernel
theorem bkX6_keepSet_79_81 : pb_chk cX6_keepSet 79 [.aload_n 0, .iconst 0] = some 81 := by decide +kernel
theorem dX6_keepSet_81 : decode cX6_keepSet 81 = .ok (.putfield 63, 3) := by decide +kernel
theorem bkX6_keepSet_84_85 : pb_chk cX6_keepSet 84 [.aload_n 0] = some 85 := by decide +kernel
theorem dX6_keepSet_85 : decode cX6_keepSet 85 = .ok (.getfield 7, 3) := by decide +kernel
theorem bkX6_keepSet_88_89 : pb_chk cX6_keepSet 88 [.aload_n 0] = some 89 := by decide +kernel
theorem dX6_keepSet_89 : decode cX6_keepSet 89 = .ok (.getfield 82, 3) := by decide +kernel
theorem bkX6_keepSet_92_93 : pb_chk cX6_keepSet 92 [.iconst 2] = some 93 := by decide +kernel
theorem dX6_keepSet_93 : decode cX6_keepSet 93 = .ok (.iastore, 1) := by decide +kernel
theorem bkX6_keepSet_94_96 : pb_chk cX6_keepSet 94 [.aload_n 0, .aload_n 0] = some 96 := by decide +kernel
theorem dX6_keepSet_96 : decode cX6_keepSet 96 = .ok (.getfield 82, 3) := by decide +kernel
theorem bkX6_keepSet_99_101 : pb_chk cX6_keepSet 99 [.bipush 81] = some 101 := by decide +kernel
theorem dX6_keepSet_101 : decode cX6_keepSet 101 = .ok (.invokevirtual 164, 3) := by decide +kernel
theorem bkX6_keepSet_104_106 : pb_chk cX6_keepSet 104 [.aload_n 0, .dup] = some 106 := by decide +kernel
theorem dX6_keepSet_106 : decode cX6_keepSet 106 = .ok (.getfield 82, 3) := by decide +kernel
theorem bkX6_keepSet_109_111 : pb_chk cX6_keepSet 109 [.iconst 1, .iadd] = some 111 := by decide +kernel
theorem dX6_keepSet_111 : decode cX6_keepSet 111 = .ok (.putfield 82, 3) := by decide +kernel
theorem bkX6_keepSet_114_115 : pb_chk cX6_keepSet 114 [.aload_n 0] = some 115 := by decide +kernel
theorem dX6_keepSet_115 : decode cX6_keepSet 115 = .ok (.getfield 82, 3) := by decide +kernel
theorem bkX6_keepSet_118_120 : pb_chk cX6_keepSet 118 [.iconst 1, .isub] = some 120 := by decide +kernel
theorem dX6_keepSet_120 : decode cX6_keepSet 120 = .ok (.ireturn, 1) := by decide +kernel
theorem bkX6_keepSet_28_29 : pb_chk cX6_keepSet 28 [.aload_n 0] = some 29 := by decide +kernel
theorem dX6_keepSet_29 : decode cX6_keepSet 29 = .ok (.getfield 23, 3) := by decide +kernel
theorem bkX6_keepSet_32_37 : pb_chk cX6_keepSet 32 [.sipush 12960, .iload_n 2, .iadd] = some 37 := by decide +kernel
theorem dX6_keepSet_37 : decode cX6_keepSet 37 = .ok (.laload, 1) := by decide +kernel
theorem dX6_keepSet_38 : decode cX6_keepSet 38 = .ok (.ldc2_w 93, 3) := by decide +kernel
theorem dX6_keepSet_41 : decode cX6_keepSet 41 = .ok (.ldc2_w 95, 3) := by decide +kernel
theorem dX6_keepSet_44 : decode cX6_keepSet 44 = .ok (.invokestatic 85, 3) := by decide +kernel
theorem dX6_keepSet_47 : decode cX6_keepSet 47 = .ok (.ifCond .eq 20, 3) := by decide +kernel
theorem bkX6_keepSet_67_69 : pb_chk cX6_keepSet 67 [.aload_n 0, .iload_n 1] = some 69 := by decide +kernel
theorem dX6_keepSet_69 : decode cX6_keepSet 69 = .ok (.invokevirtual 97, 3) := by decide +kernel
theorem dX6_keepSet_72 : decode cX6_keepSet 72 = .ok (.ireturn, 1) := by decide +kernel
theorem bkX6_keepSet_50_51 : pb_chk cX6_keepSet 50 [.aload_n 0] = some 51 := by decide +kernel
theorem dX6_keepSet_51 : decode cX6_keepSet 51 = .ok (.getfield 26, 3) := by decide +kernel
theorem bkX6_keepSet_54_59 : pb_chk cX6_keepSet 54 [.sipush 12960, .iload_n 2, .iadd] = some 59 := by decide +kernel
theorem dX6_keepSet_59 : decode cX6_keepSet 59 = .ok (.laload, 1) := by decide +kernel
theorem dX6_keepSet_60 : decode cX6_keepSet 60 = .ok (.ldc2_w 95, 3) := by decide +kernel
theorem bkX6_keepSet_63_64 : pb_chk cX6_keepSet 63 [.lcmp] = some 64 := by decide +kernel
theorem dX6_keepSet_64 : decode cX6_keepSet 64 = .ok (.ifCond .le 9, 3) := by decide +kernel
theorem bkX6_keepSet_73_17 : pb_chk cX6_keepSet 73 [.iinc 2 1, .goto (-59)] = some 17 := by decide +kernel
set_option maxHeartbeats 4000000 in
set_option maxRecDepth 100000 in
theorem c_X6_keepSet (l : Launch) (G : Gm) (mo : Nat) (S : Sc) (ct : Ct) (N : Nat) (th : Nat → Th) (as : St3) (bd : Nat) (z : St3) (hP : Pst N th as S ct) (hz : SeA ct 81 z) : Mm l yX6_keepSet cX6_keepSet 3 (some .int) (⟨1, 0, 0, 25⟩ : Room) G mo S ct [.ref mo, .int (nI bd)] (po_X6_keepSet mo S ct N th as bd z) := by
  refine of_met (by decide) (Nat.le_of_ble_eq_true rfl) ?_
  intro p e s m below meth c ls B hA hM0 hl
  have hw := Mw.start hM0
  have hN := hP.1
  have hz1 := hz.1
  have loop : N < 80 → ∀ (n k : Nat) (ls : Array Slot), z.1 + 1 ≤ k + n → k ≤ z.1 → (∀ j, j < k → tgR (z.2.1 j) = false) → lv_has ls 3 [(2, .int (nI k)), (0, .ref mo), (1, .int (nI bd))] → W p l e (⟨1, 0, 0, 25⟩ : Room) s m ([.ref mo, .int (nI bd)] : List Value).toArray below meth c s.heap [] 0 0 (MQ below (Qm G mo (po_X6_keepSet mo S ct N th as bd z)) ([.ref mo, .int (nI bd)] : List Value).toArray s (⟨1, 0, 0, 25⟩ : Room).cells (⟨1, 0, 0, 25⟩ : Room).slots (FM mo)) (F0 m 17 ls []) := by
    intro hl8 n
    induction n with
    | zero => intro k ls h1 h2; omega
    | succ n ih =>
      intro k ls hn hk hu hl
      refine pb_blk B.hx B.hb (lv' := [(2, .int (nI k)), (0, .ref mo), (1, .int (nI bd))]) (st' := [.ref mo, .int (nI k)]) hl bkX6_keepSet_17_19 rfl (fun ls hl => ?_)
      refine m_get B hw 5 (by decide) wd_F_X6_20 rfl dX6_keepSet_19 ?_
      refine pb_blk B.hx B.hb (lv' := [(2, .int (nI k)), (0, .ref mo), (1, .int (nI bd))]) (st' := [.int 81, .ref (mo + 4), .int (nI k)]) hl bkX6_keepSet_22_24 rfl (fun ls hl => ?_)
      rw [show (81 : Int32) = nI 81 from rfl]
      refine m_iald B hw 4 (by decide) (by decide) rfl (vp_in_nI (show 81 < 82 by omega) (by decide)) (v := .int (nI z.1)) (by rw [nI_clamp (by omega)]; exact hz.2.1) dX6_keepSet_24 ?_
      refine lv_icmp_ge (tgt := 79) B.hx B.hb dX6_keepSet_25 (by decide) (fun h1 => ?_) (fun h1 => ?_)
      · have e4 : k = z.1 := by have := nI_nlt_le (show z.1 < 2 ^ 31 by omega) (k2_nlt h1); omega
        have hng : ¬ (80 ≤ N ∨ tgS z.1 z.2.1 = true) := fun q => q.elim (fun h9 => absurd h9 (by omega)) (fun h9 => by obtain ⟨j, hj, g⟩ := tgS_ex.mp h9; rw [hu j (by omega)] at g; exact absurd g (by decide))
        refine pb_blk B.hx B.hb (lv' := [(2, .int (nI k)), (0, .ref mo), (1, .int (nI bd))]) (st' := [.int 0, .ref mo]) hl bkX6_keepSet_79_81 rfl (fun ls hl => ?_)
        refine m_put B hw 0 (by decide) wd_F_X6_63 rfl rfl rfl rfl dX6_keepSet_81 (fun H locs hw => ?_)
        refine pb_blk B.hx B.hb (lv' := [(2, .int (nI k)), (0, .ref mo), (1, .int (nI bd))]) (st' := [.ref mo]) hl bkX6_keepSet_84_85 rfl (fun ls hl => ?_)
        refine m_get B hw 2 (by decide) wd_F_X6_7 rfl dX6_keepSet_85 ?_
        refine pb_blk B.hx B.hb (lv' := [(2, .int (nI k)), (0, .ref mo), (1, .int (nI bd))]) (st' := [.ref mo, .ref (mo + 1)]) hl bkX6_keepSet_88_89 rfl (fun ls hl => ?_)
        refine m_get B hw 1 (by decide) wd_F_X6_82 (congrArg some hP.2.1) dX6_keepSet_89 ?_
        refine pb_blk B.hx B.hb (lv' := [(2, .int (nI k)), (0, .ref mo), (1, .int (nI bd))]) (st' := [.int 2, .int (nI N), .ref (mo + 1)]) hl bkX6_keepSet_92_93 rfl (fun ls hl => ?_)
        refine m_iast B hw 1 (by decide) (by decide) rfl (vp_in_nI (show N < 80 by omega) (by decide)) dX6_keepSet_93 (fun H locs hw => ?_)
        rw [nI_clamp (show N < 2 ^ 31 by omega)] at hw
        refine pb_blk B.hx B.hb (lv' := [(2, .int (nI k)), (0, .ref mo), (1, .int (nI bd))]) (st' := [.ref mo, .ref mo]) hl bkX6_keepSet_94_96 rfl (fun ls hl => ?_)
        refine m_get B hw 1 (by decide) wd_F_X6_82 (congrArg some hP.2.1) dX6_keepSet_96 ?_
        refine pb_blk B.hx B.hb (lv' := [(2, .int (nI k)), (0, .ref mo), (1, .int (nI bd))]) (st' := [.int 81, .int (nI N), .ref mo]) hl bkX6_keepSet_99_101 rfl (fun ls hl => ?_)
        rw [show (81 : Int32) = nI 81 from rfl]
        refine m_callV B hw (c_X6_copySet l G mo _ _ N 81 z hz (by omega) (by omega) (by omega)) cy_X6_copySet im_X6_copySet se_X6_copySet wd_M_X6_164 rfl hl.1 rfl (Nat.le_of_ble_eq_true rfl) ⟨by decide, by decide⟩ ⟨rfl, rfl⟩ ⟨Nat.le_refl _, Nat.le_refl _⟩ dX6_keepSet_101 (fun v H locs S1 ct1 hw_6 hv => ?_)
        obtain ⟨rfl, rfl, hzN, hcp⟩ := hv
        have hw := hw_6
        refine pb_blk B.hx B.hb (lv' := [(2, .int (nI k)), (0, .ref mo), (1, .int (nI bd))]) (st' := [.ref mo, .ref mo]) hl bkX6_keepSet_104_106 rfl (fun ls hl => ?_)
        refine m_get B hw 1 (by decide) wd_F_X6_82 (congrArg some hP.2.1) dX6_keepSet_106 ?_
        refine pb_blk B.hx B.hb (lv' := [(2, .int (nI k)), (0, .ref mo), (1, .int (nI bd))]) (st' := [.int ((nI N) + 1), .ref mo]) hl bkX6_keepSet_109_111 rfl (fun ls hl => ?_)
        rw [nI_1]
        refine m_put B hw 1 (by decide) wd_F_X6_82 rfl rfl rfl rfl dX6_keepSet_111 (fun H locs hw => ?_)
        refine pb_blk B.hx B.hb (lv' := [(2, .int (nI k)), (0, .ref mo), (1, .int (nI bd))]) (st' := [.ref mo]) hl bkX6_keepSet_114_115 rfl (fun ls hl => ?_)
        refine m_get B hw 1 (by decide) wd_F_X6_82 (congrArg some (show _ = (.int (nI (N + 1)) : Value) from rfl)) dX6_keepSet_115 ?_
        refine pb_blk B.hx B.hb (lv' := [(2, .int (nI k)), (0, .ref mo), (1, .int (nI bd))]) (st' := [.int ((nI (N + 1)) - 1)]) hl bkX6_keepSet_118_120 rfl (fun ls hl => ?_)
        rw [nI_sub1]
        exact m_iret (v := (nI N)) B hw dX6_keepSet_120 (by exact (Or.inr ⟨hng, rfl, rfl, keepS_pst hP hl8 rfl rfl hzN hcp⟩)) (Nat.le_of_ble_eq_true rfl) (Nat.le_of_ble_eq_true rfl)
      · have hk4 : k < z.1 := (nI_ltI (by omega) (by omega)).mp (k2_lt h1)
        obtain ⟨p0, d0, e1, e2, e3⟩ := hz.2.2.1 k hk4
        have htg := tg_in e3
        refine pb_blk B.hx B.hb (lv' := [(2, .int (nI k)), (0, .ref mo), (1, .int (nI bd))]) (st' := [.ref mo]) hl bkX6_keepSet_28_29 rfl (fun ls hl => ?_)
        refine m_get B hw 6 (by decide) wd_F_X6_23 rfl dX6_keepSet_29 ?_
        refine pb_blk B.hx B.hb (lv' := [(2, .int (nI k)), (0, .ref mo), (1, .int (nI bd))]) (st' := [.int (12960 + (nI k)), .ref (mo + 5)]) hl bkX6_keepSet_32_37 rfl (fun ls hl => ?_)
        rw [ixp]
        refine m_lald B hw 5 (by decide) (by decide) rfl (vp_in_nI (show 12960 + k < 13120 by omega) (by decide)) (v := .long p0) (by rw [nI_clamp (by omega)]; exact e1) dX6_keepSet_37 ?_
        refine z_ldc2 B wd_L_X6_93 dX6_keepSet_38 ?_
        refine z_ldc2 B wd_L_X6_95 dX6_keepSet_41 ?_
        refine m_callS B (c_X6_in l G (fun _ => False) p0 (-60) 60) cy_X6_in st_X6_in wd_M_X6_85 trivial rfl hl.1 rfl (Nat.le_of_ble_eq_true rfl) ⟨by decide, by decide⟩ ⟨rfl, rfl⟩ ⟨Nat.le_refl _, Nat.le_refl _⟩ dX6_keepSet_44 (fun v hv => ?_)
        rw [po_X6_in] at hv
        subst hv
        refine lv_if_eq (tgt := 67) B.hx B.hb dX6_keepSet_47 (by decide) (fun h3 => ?_) (fun h3 => ?_)
        · have g1 : ¬ inB p0 (-60) 60 = true := by rw [(b2i_0 _).mp h3]; decide
          have hgr : tgR (z.2.1 k) = true := htg.mpr (Or.inl g1)
          refine pb_blk B.hx B.hb (lv' := [(2, .int (nI k)), (0, .ref mo), (1, .int (nI bd))]) (st' := [.int (nI bd), .ref mo]) hl bkX6_keepSet_67_69 rfl (fun ls hl => ?_)
          refine m_callV B hw (c_X6_raise l G mo S ct (nI bd)) cy_X6_raise im_X6_raise se_X6_raise wd_M_X6_97 rfl hl.1 rfl (Nat.le_of_ble_eq_true rfl) ⟨by decide, by decide⟩ ⟨rfl, rfl⟩ ⟨Nat.le_refl _, Nat.le_refl _⟩ dX6_keepSet_69 (fun v H locs S1 ct1 hw_7 hv => ?_)
          obtain ⟨rfl, rfl, rfl⟩ := hv
          have hw := hw_7
          exact m_iret (v := 0) B hw dX6_keepSet_72 (by exact (Or.inl ⟨Or.inr (tgS_ex.mpr ⟨k, hk4, hgr⟩), rfl, rfl, rfl⟩)) (Nat.le_of_ble_eq_true rfl) (Nat.le_of_ble_eq_true rfl)
        · have g1 := ts9 (fun q => h3 ((b2i_0 _).mpr q))
          refine pb_blk B.hx B.hb (lv' := [(2, .int (nI k)), (0, .ref mo), (1, .int (nI bd))]) (st' := [.ref mo]) hl bkX6_keepSet_50_51 rfl (fun ls hl => ?_)
          refine m_get B hw 7 (by decide) wd_F_X6_26 rfl dX6_keepSet_51 ?_
          refine pb_blk B.hx B.hb (lv' := [(2, .int (nI k)), (0, .ref mo), (1, .int (nI bd))]) (st' := [.int (12960 + (nI k)), .ref (mo + 6)]) hl bkX6_keepSet_54_59 rfl (fun ls hl => ?_)
          rw [ixp]
          refine m_lald B hw 6 (by decide) (by decide) rfl (vp_in_nI (show 12960 + k < 13120 by omega) (by decide)) (v := .long d0) (by rw [nI_clamp (by omega)]; exact e2) dX6_keepSet_59 ?_
          refine z_ldc2 B wd_L_X6_95 dX6_keepSet_60 ?_
          refine pb_blk B.hx B.hb (lv' := [(2, .int (nI k)), (0, .ref mo), (1, .int (nI bd))]) (st' := [.int (lg_cmp d0 60)]) hl bkX6_keepSet_63_64 rfl (fun ls hl => ?_)
          refine lv_if_le (tgt := 73) B.hx B.hb dX6_keepSet_64 (by decide) (fun h4 => ?_) (fun h4 => ?_)
          · have g2 : ¬ 60 < d0.toInt := by have h9 := (lg_cmp_le _ _).mp h4; rw [Int64.le_iff_toInt_le, show (60 : Int64).toInt = 60 from rfl] at h9; omega
            have g3 : tgR (z.2.1 k) = false := by cases e9 : tgR (z.2.1 k); rfl; exact absurd (htg.mp e9) (fun q => q.elim (fun h6 => h6 g1) (fun h6 => g2 h6))
            refine pb_blk B.hx B.hb (lv' := [(2, .int ((nI k) + 1)), (0, .ref mo), (1, .int (nI bd))]) (st' := []) hl bkX6_keepSet_73_17 rfl (fun ls hl => ?_)
            exact ih (k + 1) ls (by omega) hk4 (fun j hj => (Nat.lt_succ_iff_lt_or_eq.mp hj).elim (hu j) (fun e9 => by rw [e9]; exact g3)) (by rw [← nI_1]; exact lv_sub hl [0, 1, 2] rfl)
          · have g2 : 60 < d0.toInt := by have h9 : ¬ d0 ≤ 60 := fun q => h4 ((lg_cmp_le _ _).mpr q); rw [Int64.le_iff_toInt_le, show (60 : Int64).toInt = 60 from rfl] at h9; omega
            have hgr : tgR (z.2.1 k) = true := htg.mpr (Or.inr g2)
            refine pb_blk B.hx B.hb (lv' := [(2, .int (nI k)), (0, .ref mo), (1, .int (nI bd))]) (st' := [.int (nI bd), .ref mo]) hl bkX6_keepSet_67_69 rfl (fun ls hl => ?_)
            refine m_callV B hw (c_X6_raise l G mo S ct (nI bd)) cy_X6_raise im_X6_raise se_X6_raise wd_M_X6_97 rfl hl.1 rfl (Nat.le_of_ble_eq_true rfl) ⟨by decide, by decide⟩ ⟨rfl, rfl⟩ ⟨Nat.le_refl _, Nat.le_refl _⟩ dX6_keepSet_69 (fun v H locs S1 ct1 hw_8 hv => ?_)
            obtain ⟨rfl, rfl, rfl⟩ := hv
            have hw := hw_8
            exact m_iret (v := 0) B hw dX6_keepSet_72 (by exact (Or.inl ⟨Or.inr (tgS_ex.mpr ⟨k, hk4, hgr⟩), rfl, rfl, rfl⟩)) (Nat.le_of_ble_eq_true rfl) (Nat.le_of_ble_eq_true rfl)
  refine pb_blk B.hx B.hb (lv' := [(0, .ref mo), (1, .int (nI bd))]) (st' := [.ref mo]) hl bkX6_keepSet_0_1 rfl (fun ls hl => ?_)
  refine m_get B hw 1 (by decide) wd_F_X6_82 (congrArg some hP.2.1) dX6_keepSet_1 ?_
  refine pb_blk B.hx B.hb (lv' := [(0, .ref mo), (1, .int (nI bd))]) (st' := [.int 80, .int (nI N)]) hl bkX6_keepSet_4_6 rfl (fun ls hl => ?_)
  refine lv_icmp_ne (tgt := 15) B.hx B.hb dX6_keepSet_6 (by decide) (fun h1 => ?_) (fun h1 => ?_)
  · have hne : N ≠ 80 := fun q => h1 (by rw [q]; rfl)
    have hl8 : N < 80 := by omega
    refine pb_blk B.hx B.hb (lv' := [(2, .int 0), (0, .ref mo), (1, .int (nI bd))]) (st' := []) hl bkX6_keepSet_15_17 rfl (fun ls hl => ?_)
    exact loop hl8 (z.1 + 1) 0 ls (by omega) (by omega) (fun j hj => absurd hj (Nat.not_lt_zero _)) (lv_sub hl [0, 1, 2] rfl)
  · have he : 80 ≤ N := by have h9 := (nI_eq (show N < 2 ^ 31 by omega) (show 80 < 2 ^ 31 by decide)).mp h1; omega
    refine pb_blk B.hx B.hb (lv' := [(0, .ref mo), (1, .int (nI bd))]) (st' := [.int (nI bd), .ref mo]) hl bkX6_keepSet_9_11 rfl (fun ls hl => ?_)
    refine m_callV B hw (c_X6_raise l G mo S ct (nI bd)) cy_X6_raise im_X6_raise se_X6_raise wd_M_X6_97 rfl hl.1 rfl (Nat.le_of_ble_eq_true rfl) ⟨by decide, by decide⟩ ⟨rfl, rfl⟩ ⟨Nat.le_refl _, Nat.le_refl _⟩ dX6_keepSet_11 (fun v H locs S1 ct1 hw_5 hv => ?_)
    obtain ⟨rfl, rfl, rfl⟩ := hv
    have hw := hw_5
    exact m_iret (v := 0) B hw dX6_keepSet_14 (by exact (Or.inl ⟨Or.inl he, rfl, rfl, rfl⟩)) (Nat.le_of_ble_eq_true rfl) (Nat.le_of_ble_eq_true rfl)

def po_X6_areSame (G : Gm) (A : Nat → Prop) (mo : Nat) (S : Sc) (ct : Ct) (k1 k2 : Nat) (y z : St3) : Option Value → Prop := fun v => ∃ b : Bool, v = some (.int (b2i b)) ∧ (b = true ↔ SameZ y z)
theorem bkX6_areSame_0_1 : pb_chk cX6_areSame 0 [.aload_n 0] = some 1 := by decide +kernel
theorem dX6_areSame_1 : decode cX6_areSame 1 = .ok (.getfield 20, 3) := by decide +kernel
theorem bkX6_areSame_4_5 : pb_chk cX6_areSame 4 [.iload_n 1] = some 5 := by decide +kernel
theorem dX6_areSame_5 : decode cX6_areSame 5 = .ok (.iaload, 1) := by decide +kernel
theorem bkX6_areSame_6_7 : pb_chk cX6_areSame 6 [.aload_n 0] = some 7 := by decide +kernel
theorem dX6_areSame_7 : decode cX6_areSame 7 = .ok (.getfield 20, 3) := by decide +kernel
theorem bkX6_areSame_10_11 : pb_chk cX6_areSame 10 [.iload_n 2] = some 11 := by decide +kernel
theorem dX6_areSame_11 : decode cX6_areSame 11 = .ok (.iaload, 1) := by decide +kernel
theorem dX6_areSame_12 : decode cX6_areSame 12 = .ok (.if_icmp .eq 5, 3) := by decide +kernel
theorem bkX6_areSame_17_19 : pb_chk cX6_areSame 17 [.iconst 0, .istore_n 3] = some 19 := by decide +kernel
theorem bkX6_areSame_15_16 : pb_chk cX6_areSame 15 [.iconst 0] = some 16 := by decide +kernel
theorem dX6_areSame_16 : decode cX6_areSame 16 = .ok (.ireturn, 1) := by decide +kernel
theorem bkX6_areSame_19_21 : pb_chk cX6_areSame 19 [.iload_n 3, .aload_n 0] = some 21 := by decide +kernel
theorem dX6_areSame_21 : decode cX6_areSame 21 = .ok (.getfield 20, 3) := by decide +kernel
theorem bkX6_areSame_24_25 : pb_chk cX6_areSame 24 [.iload_n 1] = some 25 := by decide +kernel
theorem dX6_areSame_25 : decode cX6_areSame 25 = .ok (.iaload, 1) := by decide +kernel
theorem dX6_areSame_26 : decode cX6_areSame 26 = .ok (.if_icmp .ge 67, 3) := by decide +kernel
theorem bkX6_areSame_93_95 : pb_chk cX6_areSame 93 [.iconst 0, .istore_n 3] = some 95 := by decide +kernel
theorem bkX6_areSame_29_30 : pb_chk cX6_areSame 29 [.aload_n 0] = some 30 := by decide +kernel
theorem dX6_areSame_30 : decode cX6_areSame 30 = .ok (.getfield 23, 3) := by decide +kernel
theorem bkX6_areSame_33_40 : pb_chk cX6_areSame 33 [.sipush 160, .iload_n 1, .imul, .iload_n 3, .iadd] = some 40 := by decide +kernel
theorem dX6_areSame_40 : decode cX6_areSame 40 = .ok (.laload, 1) := by decide +kernel
theorem bkX6_areSame_41_42 : pb_chk cX6_areSame 41 [.aload_n 0] = some 42 := by decide +kernel
theorem dX6_areSame_42 : decode cX6_areSame 42 = .ok (.getfield 23, 3) := by decide +kernel
theorem bkX6_areSame_45_52 : pb_chk cX6_areSame 45 [.sipush 160, .iload_n 2, .imul, .iload_n 3, .iadd] = some 52 := by decide +kernel
theorem dX6_areSame_52 : decode cX6_areSame 52 = .ok (.laload, 1) := by decide +kernel
theorem bkX6_areSame_53_54 : pb_chk cX6_areSame 53 [.lcmp] = some 54 := by decide +kernel
theorem dX6_areSame_54 : decode cX6_areSame 54 = .ok (.ifCond .ne 31, 3) := by decide +kernel
theorem bkX6_areSame_85_86 : pb_chk cX6_areSame 85 [.iconst 0] = some 86 := by decide +kernel
theorem dX6_areSame_86 : decode cX6_areSame 86 = .ok (.ireturn, 1) := by decide +kernel
theorem bkX6_areSame_57_58 : pb_chk cX6_areSame 57 [.aload_n 0] = some 58 := by decide +kernel
theorem dX6_areSame_58 : decode cX6_areSame 58 = .ok (.getfield 26, 3) := by decide +kernel
theorem bkX6_areSame_61_68 : pb_chk cX6_areSame 61 [.sipush 160, .iload_n 1, .imul, .iload_n 3, .iadd] = some 68 := by decide +kernel
theorem dX6_areSame_68 : decode cX6_areSame 68 = .ok (.laload, 1) := by decide +kernel
theorem bkX6_areSame_69_70 : pb_chk cX6_areSame 69 [.aload_n 0] = some 70 := by decide +kernel
theorem dX6_areSame_70 : decode cX6_areSame 70 = .ok (.getfield 26, 3) := by decide +kernel
theorem bkX6_areSame_73_80 : pb_chk cX6_areSame 73 [.sipush 160, .iload_n 2, .imul, .iload_n 3, .iadd] = some 80 := by decide +kernel
theorem dX6_areSame_80 : decode cX6_areSame 80 = .ok (.laload, 1) := by decide +kernel
theorem bkX6_areSame_81_82 : pb_chk cX6_areSame 81 [.lcmp] = some 82 := by decide +kernel
theorem dX6_areSame_82 : decode cX6_areSame 82 = .ok (.ifCond .eq 5, 3) := by decide +kernel
theorem bkX6_areSame_87_19 : pb_chk cX6_areSame 87 [.iinc 3 1, .goto (-71)] = some 19 := by decide +kernel
theorem bkX6_areSame_95_98 : pb_chk cX6_areSame 95 [.iload_n 3, .iconst 2, .aload_n 0] = some 98 := by decide +kernel
theorem dX6_areSame_98 : decode cX6_areSame 98 = .ok (.getfield 20, 3) := by decide +kernel
theorem bkX6_areSame_101_102 : pb_chk cX6_areSame 101 [.iload_n 1] = some 102 := by decide +kernel
theorem dX6_areSame_102 : decode cX6_areSame 102 = .ok (.iaload, 1) := by decide +kernel
theorem bkX6_areSame_103_104 : pb_chk cX6_areSame 103 [.imul] = some 104 := by decide +kernel
theorem dX6_areSame_104 : decode cX6_areSame 104 = .ok (.if_icmp .gt 26, 3) := by decide +kernel
theorem bkX6_areSame_130_131 : pb_chk cX6_areSame 130 [.iconst 1] = some 131 := by decide +kernel
theorem dX6_areSame_131 : decode cX6_areSame 131 = .ok (.ireturn, 1) := by decide +kernel
theorem bkX6_areSame_107_110 : pb_chk cX6_areSame 107 [.aload_n 0, .iload_n 1, .iload_n 3] = some 110 := by decide +kernel
theorem dX6_areSame_110 : decode cX6_areSame 110 = .ok (.invokevirtual 161, 3) := by decide +kernel
theorem bkX6_areSame_113_116 : pb_chk cX6_areSame 113 [.aload_n 0, .iload_n 2, .iload_n 3] = some 116 := by decide +kernel
theorem dX6_areSame_116 : decode cX6_areSame 116 = .ok (.invokevirtual 161, 3) := by decide +kernel
theorem dX6_areSame_119 : decode cX6_areSame 119 = .ok (.if_icmp .eq 5, 3) := by decide +kernel
theorem bkX6_areSame_124_95 : pb_chk cX6_areSame 124 [.iinc 3 1, .goto (-32)] = some 95 := by decide +kernel
theorem bkX6_areSame_122_123 : pb_chk cX6_areSame 122 [.iconst 0] = some 123 := by decide +kernel
theorem dX6_areSame_123 : decode cX6_areSame 123 = .ok (.ireturn, 1) := by decide +kernel
set_option maxHeartbeats 4000000 in
set_option maxRecDepth 100000 in
theorem c_X6_areSame (l : Launch) (G : Gm) (A : Nat → Prop) (mo : Nat) (S : Sc) (ct : Ct) (k1 k2 : Nat) (y z : St3) (hk1 : k1 ≤ 80) (hk2 : k2 ≤ 80) (hy : SeA ct k1 y) (hz : SeA ct k2 z) : Mn l yX6_areSame cX6_areSame 4 (some .boolean) (⟨1, 0, 0, 22⟩ : Room) G [.ref mo, .int (nI k1), .int (nI k2)] (fun H => MS G H mo S ct) (po_X6_areSame G A mo S ct k1 k2 y z) := by
  refine of_met (by decide) (Nat.le_of_ble_eq_true rfl) ?_
  intro p e s m below meth c ls B hA hM0 hl
  have hw := Mw.start hM0
  have hy1 := hy.1
  have hz1 := hz.1
  have loop2 : y.1 = z.1 → (∀ j, j < y.1 → y.2.1 j = z.2.1 j) → ∀ (n i : Nat) (ls : Array Slot), 2 * y.1 + 2 ≤ i + n → i ≤ 2 * y.1 + 1 → (∀ j, j < i → y.2.2 j = z.2.2 j) → lv_has ls 4 [(3, .int (nI i)), (0, .ref mo), (1, .int (nI k1)), (2, .int (nI k2))] → W p l e (⟨1, 0, 0, 22⟩ : Room) s m ([.ref mo, .int (nI k1), .int (nI k2)] : List Value).toArray below meth c s.heap [] 0 0 (MQ below (Qn (po_X6_areSame G A mo S ct k1 k2 y z)) ([.ref mo, .int (nI k1), .int (nI k2)] : List Value).toArray s (⟨1, 0, 0, 22⟩ : Room).cells (⟨1, 0, 0, 22⟩ : Room).slots (fun _ => False)) (F0 m 95 ls []) := by
    intro en hp n
    induction n with
    | zero => intro i ls h1 h2; omega
    | succ n ih =>
      intro i ls hn hi hm hl
      refine pb_blk B.hx B.hb (lv' := [(3, .int (nI i)), (0, .ref mo), (1, .int (nI k1)), (2, .int (nI k2))]) (st' := [.ref mo, .int 2, .int (nI i)]) hl bkX6_areSame_95_98 rfl (fun ls hl => ?_)
      refine m_get B hw 5 (by decide) wd_F_X6_20 rfl dX6_areSame_98 ?_
      refine pb_blk B.hx B.hb (lv' := [(3, .int (nI i)), (0, .ref mo), (1, .int (nI k1)), (2, .int (nI k2))]) (st' := [.int (nI k1), .ref (mo + 4), .int 2, .int (nI i)]) hl bkX6_areSame_101_102 rfl (fun ls hl => ?_)
      refine m_iald B hw 4 (by decide) (by decide) rfl (vp_in_nI (show k1 < 82 by omega) (by decide)) (v := .int (nI y.1)) (by rw [nI_clamp (by omega)]; exact hy.2.1) dX6_areSame_102 ?_
      refine pb_blk B.hx B.hb (lv' := [(3, .int (nI i)), (0, .ref mo), (1, .int (nI k1)), (2, .int (nI k2))]) (st' := [.int (2 * (nI y.1)), .int (nI i)]) hl bkX6_areSame_103_104 rfl (fun ls hl => ?_)
      rw [ix0]
      refine lv_icmp_gt (tgt := 130) B.hx B.hb dX6_areSame_104 (by decide) (fun h1 => ?_) (fun h1 => ?_)
      · have e4 : 2 * y.1 < i := (nI_ltI (by omega) (by omega)).mp h1
        refine pb_blk B.hx B.hb (lv' := [(3, .int (nI i)), (0, .ref mo), (1, .int (nI k1)), (2, .int (nI k2))]) (st' := [.int 1]) hl bkX6_areSame_130_131 rfl (fun ls hl => ?_)
        exact n_zret (v := 1) B dX6_areSame_131 rfl ⟨true, rfl, ⟨fun _ => ⟨en, hp, fun j hj => hm j (by omega)⟩, fun _ => rfl⟩⟩ (Nat.le_refl _) (Nat.le_refl _)
      · have hi4 : i ≤ 2 * y.1 := by rcases Nat.lt_or_ge (2 * y.1) i with g | g; exact absurd ((nI_ltI (by omega) (by omega)).mpr g) h1; exact g
        refine pb_blk B.hx B.hb (lv' := [(3, .int (nI i)), (0, .ref mo), (1, .int (nI k1)), (2, .int (nI k2))]) (st' := [.int (nI i), .int (nI k1), .ref mo]) hl bkX6_areSame_107_110 rfl (fun ls hl => ?_)
        refine m_callN B hw (c_X6_mark l G (fun _ => False) mo S ct k1 i (y.2.2 i) (by omega) (hy.2.2.2 i (by omega))) cy_X6_mark im_X6_mark se_X6_mark wd_M_X6_161 hw.1 rfl hl.1 rfl (Nat.le_of_ble_eq_true rfl) ⟨by decide, by decide⟩ ⟨rfl, rfl⟩ ⟨Nat.le_refl _, Nat.le_refl _⟩ dX6_areSame_110 (fun v hv => ?_)
        rw [po_X6_mark] at hv
        subst hv
        refine pb_blk B.hx B.hb (lv' := [(3, .int (nI i)), (0, .ref mo), (1, .int (nI k1)), (2, .int (nI k2))]) (st' := [.int (nI i), .int (nI k2), .ref mo, .int (b2i (y.2.2 i))]) hl bkX6_areSame_113_116 rfl (fun ls hl => ?_)
        refine m_callN B hw (c_X6_mark l G (fun _ => False) mo S ct k2 i (z.2.2 i) (by omega) (hz.2.2.2 i (by omega))) cy_X6_mark im_X6_mark se_X6_mark wd_M_X6_161 hw.1 rfl hl.1 rfl (Nat.le_of_ble_eq_true rfl) ⟨by decide, by decide⟩ ⟨rfl, rfl⟩ ⟨Nat.le_refl _, Nat.le_refl _⟩ dX6_areSame_116 (fun v hv => ?_)
        rw [po_X6_mark] at hv
        subst hv
        refine lv_icmp_eq (tgt := 124) B.hx B.hb dX6_areSame_119 (by decide) (fun h2 => ?_) (fun h2 => ?_)
        · have g3 := b2i_inj.mp h2
          refine pb_blk B.hx B.hb (lv' := [(3, .int ((nI i) + 1)), (0, .ref mo), (1, .int (nI k1)), (2, .int (nI k2))]) (st' := []) hl bkX6_areSame_124_95 rfl (fun ls hl => ?_)
          exact ih (i + 1) ls (by omega) (by omega) (fun j hj => (Nat.lt_succ_iff_lt_or_eq.mp hj).elim (hm j) (fun e9 => by rw [e9]; exact g3)) (by rw [← nI_1]; exact lv_sub hl [0, 1, 2, 3] rfl)
        · refine pb_blk B.hx B.hb (lv' := [(3, .int (nI i)), (0, .ref mo), (1, .int (nI k1)), (2, .int (nI k2))]) (st' := [.int 0]) hl bkX6_areSame_122_123 rfl (fun ls hl => ?_)
          exact n_zret (v := 0) B dX6_areSame_123 rfl ⟨false, rfl, ⟨fun h9 => (by cases h9), fun h9 => absurd h9 (fun q => h2 (by rw [q.2.2 i (by omega)]))⟩⟩ (Nat.le_refl _) (Nat.le_refl _)
  have loop1 : y.1 = z.1 → ∀ (n i : Nat) (ls : Array Slot), y.1 + 1 ≤ i + n → i ≤ y.1 → (∀ j, j < i → y.2.1 j = z.2.1 j) → lv_has ls 4 [(3, .int (nI i)), (0, .ref mo), (1, .int (nI k1)), (2, .int (nI k2))] → W p l e (⟨1, 0, 0, 22⟩ : Room) s m ([.ref mo, .int (nI k1), .int (nI k2)] : List Value).toArray below meth c s.heap [] 0 0 (MQ below (Qn (po_X6_areSame G A mo S ct k1 k2 y z)) ([.ref mo, .int (nI k1), .int (nI k2)] : List Value).toArray s (⟨1, 0, 0, 22⟩ : Room).cells (⟨1, 0, 0, 22⟩ : Room).slots (fun _ => False)) (F0 m 19 ls []) := by
    intro en n
    induction n with
    | zero => intro i ls h1 h2; omega
    | succ n ih =>
      intro i ls hn hi hp hl
      refine pb_blk B.hx B.hb (lv' := [(3, .int (nI i)), (0, .ref mo), (1, .int (nI k1)), (2, .int (nI k2))]) (st' := [.ref mo, .int (nI i)]) hl bkX6_areSame_19_21 rfl (fun ls hl => ?_)
      refine m_get B hw 5 (by decide) wd_F_X6_20 rfl dX6_areSame_21 ?_
      refine pb_blk B.hx B.hb (lv' := [(3, .int (nI i)), (0, .ref mo), (1, .int (nI k1)), (2, .int (nI k2))]) (st' := [.int (nI k1), .ref (mo + 4), .int (nI i)]) hl bkX6_areSame_24_25 rfl (fun ls hl => ?_)
      refine m_iald B hw 4 (by decide) (by decide) rfl (vp_in_nI (show k1 < 82 by omega) (by decide)) (v := .int (nI y.1)) (by rw [nI_clamp (by omega)]; exact hy.2.1) dX6_areSame_25 ?_
      refine lv_icmp_ge (tgt := 93) B.hx B.hb dX6_areSame_26 (by decide) (fun h1 => ?_) (fun h1 => ?_)
      · have e4 : i = y.1 := by have := nI_nlt_le (show y.1 < 2 ^ 31 by omega) (k2_nlt h1); omega
        rw [e4] at hp
        refine pb_blk B.hx B.hb (lv' := [(3, .int 0), (0, .ref mo), (1, .int (nI k1)), (2, .int (nI k2))]) (st' := []) hl bkX6_areSame_93_95 rfl (fun ls hl => ?_)
        exact loop2 en hp (2 * y.1 + 2) 0 ls (by omega) (by omega) (fun j hj => absurd hj (Nat.not_lt_zero _)) (lv_sub hl [0, 1, 2, 3] rfl)
      · have hi4 : i < y.1 := (nI_ltI (by omega) (by omega)).mp (k2_lt h1)
        obtain ⟨p1, d1, a1, a2, a3⟩ := hy.2.2.1 i hi4
        obtain ⟨p2, d2, b1, b2, b3⟩ := hz.2.2.1 i (by omega)
        refine pb_blk B.hx B.hb (lv' := [(3, .int (nI i)), (0, .ref mo), (1, .int (nI k1)), (2, .int (nI k2))]) (st' := [.ref mo]) hl bkX6_areSame_29_30 rfl (fun ls hl => ?_)
        refine m_get B hw 6 (by decide) wd_F_X6_23 rfl dX6_areSame_30 ?_
        refine pb_blk B.hx B.hb (lv' := [(3, .int (nI i)), (0, .ref mo), (1, .int (nI k1)), (2, .int (nI k2))]) (st' := [.int ((160 * (nI k1)) + (nI i)), .ref (mo + 5)]) hl bkX6_areSame_33_40 rfl (fun ls hl => ?_)
        rw [ix160]
        refine m_lald B hw 5 (by decide) (by decide) rfl (vp_in_nI (show 160 * k1 + i < 13120 by omega) (by decide)) (v := .long p1) (by rw [nI_clamp (by omega)]; exact a1) dX6_areSame_40 ?_
        refine pb_blk B.hx B.hb (lv' := [(3, .int (nI i)), (0, .ref mo), (1, .int (nI k1)), (2, .int (nI k2))]) (st' := [.ref mo, .long p1]) hl bkX6_areSame_41_42 rfl (fun ls hl => ?_)
        refine m_get B hw 6 (by decide) wd_F_X6_23 rfl dX6_areSame_42 ?_
        refine pb_blk B.hx B.hb (lv' := [(3, .int (nI i)), (0, .ref mo), (1, .int (nI k1)), (2, .int (nI k2))]) (st' := [.int ((160 * (nI k2)) + (nI i)), .ref (mo + 5), .long p1]) hl bkX6_areSame_45_52 rfl (fun ls hl => ?_)
        rw [ix160]
        refine m_lald B hw 5 (by decide) (by decide) rfl (vp_in_nI (show 160 * k2 + i < 13120 by omega) (by decide)) (v := .long p2) (by rw [nI_clamp (by omega)]; exact b1) dX6_areSame_52 ?_
        refine pb_blk B.hx B.hb (lv' := [(3, .int (nI i)), (0, .ref mo), (1, .int (nI k1)), (2, .int (nI k2))]) (st' := [.int (lg_cmp p1 p2)]) hl bkX6_areSame_53_54 rfl (fun ls hl => ?_)
        refine lv_if_ne (tgt := 85) B.hx B.hb dX6_areSame_54 (by decide) (fun h2 => ?_) (fun h2 => ?_)
        · refine pb_blk B.hx B.hb (lv' := [(3, .int (nI i)), (0, .ref mo), (1, .int (nI k1)), (2, .int (nI k2))]) (st' := [.int 0]) hl bkX6_areSame_85_86 rfl (fun ls hl => ?_)
          exact n_zret (v := 0) B dX6_areSame_86 rfl ⟨false, rfl, ⟨fun h9 => (by cases h9), fun h9 => absurd h9 (fun q => h2 ((lg_cmp_eq _ _).mpr ((fx_eq a3 b3).mpr (q.2.1 i hi4)).1))⟩⟩ (Nat.le_refl _) (Nat.le_refl _)
        · have g1 := (lg_cmp_eq _ _).mp h2
          refine pb_blk B.hx B.hb (lv' := [(3, .int (nI i)), (0, .ref mo), (1, .int (nI k1)), (2, .int (nI k2))]) (st' := [.ref mo]) hl bkX6_areSame_57_58 rfl (fun ls hl => ?_)
          refine m_get B hw 7 (by decide) wd_F_X6_26 rfl dX6_areSame_58 ?_
          refine pb_blk B.hx B.hb (lv' := [(3, .int (nI i)), (0, .ref mo), (1, .int (nI k1)), (2, .int (nI k2))]) (st' := [.int ((160 * (nI k1)) + (nI i)), .ref (mo + 6)]) hl bkX6_areSame_61_68 rfl (fun ls hl => ?_)
          rw [ix160]
          refine m_lald B hw 6 (by decide) (by decide) rfl (vp_in_nI (show 160 * k1 + i < 13120 by omega) (by decide)) (v := .long d1) (by rw [nI_clamp (by omega)]; exact a2) dX6_areSame_68 ?_
          refine pb_blk B.hx B.hb (lv' := [(3, .int (nI i)), (0, .ref mo), (1, .int (nI k1)), (2, .int (nI k2))]) (st' := [.ref mo, .long d1]) hl bkX6_areSame_69_70 rfl (fun ls hl => ?_)
          refine m_get B hw 7 (by decide) wd_F_X6_26 rfl dX6_areSame_70 ?_
          refine pb_blk B.hx B.hb (lv' := [(3, .int (nI i)), (0, .ref mo), (1, .int (nI k1)), (2, .int (nI k2))]) (st' := [.int ((160 * (nI k2)) + (nI i)), .ref (mo + 6), .long d1]) hl bkX6_areSame_73_80 rfl (fun ls hl => ?_)
          rw [ix160]
          refine m_lald B hw 6 (by decide) (by decide) rfl (vp_in_nI (show 160 * k2 + i < 13120 by omega) (by decide)) (v := .long d2) (by rw [nI_clamp (by omega)]; exact b2) dX6_areSame_80 ?_
          refine pb_blk B.hx B.hb (lv' := [(3, .int (nI i)), (0, .ref mo), (1, .int (nI k1)), (2, .int (nI k2))]) (st' := [.int (lg_cmp d1 d2)]) hl bkX6_areSame_81_82 rfl (fun ls hl => ?_)
          refine lv_if_eq (tgt := 87) B.hx B.hb dX6_areSame_82 (by decide) (fun h3 => ?_) (fun h3 => ?_)
          · have g2 := (lg_cmp_eq _ _).mp h3
            have g3 := (fx_eq a3 b3).mp ⟨g1, g2⟩
            refine pb_blk B.hx B.hb (lv' := [(3, .int ((nI i) + 1)), (0, .ref mo), (1, .int (nI k1)), (2, .int (nI k2))]) (st' := []) hl bkX6_areSame_87_19 rfl (fun ls hl => ?_)
            exact ih (i + 1) ls (by omega) hi4 (fun j hj => (Nat.lt_succ_iff_lt_or_eq.mp hj).elim (hp j) (fun e9 => by rw [e9]; exact g3)) (by rw [← nI_1]; exact lv_sub hl [0, 1, 2, 3] rfl)
          · refine pb_blk B.hx B.hb (lv' := [(3, .int (nI i)), (0, .ref mo), (1, .int (nI k1)), (2, .int (nI k2))]) (st' := [.int 0]) hl bkX6_areSame_85_86 rfl (fun ls hl => ?_)
            exact n_zret (v := 0) B dX6_areSame_86 rfl ⟨false, rfl, ⟨fun h9 => (by cases h9), fun h9 => absurd h9 (fun q => h3 ((lg_cmp_eq _ _).mpr ((fx_eq a3 b3).mpr (q.2.1 i hi4)).2))⟩⟩ (Nat.le_refl _) (Nat.le_refl _)
  refine pb_blk B.hx B.hb (lv' := [(0, .ref mo), (1, .int (nI k1)), (2, .int (nI k2))]) (st' := [.ref mo]) hl bkX6_areSame_0_1 rfl (fun ls hl => ?_)
  refine m_get B hw 5 (by decide) wd_F_X6_20 rfl dX6_areSame_1 ?_
  refine pb_blk B.hx B.hb (lv' := [(0, .ref mo), (1, .int (nI k1)), (2, .int (nI k2))]) (st' := [.int (nI k1), .ref (mo + 4)]) hl bkX6_areSame_4_5 rfl (fun ls hl => ?_)
  refine m_iald B hw 4 (by decide) (by decide) rfl (vp_in_nI (show k1 < 82 by omega) (by decide)) (v := .int (nI y.1)) (by rw [nI_clamp (by omega)]; exact hy.2.1) dX6_areSame_5 ?_
  refine pb_blk B.hx B.hb (lv' := [(0, .ref mo), (1, .int (nI k1)), (2, .int (nI k2))]) (st' := [.ref mo, .int (nI y.1)]) hl bkX6_areSame_6_7 rfl (fun ls hl => ?_)
  refine m_get B hw 5 (by decide) wd_F_X6_20 rfl dX6_areSame_7 ?_
  refine pb_blk B.hx B.hb (lv' := [(0, .ref mo), (1, .int (nI k1)), (2, .int (nI k2))]) (st' := [.int (nI k2), .ref (mo + 4), .int (nI y.1)]) hl bkX6_areSame_10_11 rfl (fun ls hl => ?_)
  refine m_iald B hw 4 (by decide) (by decide) rfl (vp_in_nI (show k2 < 82 by omega) (by decide)) (v := .int (nI z.1)) (by rw [nI_clamp (by omega)]; exact hz.2.1) dX6_areSame_11 ?_
  refine lv_icmp_eq (tgt := 17) B.hx B.hb dX6_areSame_12 (by decide) (fun h1 => ?_) (fun h1 => ?_)
  · have en : y.1 = z.1 := (nI_eq (by omega) (by omega)).mp h1
    refine pb_blk B.hx B.hb (lv' := [(3, .int 0), (0, .ref mo), (1, .int (nI k1)), (2, .int (nI k2))]) (st' := []) hl bkX6_areSame_17_19 rfl (fun ls hl => ?_)
    exact loop1 en (y.1 + 1) 0 ls (by omega) (by omega) (fun j hj => absurd hj (Nat.not_lt_zero _)) (lv_sub hl [0, 1, 2, 3] rfl)
  · refine pb_blk B.hx B.hb (lv' := [(0, .ref mo), (1, .int (nI k1)), (2, .int (nI k2))]) (st' := [.int 0]) hl bkX6_areSame_15_16 rfl (fun ls hl => ?_)
    exact n_zret (v := 0) B dX6_areSame_16 rfl ⟨false, rfl, ⟨fun h9 => (by cases h9), fun h9 => absurd h9 (fun q => h1 (by rw [q.1]))⟩⟩ (Nat.le_refl _) (Nat.le_refl _)

def ArF (N : Nat) (th : Nat → Th) (f g : Int32) (S : Sc) (ct : Ct) (v : Option Value) (S2 : Sc) (ct2 : Ct) : Prop :=
  (v = some (.int 0) ∧ ct2 = ct ∧ ((S2 = va_up S 0 (.int 1) ∧ ¬ (Tr N f ∧ Tr N g)) ∨ (S2 = va_up S 0 (.int 2) ∧ ∃ i j, i < N ∧ j < N ∧ f = nI i ∧ g = nI j ∧ ¬ ((∃ u, th i = .inl u) ∧ ∃ u, th j = .inl u)))) ∨
  (v = some (.int 1) ∧ S2 = va_up S 0 (.int 0) ∧ ∃ i j u w, i < N ∧ j < N ∧ f = nI i ∧ g = nI j ∧ th i = .inl u ∧ th j = .inl w ∧ RwL ct2 8 9 10 (ext u) ∧ RwL ct2 10 11 10 (ext w) ∧ ∀ a, (a < 8 ∨ 11 < a) → ct2 a = ct a)
def ArS (N : Nat) (th : Nat → Th) (f g : Int32) (S : Sc) (ct : Ct) (v : Option Value) (S2 : Sc) (ct2 : Ct) : Prop := ct2 = ct ∧
  ((v = some (.int 0) ∧ ((S2 = va_up S 0 (.int 1) ∧ ¬ (Tr N f ∧ Tr N g)) ∨ (S2 = va_up S 0 (.int 2) ∧ ∃ i j, i < N ∧ j < N ∧ f = nI i ∧ g = nI j ∧ ¬ ((∃ u, th i = .inr u) ∧ ∃ u, th j = .inr u)))) ∨
  (v = some (.int 1) ∧ S2 = va_up S 0 (.int 0) ∧ ∃ i j u w, i < N ∧ j < N ∧ f = nI i ∧ g = nI j ∧ th i = .inr u ∧ th j = .inr w))
theorem no_inl {t : Th} : (¬ ∃ u, t = .inl u) ↔ ∃ z, t = .inr z := by
  cases t with
  | inl u => exact ⟨fun h => absurd ⟨u, rfl⟩ h, fun ⟨z, e⟩ => nomatch e⟩
  | inr z => exact ⟨fun _ => ⟨z, rfl⟩, fun _ ⟨u, e⟩ => nomatch e⟩

def po_X6_are (mo : Nat) (S : Sc) (ct : Ct) (N : Nat) (th : Nat → Th) (as : St3) (f0 g0 : Int32) : Option Value → Sc → Ct → Prop := fun v S2 ct2 => ArF N th f0 g0 S ct v S2 ct2
theorem bkX6_are_0_3 : pb_chk cX6_are 0 [.aload_n 0, .aload_n 0, .iload_n 1] = some 3 := by decide +kernel
theorem dX6_are_3 : decode cX6_are 3 = .ok (.invokevirtual 107, 3) := by decide +kernel
theorem dX6_are_6 : decode cX6_are 6 = .ok (.ifCond .eq 11, 3) := by decide +kernel
theorem bkX6_are_17_42 : pb_chk cX6_are 17 [.iconst 1, .goto 24] = some 42 := by decide +kernel
theorem dX6_are_42 : decode cX6_are 42 = .ok (.putfield 63, 3) := by decide +kernel
theorem bkX6_are_45_46 : pb_chk cX6_are 45 [.aload_n 0] = some 46 := by decide +kernel
theorem dX6_are_46 : decode cX6_are 46 = .ok (.getfield 63, 3) := by decide +kernel
theorem dX6_are_49 : decode cX6_are 49 = .ok (.ifCond .le 5, 3) := by decide +kernel
theorem bkX6_are_52_53 : pb_chk cX6_are 52 [.iconst 0] = some 53 := by decide +kernel
theorem dX6_are_53 : decode cX6_are 53 = .ok (.ireturn, 1) := by decide +kernel
theorem bkX6_are_9_11 : pb_chk cX6_are 9 [.aload_n 0, .iload_n 2] = some 11 := by decide +kernel
theorem dX6_are_11 : decode cX6_are 11 = .ok (.invokevirtual 107, 3) := by decide +kernel
theorem dX6_are_14 : decode cX6_are 14 = .ok (.ifCond .ne 7, 3) := by decide +kernel
theorem bkX6_are_21_23 : pb_chk cX6_are 21 [.aload_n 0, .iload_n 1] = some 23 := by decide +kernel
theorem dX6_are_23 : decode cX6_are 23 = .ok (.invokevirtual 111, 3) := by decide +kernel
theorem dX6_are_26 : decode cX6_are 26 = .ok (.ifCond .eq 11, 3) := by decide +kernel
theorem bkX6_are_37_42 : pb_chk cX6_are 37 [.iconst 2, .goto 4] = some 42 := by decide +kernel
theorem bkX6_are_29_31 : pb_chk cX6_are 29 [.aload_n 0, .iload_n 2] = some 31 := by decide +kernel
theorem dX6_are_31 : decode cX6_are 31 = .ok (.invokevirtual 111, 3) := by decide +kernel
theorem dX6_are_34 : decode cX6_are 34 = .ok (.ifCond .ne 7, 3) := by decide +kernel
theorem bkX6_are_41_42 : pb_chk cX6_are 41 [.iconst 0] = some 42 := by decide +kernel
theorem bkX6_are_54_56 : pb_chk cX6_are 54 [.aload_n 0, .aload_n 0] = some 56 := by decide +kernel
theorem dX6_are_56 : decode cX6_are 56 = .ok (.getfield 33, 3) := by decide +kernel
theorem bkX6_are_59_60 : pb_chk cX6_are 59 [.aload_n 0] = some 60 := by decide +kernel
theorem dX6_are_60 : decode cX6_are 60 = .ok (.getfield 36, 3) := by decide +kernel
theorem bkX6_are_63_64 : pb_chk cX6_are 63 [.iload_n 1] = some 64 := by decide +kernel
theorem dX6_are_64 : decode cX6_are 64 = .ok (.invokevirtual 114, 3) := by decide +kernel
theorem bkX6_are_67_69 : pb_chk cX6_are 67 [.aload_n 0, .aload_n 0] = some 69 := by decide +kernel
theorem dX6_are_69 : decode cX6_are 69 = .ok (.getfield 39, 3) := by decide +kernel
theorem bkX6_are_72_73 : pb_chk cX6_are 72 [.aload_n 0] = some 73 := by decide +kernel
theorem dX6_are_73 : decode cX6_are 73 = .ok (.getfield 42, 3) := by decide +kernel
theorem bkX6_are_76_77 : pb_chk cX6_are 76 [.iload_n 2] = some 77 := by decide +kernel
theorem dX6_are_77 : decode cX6_are 77 = .ok (.invokevirtual 114, 3) := by decide +kernel
theorem bkX6_are_80_81 : pb_chk cX6_are 80 [.iconst 1] = some 81 := by decide +kernel
theorem dX6_are_81 : decode cX6_are 81 = .ok (.ireturn, 1) := by decide +kernel
set_option maxHeartbeats 4000000 in
set_option maxRecDepth 100000 in
theorem c_X6_are (l : Launch) (G : Gm) (mo : Nat) (S : Sc) (ct : Ct) (N : Nat) (th : Nat → Th) (as : St3) (f0 g0 : Int32) (hP : Pst N th as S ct) : Mm l yX6_are cX6_are 3 (some .boolean) (⟨2, 0, 0, 48⟩ : Room) G mo S ct [.ref mo, .int f0, .int g0] (po_X6_are mo S ct N th as f0 g0) := by
  refine of_met (by decide) (Nat.le_of_ble_eq_true rfl) ?_
  intro p e s m below meth c ls B hA hM0 hl
  have hw := Mw.start hM0
  refine pb_blk B.hx B.hb (lv' := [(0, .ref mo), (1, .int f0), (2, .int g0)]) (st' := [.int f0, .ref mo, .ref mo]) hl bkX6_are_0_3 rfl (fun ls hl => ?_)
  refine m_callN B hw (c_X6_isThere l G (fun _ => False) mo S ct N f0 hP.1 hP.2.1) cy_X6_isThere im_X6_isThere se_X6_isThere wd_M_X6_107 hw.1 rfl hl.1 rfl (Nat.le_of_ble_eq_true rfl) ⟨by decide, by decide⟩ ⟨rfl, rfl⟩ ⟨Nat.le_refl _, Nat.le_refl _⟩ dX6_are_3 (fun v hv => ?_)
  obtain ⟨t1, rfl, ht1⟩ := hv
  refine lv_if_eq (tgt := 17) B.hx B.hb dX6_are_6 (by decide) (fun h1 => ?_) (fun h1 => ?_)
  · have y1 : ¬ Tr N f0 := fun q => by rw [ht1.mpr q] at h1; exact absurd h1 (by decide)
    refine pb_blk B.hx B.hb (lv' := [(0, .ref mo), (1, .int f0), (2, .int g0)]) (st' := [.int 1, .ref mo]) hl bkX6_are_17_42 rfl (fun ls hl => ?_)
    refine m_put B hw 0 (by decide) wd_F_X6_63 rfl rfl rfl rfl dX6_are_42 (fun H locs hw => ?_)
    refine pb_blk B.hx B.hb (lv' := [(0, .ref mo), (1, .int f0), (2, .int g0)]) (st' := [.ref mo]) hl bkX6_are_45_46 rfl (fun ls hl => ?_)
    refine m_get B hw 0 (by decide) wd_F_X6_63 (congrArg some (show _ = (.int 1 : Value) from rfl)) dX6_are_46 ?_
    refine lv_if_le (tgt := 54) B.hx B.hb dX6_are_49 (by decide) (fun h => absurd h (by decide)) (fun _ => ?_)
    refine pb_blk B.hx B.hb (lv' := [(0, .ref mo), (1, .int f0), (2, .int g0)]) (st' := [.int 0]) hl bkX6_are_52_53 rfl (fun ls hl => ?_)
    exact m_zret (v := 0) B hw dX6_are_53 rfl (by exact (Or.inl ⟨rfl, rfl, Or.inl ⟨rfl, fun q => y1 q.1⟩⟩)) (Nat.le_of_ble_eq_true rfl) (Nat.le_of_ble_eq_true rfl)
  · obtain ⟨i, hi, rfl⟩ := ht1.mp (ts9 (fun q => h1 ((b2i_0 _).mpr q)))
    refine pb_blk B.hx B.hb (lv' := [(0, .ref mo), (1, .int (nI i)), (2, .int g0)]) (st' := [.int g0, .ref mo, .ref mo]) hl bkX6_are_9_11 rfl (fun ls hl => ?_)
    refine m_callN B hw (c_X6_isThere l G (fun _ => False) mo S ct N g0 hP.1 hP.2.1) cy_X6_isThere im_X6_isThere se_X6_isThere wd_M_X6_107 hw.1 rfl hl.1 rfl (Nat.le_of_ble_eq_true rfl) ⟨by decide, by decide⟩ ⟨rfl, rfl⟩ ⟨Nat.le_refl _, Nat.le_refl _⟩ dX6_are_11 (fun v hv => ?_)
    obtain ⟨t2, rfl, ht2⟩ := hv
    refine lv_if_ne (tgt := 21) B.hx B.hb dX6_are_14 (by decide) (fun h2 => ?_) (fun h2 => ?_)
    · obtain ⟨j, hj, rfl⟩ := ht2.mp (ts9 (fun q => h2 ((b2i_0 _).mpr q)))
      refine pb_blk B.hx B.hb (lv' := [(0, .ref mo), (1, .int (nI i)), (2, .int (nI j))]) (st' := [.int (nI i), .ref mo, .ref mo]) hl bkX6_are_21_23 rfl (fun ls hl => ?_)
      refine m_callN B hw (c_X6_isFormula l G (fun _ => False) mo S ct i (th i) (by have := hP.1; omega) (hP.2.2.1 i hi)) cy_X6_isFormula im_X6_isFormula se_X6_isFormula wd_M_X6_111 hw.1 rfl hl.1 rfl (Nat.le_of_ble_eq_true rfl) ⟨by decide, by decide⟩ ⟨rfl, rfl⟩ ⟨Nat.le_refl _, Nat.le_refl _⟩ dX6_are_23 (fun v hv => ?_)
      obtain ⟨t3, rfl, ht3⟩ := hv
      refine lv_if_eq (tgt := 37) B.hx B.hb dX6_are_26 (by decide) (fun h3 => ?_) (fun h3 => ?_)
      · have y3 : ¬ ∃ u, th i = .inl u := fun q => by rw [ht3.mpr q] at h3; exact absurd h3 (by decide)
        refine pb_blk B.hx B.hb (lv' := [(0, .ref mo), (1, .int (nI i)), (2, .int (nI j))]) (st' := [.int 2, .ref mo]) hl bkX6_are_37_42 rfl (fun ls hl => ?_)
        refine m_put B hw 0 (by decide) wd_F_X6_63 rfl rfl rfl rfl dX6_are_42 (fun H locs hw => ?_)
        refine pb_blk B.hx B.hb (lv' := [(0, .ref mo), (1, .int (nI i)), (2, .int (nI j))]) (st' := [.ref mo]) hl bkX6_are_45_46 rfl (fun ls hl => ?_)
        refine m_get B hw 0 (by decide) wd_F_X6_63 (congrArg some (show _ = (.int 2 : Value) from rfl)) dX6_are_46 ?_
        refine lv_if_le (tgt := 54) B.hx B.hb dX6_are_49 (by decide) (fun h => absurd h (by decide)) (fun _ => ?_)
        refine pb_blk B.hx B.hb (lv' := [(0, .ref mo), (1, .int (nI i)), (2, .int (nI j))]) (st' := [.int 0]) hl bkX6_are_52_53 rfl (fun ls hl => ?_)
        exact m_zret (v := 0) B hw dX6_are_53 rfl (by exact (Or.inl ⟨rfl, rfl, Or.inr ⟨rfl, ⟨i, j, hi, hj, rfl, rfl, fun q => y3 q.1⟩⟩⟩)) (Nat.le_of_ble_eq_true rfl) (Nat.le_of_ble_eq_true rfl)
      · have y3 := ht3.mp (ts9 (fun q => h3 ((b2i_0 _).mpr q)))
        refine pb_blk B.hx B.hb (lv' := [(0, .ref mo), (1, .int (nI i)), (2, .int (nI j))]) (st' := [.int (nI j), .ref mo, .ref mo]) hl bkX6_are_29_31 rfl (fun ls hl => ?_)
        refine m_callN B hw (c_X6_isFormula l G (fun _ => False) mo S ct j (th j) (by have := hP.1; omega) (hP.2.2.1 j hj)) cy_X6_isFormula im_X6_isFormula se_X6_isFormula wd_M_X6_111 hw.1 rfl hl.1 rfl (Nat.le_of_ble_eq_true rfl) ⟨by decide, by decide⟩ ⟨rfl, rfl⟩ ⟨Nat.le_refl _, Nat.le_refl _⟩ dX6_are_31 (fun v hv => ?_)
        obtain ⟨t4, rfl, ht4⟩ := hv
        refine lv_if_ne (tgt := 41) B.hx B.hb dX6_are_34 (by decide) (fun h4 => ?_) (fun h4 => ?_)
        · have y4 := ht4.mp (ts9 (fun q => h4 ((b2i_0 _).mpr q)))
          refine pb_blk B.hx B.hb (lv' := [(0, .ref mo), (1, .int (nI i)), (2, .int (nI j))]) (st' := [.int 0, .ref mo]) hl bkX6_are_41_42 rfl (fun ls hl => ?_)
          refine m_put B hw 0 (by decide) wd_F_X6_63 rfl rfl rfl rfl dX6_are_42 (fun H locs hw => ?_)
          refine pb_blk B.hx B.hb (lv' := [(0, .ref mo), (1, .int (nI i)), (2, .int (nI j))]) (st' := [.ref mo]) hl bkX6_are_45_46 rfl (fun ls hl => ?_)
          refine m_get B hw 0 (by decide) wd_F_X6_63 (congrArg some (show _ = (.int 0 : Value) from rfl)) dX6_are_46 ?_
          refine lv_if_le (tgt := 54) B.hx B.hb dX6_are_49 (by decide) (fun _ => ?_) (fun h => absurd h (by decide))
          obtain ⟨u, hu⟩ := y3
          obtain ⟨u2, hu2⟩ := y4
          have hN := hP.1
          have fi := hP.2.2.1 i hi
          rw [hu] at fi
          have fj := hP.2.2.1 j hj
          rw [hu2] at fj
          refine pb_blk B.hx B.hb (lv' := [(0, .ref mo), (1, .int (nI i)), (2, .int (nI j))]) (st' := [.ref mo, .ref mo]) hl bkX6_are_54_56 rfl (fun ls hl => ?_)
          refine m_get B hw 9 (by decide) wd_F_X6_33 rfl dX6_are_56 ?_
          refine pb_blk B.hx B.hb (lv' := [(0, .ref mo), (1, .int (nI i)), (2, .int (nI j))]) (st' := [.ref mo, .ref (mo + 8), .ref mo]) hl bkX6_are_59_60 rfl (fun ls hl => ?_)
          refine m_get B hw 10 (by decide) wd_F_X6_36 rfl dX6_are_60 ?_
          refine pb_blk B.hx B.hb (lv' := [(0, .ref mo), (1, .int (nI i)), (2, .int (nI j))]) (st' := [.int (nI i), .ref (mo + 9), .ref (mo + 8), .ref mo]) hl bkX6_are_63_64 rfl (fun ls hl => ?_)
          refine m_callV B hw (c_X6_load l G mo _ _ 8 9 i u (by decide) (by decide) (by decide) (by decide) (by decide) (by omega) fi) cy_X6_load im_X6_load se_X6_load wd_M_X6_114 rfl hl.1 rfl (Nat.le_of_ble_eq_true rfl) ⟨by decide, by decide⟩ ⟨rfl, rfl⟩ ⟨Nat.le_refl _, Nat.le_refl _⟩ dX6_are_64 (fun v H locs Sa cta hw_9 hv => ?_)
          obtain ⟨rfl, rfl, r1, o1⟩ := hv
          have hw := hw_9
          have fj2 : FoA cta j u2 := by unfold FoA; rw [o1 1 (by decide) (by decide), o1 2 (by decide) (by decide), o1 3 (by decide) (by decide)]; exact fj
          refine pb_blk B.hx B.hb (lv' := [(0, .ref mo), (1, .int (nI i)), (2, .int (nI j))]) (st' := [.ref mo, .ref mo]) hl bkX6_are_67_69 rfl (fun ls hl => ?_)
          refine m_get B hw 11 (by decide) wd_F_X6_39 rfl dX6_are_69 ?_
          refine pb_blk B.hx B.hb (lv' := [(0, .ref mo), (1, .int (nI i)), (2, .int (nI j))]) (st' := [.ref mo, .ref (mo + 10), .ref mo]) hl bkX6_are_72_73 rfl (fun ls hl => ?_)
          refine m_get B hw 12 (by decide) wd_F_X6_42 rfl dX6_are_73 ?_
          refine pb_blk B.hx B.hb (lv' := [(0, .ref mo), (1, .int (nI i)), (2, .int (nI j))]) (st' := [.int (nI j), .ref (mo + 11), .ref (mo + 10), .ref mo]) hl bkX6_are_76_77 rfl (fun ls hl => ?_)
          refine m_callV B hw (c_X6_load l G mo _ _ 10 11 j u2 (by decide) (by decide) (by decide) (by decide) (by decide) (by omega) fj2) cy_X6_load im_X6_load se_X6_load wd_M_X6_114 rfl hl.1 rfl (Nat.le_of_ble_eq_true rfl) ⟨by decide, by decide⟩ ⟨rfl, rfl⟩ ⟨Nat.le_refl _, Nat.le_refl _⟩ dX6_are_77 (fun v H locs Sb ctb hw_10 hv => ?_)
          obtain ⟨rfl, rfl, r2, o2⟩ := hv
          have hw := hw_10
          refine pb_blk B.hx B.hb (lv' := [(0, .ref mo), (1, .int (nI i)), (2, .int (nI j))]) (st' := [.int 1]) hl bkX6_are_80_81 rfl (fun ls hl => ?_)
          exact m_zret (v := 1) B hw dX6_are_81 rfl (by exact (Or.inr ⟨rfl, rfl, i, j, u, u2, hi, hj, rfl, rfl, hu, hu2, r1.cg (o2 8 (by decide) (by decide)) (o2 9 (by decide) (by decide)), r2, fun a ha => (o2 a (by omega) (by omega)).trans (o1 a (by omega) (by omega))⟩)) (Nat.le_of_ble_eq_true rfl) (Nat.le_of_ble_eq_true rfl)
        · have y4 : ¬ ∃ u, th j = .inl u := fun q => by rw [ht4.mpr q] at h4; exact absurd h4 (by decide)
          refine pb_blk B.hx B.hb (lv' := [(0, .ref mo), (1, .int (nI i)), (2, .int (nI j))]) (st' := [.int 2, .ref mo]) hl bkX6_are_37_42 rfl (fun ls hl => ?_)
          refine m_put B hw 0 (by decide) wd_F_X6_63 rfl rfl rfl rfl dX6_are_42 (fun H locs hw => ?_)
          refine pb_blk B.hx B.hb (lv' := [(0, .ref mo), (1, .int (nI i)), (2, .int (nI j))]) (st' := [.ref mo]) hl bkX6_are_45_46 rfl (fun ls hl => ?_)
          refine m_get B hw 0 (by decide) wd_F_X6_63 (congrArg some (show _ = (.int 2 : Value) from rfl)) dX6_are_46 ?_
          refine lv_if_le (tgt := 54) B.hx B.hb dX6_are_49 (by decide) (fun h => absurd h (by decide)) (fun _ => ?_)
          refine pb_blk B.hx B.hb (lv' := [(0, .ref mo), (1, .int (nI i)), (2, .int (nI j))]) (st' := [.int 0]) hl bkX6_are_52_53 rfl (fun ls hl => ?_)
          exact m_zret (v := 0) B hw dX6_are_53 rfl (by exact (Or.inl ⟨rfl, rfl, Or.inr ⟨rfl, ⟨i, j, hi, hj, rfl, rfl, fun q => y4 q.2⟩⟩⟩)) (Nat.le_of_ble_eq_true rfl) (Nat.le_of_ble_eq_true rfl)
    · have y2 : ¬ Tr N g0 := fun q => by rw [ht2.mpr q] at h2; exact absurd h2 (by decide)
      refine pb_blk B.hx B.hb (lv' := [(0, .ref mo), (1, .int (nI i)), (2, .int g0)]) (st' := [.int 1, .ref mo]) hl bkX6_are_17_42 rfl (fun ls hl => ?_)
      refine m_put B hw 0 (by decide) wd_F_X6_63 rfl rfl rfl rfl dX6_are_42 (fun H locs hw => ?_)
      refine pb_blk B.hx B.hb (lv' := [(0, .ref mo), (1, .int (nI i)), (2, .int g0)]) (st' := [.ref mo]) hl bkX6_are_45_46 rfl (fun ls hl => ?_)
      refine m_get B hw 0 (by decide) wd_F_X6_63 (congrArg some (show _ = (.int 1 : Value) from rfl)) dX6_are_46 ?_
      refine lv_if_le (tgt := 54) B.hx B.hb dX6_are_49 (by decide) (fun h => absurd h (by decide)) (fun _ => ?_)
      refine pb_blk B.hx B.hb (lv' := [(0, .ref mo), (1, .int (nI i)), (2, .int g0)]) (st' := [.int 0]) hl bkX6_are_52_53 rfl (fun ls hl => ?_)
      exact m_zret (v := 0) B hw dX6_are_53 rfl (by exact (Or.inl ⟨rfl, rfl, Or.inl ⟨rfl, fun q => y2 q.2⟩⟩)) (Nat.le_of_ble_eq_true rfl) (Nat.le_of_ble_eq_true rfl)

def po_X6_areSets (mo : Nat) (S : Sc) (ct : Ct) (N : Nat) (th : Nat → Th) (as : St3) (f0 g0 : Int32) : Option Value → Sc → Ct → Prop := fun v S2 ct2 => ArS N th f0 g0 S ct v S2 ct2
theorem bkX6_areSets_0_3 : pb_chk cX6_areSets 0 [.aload_n 0, .aload_n 0, .iload_n 1] = some 3 := by decide +kernel
theorem dX6_areSets_3 : decode cX6_areSets 3 = .ok (.invokevirtual 107, 3) := by decide +kernel
theorem dX6_areSets_6 : decode cX6_areSets 6 = .ok (.ifCond .eq 11, 3) := by decide +kernel
theorem bkX6_areSets_17_42 : pb_chk cX6_areSets 17 [.iconst 1, .goto 24] = some 42 := by decide +kernel
theorem dX6_areSets_42 : decode cX6_areSets 42 = .ok (.putfield 63, 3) := by decide +kernel
theorem bkX6_areSets_45_46 : pb_chk cX6_areSets 45 [.aload_n 0] = some 46 := by decide +kernel
theorem dX6_areSets_46 : decode cX6_areSets 46 = .ok (.getfield 63, 3) := by decide +kernel
theorem dX6_areSets_49 : decode cX6_areSets 49 = .ok (.ifCond .ne 7, 3) := by decide +kernel
theorem bkX6_areSets_56_57 : pb_chk cX6_areSets 56 [.iconst 0] = some 57 := by decide +kernel
theorem dX6_areSets_57 : decode cX6_areSets 57 = .ok (.ireturn, 1) := by decide +kernel
theorem bkX6_areSets_9_11 : pb_chk cX6_areSets 9 [.aload_n 0, .iload_n 2] = some 11 := by decide +kernel
theorem dX6_areSets_11 : decode cX6_areSets 11 = .ok (.invokevirtual 107, 3) := by decide +kernel
theorem dX6_areSets_14 : decode cX6_areSets 14 = .ok (.ifCond .ne 7, 3) := by decide +kernel
theorem bkX6_areSets_21_23 : pb_chk cX6_areSets 21 [.aload_n 0, .iload_n 1] = some 23 := by decide +kernel
theorem dX6_areSets_23 : decode cX6_areSets 23 = .ok (.invokevirtual 111, 3) := by decide +kernel
theorem dX6_areSets_26 : decode cX6_areSets 26 = .ok (.ifCond .ne 11, 3) := by decide +kernel
theorem bkX6_areSets_37_42 : pb_chk cX6_areSets 37 [.iconst 2, .goto 4] = some 42 := by decide +kernel
theorem bkX6_areSets_29_31 : pb_chk cX6_areSets 29 [.aload_n 0, .iload_n 2] = some 31 := by decide +kernel
theorem dX6_areSets_31 : decode cX6_areSets 31 = .ok (.invokevirtual 111, 3) := by decide +kernel
theorem dX6_areSets_34 : decode cX6_areSets 34 = .ok (.ifCond .eq 7, 3) := by decide +kernel
theorem bkX6_areSets_41_42 : pb_chk cX6_areSets 41 [.iconst 0] = some 42 := by decide +kernel
theorem bkX6_areSets_52_57 : pb_chk cX6_areSets 52 [.iconst 1, .goto 4] = some 57 := by decide +kernel
set_option maxHeartbeats 4000000 in
set_option maxRecDepth 100000 in
theorem c_X6_areSets (l : Launch) (G : Gm) (mo : Nat) (S : Sc) (ct : Ct) (N : Nat) (th : Nat → Th) (as : St3) (f0 g0 : Int32) (hP : Pst N th as S ct) : Mm l yX6_areSets cX6_areSets 3 (some .boolean) (⟨2, 0, 0, 48⟩ : Room) G mo S ct [.ref mo, .int f0, .int g0] (po_X6_areSets mo S ct N th as f0 g0) := by
  refine of_met (by decide) (Nat.le_of_ble_eq_true rfl) ?_
  intro p e s m below meth c ls B hA hM0 hl
  have hw := Mw.start hM0
  refine pb_blk B.hx B.hb (lv' := [(0, .ref mo), (1, .int f0), (2, .int g0)]) (st' := [.int f0, .ref mo, .ref mo]) hl bkX6_areSets_0_3 rfl (fun ls hl => ?_)
  refine m_callN B hw (c_X6_isThere l G (fun _ => False) mo S ct N f0 hP.1 hP.2.1) cy_X6_isThere im_X6_isThere se_X6_isThere wd_M_X6_107 hw.1 rfl hl.1 rfl (Nat.le_of_ble_eq_true rfl) ⟨by decide, by decide⟩ ⟨rfl, rfl⟩ ⟨Nat.le_refl _, Nat.le_refl _⟩ dX6_areSets_3 (fun v hv => ?_)
  obtain ⟨t1, rfl, ht1⟩ := hv
  refine lv_if_eq (tgt := 17) B.hx B.hb dX6_areSets_6 (by decide) (fun h1 => ?_) (fun h1 => ?_)
  · have y1 : ¬ Tr N f0 := fun q => by rw [ht1.mpr q] at h1; exact absurd h1 (by decide)
    refine pb_blk B.hx B.hb (lv' := [(0, .ref mo), (1, .int f0), (2, .int g0)]) (st' := [.int 1, .ref mo]) hl bkX6_areSets_17_42 rfl (fun ls hl => ?_)
    refine m_put B hw 0 (by decide) wd_F_X6_63 rfl rfl rfl rfl dX6_areSets_42 (fun H locs hw => ?_)
    refine pb_blk B.hx B.hb (lv' := [(0, .ref mo), (1, .int f0), (2, .int g0)]) (st' := [.ref mo]) hl bkX6_areSets_45_46 rfl (fun ls hl => ?_)
    refine m_get B hw 0 (by decide) wd_F_X6_63 (congrArg some (show _ = (.int 1 : Value) from rfl)) dX6_areSets_46 ?_
    refine lv_if_ne (tgt := 56) B.hx B.hb dX6_areSets_49 (by decide) (fun _ => ?_) (fun h => absurd h (by decide))
    refine pb_blk B.hx B.hb (lv' := [(0, .ref mo), (1, .int f0), (2, .int g0)]) (st' := [.int 0]) hl bkX6_areSets_56_57 rfl (fun ls hl => ?_)
    exact m_zret (v := 0) B hw dX6_areSets_57 rfl (by exact ⟨rfl, Or.inl ⟨rfl, Or.inl ⟨rfl, fun q => y1 q.1⟩⟩⟩) (Nat.le_of_ble_eq_true rfl) (Nat.le_of_ble_eq_true rfl)
  · obtain ⟨i, hi, rfl⟩ := ht1.mp (ts9 (fun q => h1 ((b2i_0 _).mpr q)))
    refine pb_blk B.hx B.hb (lv' := [(0, .ref mo), (1, .int (nI i)), (2, .int g0)]) (st' := [.int g0, .ref mo, .ref mo]) hl bkX6_areSets_9_11 rfl (fun ls hl => ?_)
    refine m_callN B hw (c_X6_isThere l G (fun _ => False) mo S ct N g0 hP.1 hP.2.1) cy_X6_isThere im_X6_isThere se_X6_isThere wd_M_X6_107 hw.1 rfl hl.1 rfl (Nat.le_of_ble_eq_true rfl) ⟨by decide, by decide⟩ ⟨rfl, rfl⟩ ⟨Nat.le_refl _, Nat.le_refl _⟩ dX6_areSets_11 (fun v hv => ?_)
    obtain ⟨t2, rfl, ht2⟩ := hv
    refine lv_if_ne (tgt := 21) B.hx B.hb dX6_areSets_14 (by decide) (fun h2 => ?_) (fun h2 => ?_)
    · obtain ⟨j, hj, rfl⟩ := ht2.mp (ts9 (fun q => h2 ((b2i_0 _).mpr q)))
      refine pb_blk B.hx B.hb (lv' := [(0, .ref mo), (1, .int (nI i)), (2, .int (nI j))]) (st' := [.int (nI i), .ref mo, .ref mo]) hl bkX6_areSets_21_23 rfl (fun ls hl => ?_)
      refine m_callN B hw (c_X6_isFormula l G (fun _ => False) mo S ct i (th i) (by have := hP.1; omega) (hP.2.2.1 i hi)) cy_X6_isFormula im_X6_isFormula se_X6_isFormula wd_M_X6_111 hw.1 rfl hl.1 rfl (Nat.le_of_ble_eq_true rfl) ⟨by decide, by decide⟩ ⟨rfl, rfl⟩ ⟨Nat.le_refl _, Nat.le_refl _⟩ dX6_areSets_23 (fun v hv => ?_)
      obtain ⟨t3, rfl, ht3⟩ := hv
      refine lv_if_ne (tgt := 37) B.hx B.hb dX6_areSets_26 (by decide) (fun h3 => ?_) (fun h3 => ?_)
      · have y3 := ht3.mp (ts9 (fun q => h3 ((b2i_0 _).mpr q)))
        refine pb_blk B.hx B.hb (lv' := [(0, .ref mo), (1, .int (nI i)), (2, .int (nI j))]) (st' := [.int 2, .ref mo]) hl bkX6_areSets_37_42 rfl (fun ls hl => ?_)
        refine m_put B hw 0 (by decide) wd_F_X6_63 rfl rfl rfl rfl dX6_areSets_42 (fun H locs hw => ?_)
        refine pb_blk B.hx B.hb (lv' := [(0, .ref mo), (1, .int (nI i)), (2, .int (nI j))]) (st' := [.ref mo]) hl bkX6_areSets_45_46 rfl (fun ls hl => ?_)
        refine m_get B hw 0 (by decide) wd_F_X6_63 (congrArg some (show _ = (.int 2 : Value) from rfl)) dX6_areSets_46 ?_
        refine lv_if_ne (tgt := 56) B.hx B.hb dX6_areSets_49 (by decide) (fun _ => ?_) (fun h => absurd h (by decide))
        refine pb_blk B.hx B.hb (lv' := [(0, .ref mo), (1, .int (nI i)), (2, .int (nI j))]) (st' := [.int 0]) hl bkX6_areSets_56_57 rfl (fun ls hl => ?_)
        exact m_zret (v := 0) B hw dX6_areSets_57 rfl (by exact ⟨rfl, Or.inl ⟨rfl, Or.inr ⟨rfl, ⟨i, j, hi, hj, rfl, rfl, fun q => absurd y3 (no_inl.mpr q.1)⟩⟩⟩⟩) (Nat.le_of_ble_eq_true rfl) (Nat.le_of_ble_eq_true rfl)
      · have y3 : ¬ ∃ u, th i = .inl u := fun q => by rw [ht3.mpr q] at h3; exact absurd h3 (by decide)
        refine pb_blk B.hx B.hb (lv' := [(0, .ref mo), (1, .int (nI i)), (2, .int (nI j))]) (st' := [.int (nI j), .ref mo, .ref mo]) hl bkX6_areSets_29_31 rfl (fun ls hl => ?_)
        refine m_callN B hw (c_X6_isFormula l G (fun _ => False) mo S ct j (th j) (by have := hP.1; omega) (hP.2.2.1 j hj)) cy_X6_isFormula im_X6_isFormula se_X6_isFormula wd_M_X6_111 hw.1 rfl hl.1 rfl (Nat.le_of_ble_eq_true rfl) ⟨by decide, by decide⟩ ⟨rfl, rfl⟩ ⟨Nat.le_refl _, Nat.le_refl _⟩ dX6_areSets_31 (fun v hv => ?_)
        obtain ⟨t4, rfl, ht4⟩ := hv
        refine lv_if_eq (tgt := 41) B.hx B.hb dX6_areSets_34 (by decide) (fun h4 => ?_) (fun h4 => ?_)
        · have y4 : ¬ ∃ u, th j = .inl u := fun q => by rw [ht4.mpr q] at h4; exact absurd h4 (by decide)
          refine pb_blk B.hx B.hb (lv' := [(0, .ref mo), (1, .int (nI i)), (2, .int (nI j))]) (st' := [.int 0, .ref mo]) hl bkX6_areSets_41_42 rfl (fun ls hl => ?_)
          refine m_put B hw 0 (by decide) wd_F_X6_63 rfl rfl rfl rfl dX6_areSets_42 (fun H locs hw => ?_)
          refine pb_blk B.hx B.hb (lv' := [(0, .ref mo), (1, .int (nI i)), (2, .int (nI j))]) (st' := [.ref mo]) hl bkX6_areSets_45_46 rfl (fun ls hl => ?_)
          refine m_get B hw 0 (by decide) wd_F_X6_63 (congrArg some (show _ = (.int 0 : Value) from rfl)) dX6_areSets_46 ?_
          refine lv_if_ne (tgt := 56) B.hx B.hb dX6_areSets_49 (by decide) (fun h => absurd h (by decide)) (fun _ => ?_)
          obtain ⟨u, hu⟩ := no_inl.mp y3
          obtain ⟨u2, hu2⟩ := no_inl.mp y4
          refine pb_blk B.hx B.hb (lv' := [(0, .ref mo), (1, .int (nI i)), (2, .int (nI j))]) (st' := [.int 1]) hl bkX6_areSets_52_57 rfl (fun ls hl => ?_)
          exact m_zret (v := 1) B hw dX6_areSets_57 rfl (by exact ⟨rfl, Or.inr ⟨rfl, rfl, i, j, u, u2, hi, hj, rfl, rfl, hu, hu2⟩⟩) (Nat.le_of_ble_eq_true rfl) (Nat.le_of_ble_eq_true rfl)
        · have y4 := ht4.mp (ts9 (fun q => h4 ((b2i_0 _).mpr q)))
          refine pb_blk B.hx B.hb (lv' := [(0, .ref mo), (1, .int (nI i)), (2, .int (nI j))]) (st' := [.int 2, .ref mo]) hl bkX6_areSets_37_42 rfl (fun ls hl => ?_)
          refine m_put B hw 0 (by decide) wd_F_X6_63 rfl rfl rfl rfl dX6_areSets_42 (fun H locs hw => ?_)
          refine pb_blk B.hx B.hb (lv' := [(0, .ref mo), (1, .int (nI i)), (2, .int (nI j))]) (st' := [.ref mo]) hl bkX6_areSets_45_46 rfl (fun ls hl => ?_)
          refine m_get B hw 0 (by decide) wd_F_X6_63 (congrArg some (show _ = (.int 2 : Value) from rfl)) dX6_areSets_46 ?_
          refine lv_if_ne (tgt := 56) B.hx B.hb dX6_areSets_49 (by decide) (fun _ => ?_) (fun h => absurd h (by decide))
          refine pb_blk B.hx B.hb (lv' := [(0, .ref mo), (1, .int (nI i)), (2, .int (nI j))]) (st' := [.int 0]) hl bkX6_areSets_56_57 rfl (fun ls hl => ?_)
          exact m_zret (v := 0) B hw dX6_areSets_57 rfl (by exact ⟨rfl, Or.inl ⟨rfl, Or.inr ⟨rfl, ⟨i, j, hi, hj, rfl, rfl, fun q => absurd y4 (no_inl.mpr q.2)⟩⟩⟩⟩) (Nat.le_of_ble_eq_true rfl) (Nat.le_of_ble_eq_true rfl)
    · have y2 : ¬ Tr N g0 := fun q => by rw [ht2.mpr q] at h2; exact absurd h2 (by decide)
      refine pb_blk B.hx B.hb (lv' := [(0, .ref mo), (1, .int (nI i)), (2, .int g0)]) (st' := [.int 1, .ref mo]) hl bkX6_areSets_17_42 rfl (fun ls hl => ?_)
      refine m_put B hw 0 (by decide) wd_F_X6_63 rfl rfl rfl rfl dX6_areSets_42 (fun H locs hw => ?_)
      refine pb_blk B.hx B.hb (lv' := [(0, .ref mo), (1, .int (nI i)), (2, .int g0)]) (st' := [.ref mo]) hl bkX6_areSets_45_46 rfl (fun ls hl => ?_)
      refine m_get B hw 0 (by decide) wd_F_X6_63 (congrArg some (show _ = (.int 1 : Value) from rfl)) dX6_areSets_46 ?_
      refine lv_if_ne (tgt := 56) B.hx B.hb dX6_areSets_49 (by decide) (fun _ => ?_) (fun h => absurd h (by decide))
      refine pb_blk B.hx B.hb (lv' := [(0, .ref mo), (1, .int (nI i)), (2, .int g0)]) (st' := [.int 0]) hl bkX6_areSets_56_57 rfl (fun ls hl => ?_)
      exact m_zret (v := 0) B hw dX6_areSets_57 rfl (by exact ⟨rfl, Or.inl ⟨rfl, Or.inl ⟨rfl, fun q => y2 q.2⟩⟩⟩) (Nat.le_of_ble_eq_true rfl) (Nat.le_of_ble_eq_true rfl)

