theorem dg_mul {u v : Nat → Rat} : (dgI u ≤ 0 ∨ dgI v ≤ 0) → dgI u * dgI v ≤ 3 := by
  rcases dgI_5 u with e | e | e | e | e <;> rcases dgI_5 v with f | f | f | f | f <;> rw [e, f] <;> decide

def po_X6_put (mo : Nat) (S : Sc) (ct : Ct) (N : Nat) (th : Nat → Th) (as : St3) (f0 g0 : Int32) : Option Value → Sc → Ct → Prop := fun v S2 ct2 => MkK N th as (R_put N th f0 g0) v S2 ct2
theorem bkX6_put_0_3 : pb_chk cX6_put 0 [.aload_n 0, .iload_n 1, .iload_n 2] = some 3 := by decide +kernel
theorem dX6_put_3 : decode cX6_put 3 = .ok (.invokevirtual 118, 3) := by decide +kernel
theorem dX6_put_6 : decode cX6_put 6 = .ok (.ifCond .ne 5, 3) := by decide +kernel
theorem bkX6_put_9_10 : pb_chk cX6_put 9 [.iconst 0] = some 10 := by decide +kernel
theorem dX6_put_10 : decode cX6_put 10 = .ok (.ireturn, 1) := by decide +kernel
theorem bkX6_put_11_12 : pb_chk cX6_put 11 [.aload_n 0] = some 12 := by decide +kernel
theorem dX6_put_12 : decode cX6_put 12 = .ok (.getfield 33, 3) := by decide +kernel
theorem dX6_put_15 : decode cX6_put 15 = .ok (.invokestatic 89, 3) := by decide +kernel
theorem bkX6_put_18_20 : pb_chk cX6_put 18 [.istore_n 3, .iload_n 3] = some 20 := by decide +kernel
theorem dX6_put_20 : decode cX6_put 20 = .ok (.ifCond .le 32, 3) := by decide +kernel
theorem bkX6_put_52_53 : pb_chk cX6_put 52 [.aload_n 0] = some 53 := by decide +kernel
theorem dX6_put_53 : decode cX6_put 53 = .ok (.getfield 82, 3) := by decide +kernel
theorem bkX6_put_56_58 : pb_chk cX6_put 56 [.bipush 80] = some 58 := by decide +kernel
theorem dX6_put_58 : decode cX6_put 58 = .ok (.if_icmp .ne 9, 3) := by decide +kernel
theorem bkX6_put_67_68 : pb_chk cX6_put 67 [.aload_n 0] = some 68 := by decide +kernel
theorem dX6_put_68 : decode cX6_put 68 = .ok (.invokevirtual 101, 3) := by decide +kernel
theorem bkX6_put_71_74 : pb_chk cX6_put 71 [.iconst 3, .istore 4] = some 74 := by decide +kernel
theorem bkX6_put_61_63 : pb_chk cX6_put 61 [.aload_n 0, .iconst 3] = some 63 := by decide +kernel
theorem dX6_put_63 : decode cX6_put 63 = .ok (.invokevirtual 97, 3) := by decide +kernel
theorem dX6_put_66 : decode cX6_put 66 = .ok (.ireturn, 1) := by decide +kernel
theorem bkX6_put_23_24 : pb_chk cX6_put 23 [.aload_n 0] = some 24 := by decide +kernel
theorem dX6_put_24 : decode cX6_put 24 = .ok (.getfield 39, 3) := by decide +kernel
theorem dX6_put_27 : decode cX6_put 27 = .ok (.invokestatic 89, 3) := by decide +kernel
theorem dX6_put_30 : decode cX6_put 30 = .ok (.ifCond .le 22, 3) := by decide +kernel
theorem bkX6_put_33_35 : pb_chk cX6_put 33 [.iload_n 3, .aload_n 0] = some 35 := by decide +kernel
theorem dX6_put_35 : decode cX6_put 35 = .ok (.getfield 39, 3) := by decide +kernel
theorem dX6_put_38 : decode cX6_put 38 = .ok (.invokestatic 89, 3) := by decide +kernel
theorem bkX6_put_41_43 : pb_chk cX6_put 41 [.imul, .iconst 3] = some 43 := by decide +kernel
theorem dX6_put_43 : decode cX6_put 43 = .ok (.if_icmp .le 9, 3) := by decide +kernel
theorem bkX6_put_46_48 : pb_chk cX6_put 46 [.aload_n 0, .iconst 3] = some 48 := by decide +kernel
theorem dX6_put_48 : decode cX6_put 48 = .ok (.invokevirtual 97, 3) := by decide +kernel
theorem dX6_put_51 : decode cX6_put 51 = .ok (.ireturn, 1) := by decide +kernel
theorem bkX6_put_74_76 : pb_chk cX6_put 74 [.iload 4] = some 76 := by decide +kernel
theorem dX6_put_76 : decode cX6_put 76 = .ok (.ifCond .lt 71, 3) := by decide +kernel
theorem bkX6_put_147_149 : pb_chk cX6_put 147 [.aload_n 0, .iconst 3] = some 149 := by decide +kernel
theorem dX6_put_149 : decode cX6_put 149 = .ok (.invokevirtual 104, 3) := by decide +kernel
theorem dX6_put_152 : decode cX6_put 152 = .ok (.ireturn, 1) := by decide +kernel
theorem bkX6_put_79_80 : pb_chk cX6_put 79 [.aload_n 0] = some 80 := by decide +kernel
theorem dX6_put_80 : decode cX6_put 80 = .ok (.invokevirtual 135, 3) := by decide +kernel
theorem bkX6_put_83_85 : pb_chk cX6_put 83 [.aload_n 0, .aload_n 0] = some 85 := by decide +kernel
theorem dX6_put_85 : decode cX6_put 85 = .ok (.getfield 33, 3) := by decide +kernel
theorem bkX6_put_88_89 : pb_chk cX6_put 88 [.iconst 0] = some 89 := by decide +kernel
theorem dX6_put_89 : decode cX6_put 89 = .ok (.laload, 1) := by decide +kernel
theorem bkX6_put_90_91 : pb_chk cX6_put 90 [.aload_n 0] = some 91 := by decide +kernel
theorem dX6_put_91 : decode cX6_put 91 = .ok (.getfield 36, 3) := by decide +kernel
theorem bkX6_put_94_95 : pb_chk cX6_put 94 [.iconst 0] = some 95 := by decide +kernel
theorem dX6_put_95 : decode cX6_put 95 = .ok (.laload, 1) := by decide +kernel
theorem bkX6_put_96_97 : pb_chk cX6_put 96 [.aload_n 0] = some 97 := by decide +kernel
theorem dX6_put_97 : decode cX6_put 97 = .ok (.getfield 13, 3) := by decide +kernel
theorem bkX6_put_100_106 : pb_chk cX6_put 100 [.iconst 4, .iload_n 1, .imul, .iload 4, .iadd] = some 106 := by decide +kernel
theorem dX6_put_106 : decode cX6_put 106 = .ok (.laload, 1) := by decide +kernel
theorem bkX6_put_107_108 : pb_chk cX6_put 107 [.aload_n 0] = some 108 := by decide +kernel
theorem dX6_put_108 : decode cX6_put 108 = .ok (.getfield 17, 3) := by decide +kernel
theorem bkX6_put_111_117 : pb_chk cX6_put 111 [.iconst 4, .iload_n 1, .imul, .iload 4, .iadd] = some 117 := by decide +kernel
theorem dX6_put_117 : decode cX6_put 117 = .ok (.laload, 1) := by decide +kernel
theorem dX6_put_118 : decode cX6_put 118 = .ok (.invokevirtual 122, 3) := by decide +kernel
theorem bkX6_put_121_122 : pb_chk cX6_put 121 [.aload_n 0] = some 122 := by decide +kernel
theorem dX6_put_122 : decode cX6_put 122 = .ok (.getfield 33, 3) := by decide +kernel
theorem bkX6_put_125_127 : pb_chk cX6_put 125 [.iconst 0, .aload_n 0] = some 127 := by decide +kernel
theorem dX6_put_127 : decode cX6_put 127 = .ok (.getfield 71, 3) := by decide +kernel
theorem dX6_put_130 : decode cX6_put 130 = .ok (.lastore, 1) := by decide +kernel
theorem bkX6_put_131_132 : pb_chk cX6_put 131 [.aload_n 0] = some 132 := by decide +kernel
theorem dX6_put_132 : decode cX6_put 132 = .ok (.getfield 36, 3) := by decide +kernel
theorem bkX6_put_135_137 : pb_chk cX6_put 135 [.iconst 0, .aload_n 0] = some 137 := by decide +kernel
theorem dX6_put_137 : decode cX6_put 137 = .ok (.getfield 75, 3) := by decide +kernel
theorem dX6_put_140 : decode cX6_put 140 = .ok (.lastore, 1) := by decide +kernel
theorem bkX6_put_141_74 : pb_chk cX6_put 141 [.iinc 4 (-1), .goto (-70)] = some 74 := by decide +kernel
set_option maxHeartbeats 4000000 in
set_option maxRecDepth 100000 in
theorem c_X6_put (l : Launch) (G : Gm) (mo : Nat) (S : Sc) (ct : Ct) (N : Nat) (th : Nat → Th) (as : St3) (f0 g0 : Int32) (hP : Pst N th as S ct) (hB : Bds N th as) (hm : Bdm N th) : Mm l yX6_put cX6_put 5 (some .int) (⟨4, 0, 0, 110⟩ : Room) G mo S ct [.ref mo, .int f0, .int g0] (po_X6_put mo S ct N th as f0 g0) := by
  refine of_met (by decide) (Nat.le_of_ble_eq_true rfl) ?_
  intro p e s m below meth c ls B hA hM0 hl
  have hw := Mw.start hM0
  have loop : ∀ (i j : Nat) (u u2 : Nat → Rat), i < N → j < N → f0 = nI i → g0 = nI j → th i = .inl u → th j = .inl u2 → dgI u * dgI u2 ≤ 3 → P10 u u2 → ∀ (k : Nat) (H : Heap) (locs : List Loc) (S1 : Sc) (ct1 : Ct) (ls : Array Slot), k ≤ 4 → Mw G mo s.heap H locs S1 ct1 → Pst N th as S1 ct1 → RwL ct1 8 9 10 (hq u u2 (4 - k)) → RwL ct1 10 11 10 (ext u2) → lv_has ls 5 [(4, .int (jm k)), (0, .ref mo), (1, .int f0)] → W p l e (⟨4, 0, 0, 110⟩ : Room) s m ([.ref mo, .int f0, .int g0] : List Value).toArray below meth c H locs 0 0 (MQ below (Qm G mo (po_X6_put mo S ct N th as f0 g0)) ([.ref mo, .int f0, .int g0] : List Value).toArray s (⟨4, 0, 0, 110⟩ : Room).cells (⟨4, 0, 0, 110⟩ : Room).slots (FM mo)) (F0 m 74 ls []) := by
    intro i j u u2 hi hj ei ej hu hu2 hC hp10 k
    induction k with
    | zero =>
      intro H locs S1 ct1 ls hk hw hP1 ra rc hl
      refine pb_blk B.hx B.hb (lv' := [(4, .int (-1)), (0, .ref mo), (1, .int f0)]) (st' := [.int (-1)]) hl bkX6_put_74_76 rfl (fun ls hl => ?_)
      refine lv_if_lt (tgt := 147) B.hx B.hb dX6_put_76 (by decide) (fun h1 => ?_) (fun h1 => ?_)
      · refine pb_blk B.hx B.hb (lv' := [(4, .int (-1)), (0, .ref mo), (1, .int f0)]) (st' := [.int 3, .ref mo]) hl bkX6_put_147_149 rfl (fun ls hl => ?_)
        rw [show (3 : Int32) = nI 3 from rfl]
        refine m_callV B hw (c_X6_keep l G mo S1 ct1 N th as 3 (hq u u2 4) hP1 ra) cy_X6_keep im_X6_keep se_X6_keep wd_M_X6_104 rfl hl.1 rfl (Nat.le_of_ble_eq_true rfl) ⟨by decide, by decide⟩ ⟨rfl, rfl⟩ ⟨Nat.le_refl _, Nat.le_refl _⟩ dX6_put_149 (fun v H locs Sd ctd hw_49 hv => ?_)
        have hk := kp_of (w := putF u u2) hP1 (by decide) hv hp10.2.1 hp10.2.2
        have hw := hw_49
        obtain ⟨c9, t9, g1, g2, g3⟩ := hk
        have hval : ∃ r, v = some (.int r) := by rcases g3 with ⟨-, e9, -⟩ | ⟨-, ⟨r9, e9⟩, -⟩; exact ⟨_, e9⟩; exact ⟨_, e9⟩
        obtain ⟨r9, rfl⟩ := hval
        exact m_iret (v := r9) B hw dX6_put_152 (by exact ⟨c9, t9, Or.inr ⟨i, j, hi, hj, ei, ej, Or.inr ⟨u, u2, hu, hu2, Or.inr ⟨hC, g1⟩⟩⟩, g2, g3⟩) (Nat.le_of_ble_eq_true rfl) (Nat.le_of_ble_eq_true rfl)
      · exact absurd (show (-1 : Int32) < 0 by decide) h1
    | succ k ih =>
      intro H locs S1 ct1 ls hk hw hP1 ra rc hl
      have e4 : 4 - (k + 1) = 3 - k := by omega
      rw [e4] at ra
      obtain ⟨m10, hpb⟩ := hp10.1 (3 - k) (by omega)
      rw [show 3 - (3 - k) = k by omega] at hpb
      refine pb_blk B.hx B.hb (lv' := [(4, .int (nI k)), (0, .ref mo), (1, .int f0)]) (st' := [.int (nI k)]) hl bkX6_put_74_76 rfl (fun ls hl => ?_)
      refine lv_if_lt (tgt := 147) B.hx B.hb dX6_put_76 (by decide) (fun h1 => ?_) (fun h1 => ?_)
      · exact absurd h1 (nI_pos (by omega))
      · refine pb_blk B.hx B.hb (lv' := [(4, .int (nI k)), (0, .ref mo), (1, .int f0)]) (st' := [.ref mo]) hl bkX6_put_79_80 rfl (fun ls hl => ?_)
        refine m_callV B hw (c_X6_multiply l G mo S1 ct1 (hq u u2 (3 - k)) (ext u2) ra rc m10) cy_X6_multiply im_X6_multiply se_X6_multiply wd_M_X6_135 rfl hl.1 rfl (Nat.le_of_ble_eq_true rfl) ⟨by decide, by decide⟩ ⟨rfl, rfl⟩ ⟨Nat.le_refl _, Nat.le_refl _⟩ dX6_put_80 (fun v H locs Sb ctb hw_50 hv => ?_)
        obtain ⟨rfl, hS, rr, oo⟩ := hv
        have hw := hw_50
        have hPb := hS.p hP1 (fun a g1 g2 => oo a (by omega) (by omega) (by omega) (by omega))
        have hN := hP.1
        have fi := hPb.2.2.1 i hi
        rw [hu] at fi
        obtain ⟨pf, df, f1, f2, f3⟩ := fi.2 k (by omega)
        obtain ⟨p0, d0, a1, a2, a3⟩ := rr 0 (by decide)
        refine pb_blk B.hx B.hb (lv' := [(4, .int (nI k)), (0, .ref mo), (1, .int f0)]) (st' := [.ref mo, .ref mo]) hl bkX6_put_83_85 rfl (fun ls hl => ?_)
        refine m_get B hw 9 (by decide) wd_F_X6_33 rfl dX6_put_85 ?_
        refine pb_blk B.hx B.hb (lv' := [(4, .int (nI k)), (0, .ref mo), (1, .int f0)]) (st' := [.int 0, .ref (mo + 8), .ref mo]) hl bkX6_put_88_89 rfl (fun ls hl => ?_)
        rw [show (0 : Int32) = nI 0 from rfl]
        refine m_lald B hw 8 (by decide) (by decide) rfl (vp_in_nI (show 0 < 10 by omega) (by decide)) (v := .long p0) (by rw [nI_clamp (by omega)]; exact a1) dX6_put_89 ?_
        refine pb_blk B.hx B.hb (lv' := [(4, .int (nI k)), (0, .ref mo), (1, .int f0)]) (st' := [.ref mo, .long p0, .ref mo]) hl bkX6_put_90_91 rfl (fun ls hl => ?_)
        refine m_get B hw 10 (by decide) wd_F_X6_36 rfl dX6_put_91 ?_
        refine pb_blk B.hx B.hb (lv' := [(4, .int (nI k)), (0, .ref mo), (1, .int f0)]) (st' := [.int 0, .ref (mo + 9), .long p0, .ref mo]) hl bkX6_put_94_95 rfl (fun ls hl => ?_)
        rw [show (0 : Int32) = nI 0 from rfl]
        refine m_lald B hw 9 (by decide) (by decide) rfl (vp_in_nI (show 0 < 10 by omega) (by decide)) (v := .long d0) (by rw [nI_clamp (by omega)]; exact a2) dX6_put_95 ?_
        refine pb_blk B.hx B.hb (lv' := [(4, .int (nI k)), (0, .ref mo), (1, .int f0)]) (st' := [.ref mo, .long d0, .long p0, .ref mo]) hl bkX6_put_96_97 rfl (fun ls hl => ?_)
        refine m_get B hw 3 (by decide) wd_F_X6_13 rfl dX6_put_97 ?_
        refine pb_blk B.hx B.hb (lv' := [(4, .int (nI k)), (0, .ref mo), (1, .int f0)]) (st' := [.int ((4 * f0) + (nI k)), .ref (mo + 2), .long d0, .long p0, .ref mo]) hl bkX6_put_100_106 rfl (fun ls hl => ?_)
        refine m_lald B hw 2 (by decide) (by decide) rfl (by rw [ei, ix4]; exact vp_in_nI (show 4 * i + k < 320 by omega) (by decide)) (v := .long pf) (by rw [ei, ix4, nI_clamp (by omega)]; exact f1) dX6_put_106 ?_
        refine pb_blk B.hx B.hb (lv' := [(4, .int (nI k)), (0, .ref mo), (1, .int f0)]) (st' := [.ref mo, .long pf, .long d0, .long p0, .ref mo]) hl bkX6_put_107_108 rfl (fun ls hl => ?_)
        refine m_get B hw 4 (by decide) wd_F_X6_17 rfl dX6_put_108 ?_
        refine pb_blk B.hx B.hb (lv' := [(4, .int (nI k)), (0, .ref mo), (1, .int f0)]) (st' := [.int ((4 * f0) + (nI k)), .ref (mo + 3), .long pf, .long d0, .long p0, .ref mo]) hl bkX6_put_111_117 rfl (fun ls hl => ?_)
        refine m_lald B hw 3 (by decide) (by decide) rfl (by rw [ei, ix4]; exact vp_in_nI (show 4 * i + k < 320 by omega) (by decide)) (v := .long df) (by rw [ei, ix4, nI_clamp (by omega)]; exact f2) dX6_put_117 ?_
        refine m_callV B hw (c_X6_sum l G mo Sb ctb p0 d0 pf df (psum (hq u u2 (3 - k)) (ext u2) 0 1) (u k) a3 f3 hpb) cy_X6_sum im_X6_sum se_X6_sum wd_M_X6_122 rfl hl.1 rfl (Nat.le_of_ble_eq_true rfl) ⟨by decide, by decide⟩ ⟨rfl, rfl⟩ ⟨Nat.le_refl _, Nat.le_refl _⟩ dX6_put_118 (fun v H locs Sc1 ctc hw_51 hv => ?_)
        obtain ⟨rfl, rfl, n, d, rfl, hf⟩ := hv
        have hw := hw_51
        refine pb_blk B.hx B.hb (lv' := [(4, .int (nI k)), (0, .ref mo), (1, .int f0)]) (st' := [.ref mo]) hl bkX6_put_121_122 rfl (fun ls hl => ?_)
        refine m_get B hw 9 (by decide) wd_F_X6_33 rfl dX6_put_122 ?_
        refine pb_blk B.hx B.hb (lv' := [(4, .int (nI k)), (0, .ref mo), (1, .int f0)]) (st' := [.ref mo, .int 0, .ref (mo + 8)]) hl bkX6_put_125_127 rfl (fun ls hl => ?_)
        refine m_get B hw 13 (by decide) wd_F_X6_71 (congrArg some (show _ = Value.long n from rfl)) dX6_put_127 ?_
        rw [show (0 : Int32) = nI 0 from rfl]
        refine m_last B hw 8 (by decide) (by decide) rfl (vp_in_nI (show 0 < 10 by omega) (by decide)) dX6_put_130 (fun H locs hw => ?_)
        rw [nI_clamp (show 0 < 2 ^ 31 by omega)] at hw
        refine pb_blk B.hx B.hb (lv' := [(4, .int (nI k)), (0, .ref mo), (1, .int f0)]) (st' := [.ref mo]) hl bkX6_put_131_132 rfl (fun ls hl => ?_)
        refine m_get B hw 10 (by decide) wd_F_X6_36 rfl dX6_put_132 ?_
        refine pb_blk B.hx B.hb (lv' := [(4, .int (nI k)), (0, .ref mo), (1, .int f0)]) (st' := [.ref mo, .int 0, .ref (mo + 9)]) hl bkX6_put_135_137 rfl (fun ls hl => ?_)
        refine m_get B hw 14 (by decide) wd_F_X6_75 (congrArg some (show _ = Value.long d from rfl)) dX6_put_137 ?_
        rw [show (0 : Int32) = nI 0 from rfl]
        refine m_last B hw 9 (by decide) (by decide) rfl (vp_in_nI (show 0 < 10 by omega) (by decide)) dX6_put_140 (fun H locs hw => ?_)
        rw [nI_clamp (show 0 < 2 ^ 31 by omega)] at hw
        refine pb_blk B.hx B.hb (lv' := [(4, .int ((nI k) + (-1))), (0, .ref mo), (1, .int f0)]) (st' := []) hl bkX6_put_141_74 rfl (fun ls hl => ?_)
        have eq1 : hq u u2 (4 - k) = fun m => psum (hq u u2 (3 - k)) (ext u2) m (m + 1) + (if m = 0 then u k else 0) := by rw [show 4 - k = (3 - k) + 1 by omega]; show (fun m => _ + (if m = 0 then u (3 - (3 - k)) else 0)) = _; rw [show 3 - (3 - k) = k by omega]
        exact ih _ _ _ _ ls (by omega) hw (hPb.ag rfl (Ag.hi (fun a g1 g2 => oth2 (by omega) (by omega)))) (by rw [eq1]; exact row_set (by decide) rr (by show Frx n d (_ + (if 0 = 0 then u k else 0)); rw [if_pos rfl]; exact hf) (fun m e9 => by show _ + (if m = 0 then u k else 0) = _; rw [if_neg e9, Rat.add_zero])) (rc.cg ((oth2 (by decide) (by decide)).trans (oo 10 (by decide) (by decide) (by decide) (by decide))) ((oth2 (by decide) (by decide)).trans (oo 11 (by decide) (by decide) (by decide) (by decide)))) (by have h9 := lv_sub hl [0, 1, 2] rfl; rw [jm_dec] at h9; exact h9)
  refine pb_blk B.hx B.hb (lv' := [(0, .ref mo), (1, .int f0), (2, .int g0)]) (st' := [.int g0, .int f0, .ref mo]) hl bkX6_put_0_3 rfl (fun ls hl => ?_)
  refine m_callV B hw (c_X6_are l G mo S ct N th as f0 g0 hP) cy_X6_are im_X6_are se_X6_are wd_M_X6_118 rfl hl.1 rfl (Nat.le_of_ble_eq_true rfl) ⟨by decide, by decide⟩ ⟨rfl, rfl⟩ ⟨Nat.le_refl _, Nat.le_refl _⟩ dX6_put_3 (fun v H locs Sa cta hw_41 hv => ?_)
  have har := hv
  have hw := hw_41
  rcases har with ⟨rfl, hc, hbad⟩ | ⟨rfl, rfl, i, j, u, u2, hi, hj, ei, ej, hu, hu2, r1, r2, o1⟩
  · refine lv_if_ne (tgt := 11) B.hx B.hb dX6_put_6 (by decide) (fun h => absurd h (by decide)) (fun _ => ?_)
    refine pb_blk B.hx B.hb (lv' := [(0, .ref mo), (1, .int f0), (2, .int g0)]) (st' := [.int 0]) hl bkX6_put_9_10 rfl (fun ls hl => ?_)
    exact m_iret (v := 0) B hw dX6_put_10 (by exact arf_bad hP hbad hc) (Nat.le_of_ble_eq_true rfl) (Nat.le_of_ble_eq_true rfl)
  · refine lv_if_ne (tgt := 11) B.hx B.hb dX6_put_6 (by decide) (fun _ => ?_) (fun h => absurd h (by decide))
    have hN := hP.1
    have hPa : Pst N th as (va_up S 0 (.int 0)) cta := hP.ag rfl (Ag.hi (fun a g1 g2 => o1 a (by omega)))
    have hgu := hg_ext u
    have hgv := hg_ext u2
    refine pb_blk B.hx B.hb (lv' := [(0, .ref mo), (1, .int f0), (2, .int g0)]) (st' := [.ref mo]) hl bkX6_put_11_12 rfl (fun ls hl => ?_)
    refine m_get B hw 9 (by decide) wd_F_X6_33 rfl dX6_put_12 ?_
    refine m_callS B (c_X6_high l G (fun _ => False) mo 8 9 _ _ (ext u) (by decide) (by decide) rfl rfl r1) cy_X6_high st_X6_high wd_M_X6_89 hw.1 rfl hl.1 rfl (Nat.le_of_ble_eq_true rfl) ⟨by decide, by decide⟩ ⟨rfl, rfl⟩ ⟨Nat.le_refl _, Nat.le_refl _⟩ dX6_put_15 (fun v hv => ?_)
    rw [po_X6_high, hgu] at hv
    subst hv
    refine pb_blk B.hx B.hb (lv' := [(3, .int (dgI u)), (0, .ref mo), (1, .int f0), (2, .int g0)]) (st' := [.int (dgI u)]) hl bkX6_put_18_20 rfl (fun ls hl => ?_)
    refine lv_if_le (tgt := 52) B.hx B.hb dX6_put_20 (by decide) (fun h1 => ?_) (fun h1 => ?_)
    · have hC : dgI u * dgI u2 ≤ 3 := dg_mul (Or.inl h1)
      refine pb_blk B.hx B.hb (lv' := [(3, .int (dgI u)), (0, .ref mo), (1, .int f0), (2, .int g0)]) (st' := [.ref mo]) hl bkX6_put_52_53 rfl (fun ls hl => ?_)
      refine m_get B hw 1 (by decide) wd_F_X6_82 (congrArg some hP.2.1) dX6_put_53 ?_
      refine pb_blk B.hx B.hb (lv' := [(3, .int (dgI u)), (0, .ref mo), (1, .int f0), (2, .int g0)]) (st' := [.int 80, .int (nI N)]) hl bkX6_put_56_58 rfl (fun ls hl => ?_)
      refine lv_icmp_ne (tgt := 67) B.hx B.hb dX6_put_58 (by decide) (fun h8 => ?_) (fun h8 => ?_)
      · refine pb_blk B.hx B.hb (lv' := [(3, .int (dgI u)), (0, .ref mo), (1, .int f0), (2, .int g0)]) (st' := [.ref mo]) hl bkX6_put_67_68 rfl (fun ls hl => ?_)
        refine m_callV B hw (c_X6_clear l G mo _ cta) cy_X6_clear im_X6_clear se_X6_clear wd_M_X6_101 rfl hl.1 rfl (Nat.le_of_ble_eq_true rfl) ⟨by decide, by decide⟩ ⟨rfl, rfl⟩ ⟨Nat.le_refl _, Nat.le_refl _⟩ dX6_put_68 (fun v H locs Sb ctb hw_42 hv => ?_)
        obtain ⟨rfl, rfl, rz, oz⟩ := hv
        have hw := hw_42
        refine pb_blk B.hx B.hb (lv' := [(4, .int 3), (3, .int (dgI u)), (0, .ref mo), (1, .int f0), (2, .int g0)]) (st' := []) hl bkX6_put_71_74 rfl (fun ls hl => ?_)
        exact loop i j u u2 hi hj ei ej hu hu2 hC ((hm i j hi hj u u2 hu hu2).2 hC) 4 _ _ _ ctb ls (Nat.le_refl _) hw (hPa.ag rfl (Ag.hi (fun a g1 g2 => oz a (by omega) (by omega)))) rz (r2.cg (oz 10 (by decide) (by decide)) (oz 11 (by decide) (by decide))) (lv_sub hl [0, 2, 3] rfl)
      · have he : 80 ≤ N := by have h9 := (nI_eq (show N < 2 ^ 31 by omega) (show 80 < 2 ^ 31 by decide)).mp h8; omega
        refine pb_blk B.hx B.hb (lv' := [(3, .int (dgI u)), (0, .ref mo), (1, .int f0), (2, .int g0)]) (st' := [.int 3, .ref mo]) hl bkX6_put_61_63 rfl (fun ls hl => ?_)
        refine m_callV B hw (c_X6_raise l G mo _ cta 3) cy_X6_raise im_X6_raise se_X6_raise wd_M_X6_97 rfl hl.1 rfl (Nat.le_of_ble_eq_true rfl) ⟨by decide, by decide⟩ ⟨rfl, rfl⟩ ⟨Nat.le_refl _, Nat.le_refl _⟩ dX6_put_63 (fun v H locs S1 ct1 hw_43 hv => ?_)
        obtain ⟨rfl, rfl, rfl⟩ := hv
        have hw := hw_43
        exact m_iret (v := 0) B hw dX6_put_66 (by exact ⟨3, .inl (fun _ => 0), Or.inr ⟨i, j, hi, hj, ei, ej, Or.inr ⟨u, u2, hu, hu2, Or.inr ⟨hC, Or.inl ⟨rfl, Or.inl he⟩⟩⟩⟩, rfl, Or.inr ⟨by decide, ⟨_, rfl⟩, hPa.ag rfl Ag.rf⟩⟩) (Nat.le_of_ble_eq_true rfl) (Nat.le_of_ble_eq_true rfl)
    · refine pb_blk B.hx B.hb (lv' := [(3, .int (dgI u)), (0, .ref mo), (1, .int f0), (2, .int g0)]) (st' := [.ref mo]) hl bkX6_put_23_24 rfl (fun ls hl => ?_)
      refine m_get B hw 11 (by decide) wd_F_X6_39 rfl dX6_put_24 ?_
      refine m_callS B (c_X6_high l G (fun _ => False) mo 10 11 _ _ (ext u2) (by decide) (by decide) rfl rfl r2) cy_X6_high st_X6_high wd_M_X6_89 hw.1 rfl hl.1 rfl (Nat.le_of_ble_eq_true rfl) ⟨by decide, by decide⟩ ⟨rfl, rfl⟩ ⟨Nat.le_refl _, Nat.le_refl _⟩ dX6_put_27 (fun v hv => ?_)
      rw [po_X6_high, hgv] at hv
      subst hv
      refine lv_if_le (tgt := 52) B.hx B.hb dX6_put_30 (by decide) (fun h2 => ?_) (fun h2 => ?_)
      · have hC : dgI u * dgI u2 ≤ 3 := dg_mul (Or.inr h2)
        refine pb_blk B.hx B.hb (lv' := [(3, .int (dgI u)), (0, .ref mo), (1, .int f0), (2, .int g0)]) (st' := [.ref mo]) hl bkX6_put_52_53 rfl (fun ls hl => ?_)
        refine m_get B hw 1 (by decide) wd_F_X6_82 (congrArg some hP.2.1) dX6_put_53 ?_
        refine pb_blk B.hx B.hb (lv' := [(3, .int (dgI u)), (0, .ref mo), (1, .int f0), (2, .int g0)]) (st' := [.int 80, .int (nI N)]) hl bkX6_put_56_58 rfl (fun ls hl => ?_)
        refine lv_icmp_ne (tgt := 67) B.hx B.hb dX6_put_58 (by decide) (fun h8 => ?_) (fun h8 => ?_)
        · refine pb_blk B.hx B.hb (lv' := [(3, .int (dgI u)), (0, .ref mo), (1, .int f0), (2, .int g0)]) (st' := [.ref mo]) hl bkX6_put_67_68 rfl (fun ls hl => ?_)
          refine m_callV B hw (c_X6_clear l G mo _ cta) cy_X6_clear im_X6_clear se_X6_clear wd_M_X6_101 rfl hl.1 rfl (Nat.le_of_ble_eq_true rfl) ⟨by decide, by decide⟩ ⟨rfl, rfl⟩ ⟨Nat.le_refl _, Nat.le_refl _⟩ dX6_put_68 (fun v H locs Sb ctb hw_44 hv => ?_)
          obtain ⟨rfl, rfl, rz, oz⟩ := hv
          have hw := hw_44
          refine pb_blk B.hx B.hb (lv' := [(4, .int 3), (3, .int (dgI u)), (0, .ref mo), (1, .int f0), (2, .int g0)]) (st' := []) hl bkX6_put_71_74 rfl (fun ls hl => ?_)
          exact loop i j u u2 hi hj ei ej hu hu2 hC ((hm i j hi hj u u2 hu hu2).2 hC) 4 _ _ _ ctb ls (Nat.le_refl _) hw (hPa.ag rfl (Ag.hi (fun a g1 g2 => oz a (by omega) (by omega)))) rz (r2.cg (oz 10 (by decide) (by decide)) (oz 11 (by decide) (by decide))) (lv_sub hl [0, 2, 3] rfl)
        · have he : 80 ≤ N := by have h9 := (nI_eq (show N < 2 ^ 31 by omega) (show 80 < 2 ^ 31 by decide)).mp h8; omega
          refine pb_blk B.hx B.hb (lv' := [(3, .int (dgI u)), (0, .ref mo), (1, .int f0), (2, .int g0)]) (st' := [.int 3, .ref mo]) hl bkX6_put_61_63 rfl (fun ls hl => ?_)
          refine m_callV B hw (c_X6_raise l G mo _ cta 3) cy_X6_raise im_X6_raise se_X6_raise wd_M_X6_97 rfl hl.1 rfl (Nat.le_of_ble_eq_true rfl) ⟨by decide, by decide⟩ ⟨rfl, rfl⟩ ⟨Nat.le_refl _, Nat.le_refl _⟩ dX6_put_63 (fun v H locs S1 ct1 hw_45 hv => ?_)
          obtain ⟨rfl, rfl, rfl⟩ := hv
          have hw := hw_45
          exact m_iret (v := 0) B hw dX6_put_66 (by exact ⟨3, .inl (fun _ => 0), Or.inr ⟨i, j, hi, hj, ei, ej, Or.inr ⟨u, u2, hu, hu2, Or.inr ⟨hC, Or.inl ⟨rfl, Or.inl he⟩⟩⟩⟩, rfl, Or.inr ⟨by decide, ⟨_, rfl⟩, hPa.ag rfl Ag.rf⟩⟩) (Nat.le_of_ble_eq_true rfl) (Nat.le_of_ble_eq_true rfl)
      · refine pb_blk B.hx B.hb (lv' := [(3, .int (dgI u)), (0, .ref mo), (1, .int f0), (2, .int g0)]) (st' := [.ref mo, .int (dgI u)]) hl bkX6_put_33_35 rfl (fun ls hl => ?_)
        refine m_get B hw 11 (by decide) wd_F_X6_39 rfl dX6_put_35 ?_
        refine m_callS B (c_X6_high l G (fun _ => False) mo 10 11 _ _ (ext u2) (by decide) (by decide) rfl rfl r2) cy_X6_high st_X6_high wd_M_X6_89 hw.1 rfl hl.1 rfl (Nat.le_of_ble_eq_true rfl) ⟨by decide, by decide⟩ ⟨rfl, rfl⟩ ⟨Nat.le_refl _, Nat.le_refl _⟩ dX6_put_38 (fun v hv => ?_)
        rw [po_X6_high, hgv] at hv
        subst hv
        refine pb_blk B.hx B.hb (lv' := [(3, .int (dgI u)), (0, .ref mo), (1, .int f0), (2, .int g0)]) (st' := [.int 3, .int ((dgI u) * (dgI u2))]) hl bkX6_put_41_43 rfl (fun ls hl => ?_)
        refine lv_icmp_le (tgt := 52) B.hx B.hb dX6_put_43 (by decide) (fun h3 => ?_) (fun h3 => ?_)
        · have hC : dgI u * dgI u2 ≤ 3 := h3
          refine pb_blk B.hx B.hb (lv' := [(3, .int (dgI u)), (0, .ref mo), (1, .int f0), (2, .int g0)]) (st' := [.ref mo]) hl bkX6_put_52_53 rfl (fun ls hl => ?_)
          refine m_get B hw 1 (by decide) wd_F_X6_82 (congrArg some hP.2.1) dX6_put_53 ?_
          refine pb_blk B.hx B.hb (lv' := [(3, .int (dgI u)), (0, .ref mo), (1, .int f0), (2, .int g0)]) (st' := [.int 80, .int (nI N)]) hl bkX6_put_56_58 rfl (fun ls hl => ?_)
          refine lv_icmp_ne (tgt := 67) B.hx B.hb dX6_put_58 (by decide) (fun h8 => ?_) (fun h8 => ?_)
          · refine pb_blk B.hx B.hb (lv' := [(3, .int (dgI u)), (0, .ref mo), (1, .int f0), (2, .int g0)]) (st' := [.ref mo]) hl bkX6_put_67_68 rfl (fun ls hl => ?_)
            refine m_callV B hw (c_X6_clear l G mo _ cta) cy_X6_clear im_X6_clear se_X6_clear wd_M_X6_101 rfl hl.1 rfl (Nat.le_of_ble_eq_true rfl) ⟨by decide, by decide⟩ ⟨rfl, rfl⟩ ⟨Nat.le_refl _, Nat.le_refl _⟩ dX6_put_68 (fun v H locs Sb ctb hw_46 hv => ?_)
            obtain ⟨rfl, rfl, rz, oz⟩ := hv
            have hw := hw_46
            refine pb_blk B.hx B.hb (lv' := [(4, .int 3), (3, .int (dgI u)), (0, .ref mo), (1, .int f0), (2, .int g0)]) (st' := []) hl bkX6_put_71_74 rfl (fun ls hl => ?_)
            exact loop i j u u2 hi hj ei ej hu hu2 hC ((hm i j hi hj u u2 hu hu2).2 hC) 4 _ _ _ ctb ls (Nat.le_refl _) hw (hPa.ag rfl (Ag.hi (fun a g1 g2 => oz a (by omega) (by omega)))) rz (r2.cg (oz 10 (by decide) (by decide)) (oz 11 (by decide) (by decide))) (lv_sub hl [0, 2, 3] rfl)
          · have he : 80 ≤ N := by have h9 := (nI_eq (show N < 2 ^ 31 by omega) (show 80 < 2 ^ 31 by decide)).mp h8; omega
            refine pb_blk B.hx B.hb (lv' := [(3, .int (dgI u)), (0, .ref mo), (1, .int f0), (2, .int g0)]) (st' := [.int 3, .ref mo]) hl bkX6_put_61_63 rfl (fun ls hl => ?_)
            refine m_callV B hw (c_X6_raise l G mo _ cta 3) cy_X6_raise im_X6_raise se_X6_raise wd_M_X6_97 rfl hl.1 rfl (Nat.le_of_ble_eq_true rfl) ⟨by decide, by decide⟩ ⟨rfl, rfl⟩ ⟨Nat.le_refl _, Nat.le_refl _⟩ dX6_put_63 (fun v H locs S1 ct1 hw_47 hv => ?_)
            obtain ⟨rfl, rfl, rfl⟩ := hv
            have hw := hw_47
            exact m_iret (v := 0) B hw dX6_put_66 (by exact ⟨3, .inl (fun _ => 0), Or.inr ⟨i, j, hi, hj, ei, ej, Or.inr ⟨u, u2, hu, hu2, Or.inr ⟨hC, Or.inl ⟨rfl, Or.inl he⟩⟩⟩⟩, rfl, Or.inr ⟨by decide, ⟨_, rfl⟩, hPa.ag rfl Ag.rf⟩⟩) (Nat.le_of_ble_eq_true rfl) (Nat.le_of_ble_eq_true rfl)
        · refine pb_blk B.hx B.hb (lv' := [(3, .int (dgI u)), (0, .ref mo), (1, .int f0), (2, .int g0)]) (st' := [.int 3, .ref mo]) hl bkX6_put_46_48 rfl (fun ls hl => ?_)
          refine m_callV B hw (c_X6_raise l G mo _ cta 3) cy_X6_raise im_X6_raise se_X6_raise wd_M_X6_97 rfl hl.1 rfl (Nat.le_of_ble_eq_true rfl) ⟨by decide, by decide⟩ ⟨rfl, rfl⟩ ⟨Nat.le_refl _, Nat.le_refl _⟩ dX6_put_48 (fun v H locs S1 ct1 hw_48 hv => ?_)
          obtain ⟨rfl, rfl, rfl⟩ := hv
          have hw := hw_48
          exact m_iret (v := 0) B hw dX6_put_51 (by exact ⟨3, .inl (fun _ => 0), Or.inr ⟨i, j, hi, hj, ei, ej, Or.inr ⟨u, u2, hu, hu2, Or.inl ⟨rfl, h3⟩⟩⟩, rfl, Or.inr ⟨by decide, ⟨_, rfl⟩, hPa.ag rfl Ag.rf⟩⟩) (Nat.le_of_ble_eq_true rfl) (Nat.le_of_ble_eq_true rfl)

