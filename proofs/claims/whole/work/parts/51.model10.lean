def RdK (N : Nat) (th : Nat → Th) (as : St3) (R : Nat → Int32 → Prop) (v : Option Value) (S2 : Sc) (ct2 : Ct) : Prop := ∃ c r r', R c r ∧ S2 0 = .int (nI c) ∧ v = some (.int r') ∧ (c = 0 → r' = r) ∧ Pst N th as S2 ct2
theorem pcn_y {mk : Nat → Bool} {c : Nat} (h : sp mk c = true) : pcn mk (c + 1) = pcn mk c + 1 := if_pos h
theorem pcn_n {mk : Nat → Bool} {c : Nat} (h : ¬ sp mk c = true) : pcn mk (c + 1) = pcn mk c := if_neg h
theorem pcn_mono {mk : Nat → Bool} {a b : Nat} (h : a ≤ b) : pcn mk a ≤ pcn mk b := by
  induction b with
  | zero => rw [show a = 0 by omega]; exact Nat.le_refl _
  | succ b ih =>
    rcases Nat.lt_or_ge a (b + 1) with q | q
    · have h1 := ih (by omega)
      by_cases e : sp mk b = true
      · rw [pcn_y e]; omega
      · rw [pcn_n e]; exact h1
    · rw [show a = b + 1 by omega]; exact Nat.le_refl _
theorem pcn_lt {mk : Nat → Bool} {c k : Nat} (hc : c < k) (h : sp mk c = true) : pcn mk c < pcn mk k := by
  have := pcn_mono (mk := mk) (show c + 1 ≤ k by omega)
  rw [pcn_y h] at this
  omega
theorem sp_t {mk : Nat → Bool} {c : Nat} : sp mk c = true ↔ mk c = true ∧ (c = 0 ∨ mk (c - 1) = false) := by
  unfold sp
  rw [Bool.and_eq_true, Bool.or_eq_true, beq_iff_eq, Bool.not_eq_true']
theorem pcn_half (mk : Nat → Bool) (k : Nat) : 2 * pcn mk k ≤ k + 1 ∧ (k = 0 ∨ mk (k - 1) = false → 2 * pcn mk k ≤ k) := by
  induction k with
  | zero => exact ⟨by show 2 * 0 ≤ _; omega, fun _ => by show 2 * 0 ≤ _; omega⟩
  | succ k ih =>
    by_cases e : sp mk k = true
    · rw [pcn_y e]
      have h2 := ih.2 (sp_t.mp e).2
      refine ⟨by omega, fun h => ?_⟩
      rcases h with h | h
      · omega
      · rw [Nat.add_sub_cancel, (sp_t.mp e).1] at h; exact absurd h (by decide)
    · rw [pcn_n e]
      refine ⟨by have := ih.1; omega, fun h => ?_⟩
      have := ih.1
      omega
/-- between a cell outside and one inside a piece begins -/
theorem sp_bt {mk : Nat → Bool} {a b : Nat} (h : a < b) (ha : mk a = false) (hb : mk b = true) : ∃ c, a < c ∧ c ≤ b ∧ sp mk c = true := by
  induction b with
  | zero => omega
  | succ b ih =>
    by_cases e : mk b = true
    · have hab : a < b := by
        rcases Nat.lt_or_ge a b with q | q
        · exact q
        · rw [show a = b by omega, e] at ha; exact absurd ha (by decide)
      obtain ⟨c, h1, h2, h3⟩ := ih hab e
      exact ⟨c, h1, by omega, h3⟩
    · exact ⟨b + 1, h, Nat.le_refl _, sp_t.mpr ⟨hb, Or.inr (by rw [Nat.add_sub_cancel]; cases q : mk b; rfl; exact absurd q e)⟩⟩
def FpI (mk : Nat → Bool) (ct : Ct) (k : Nat) : Prop := ∀ c, c < k → sp mk c = true → ct 16 (pcn mk c) = .int (nI c) ∧ ∃ d, c ≤ d ∧ d < k ∧ (∀ j, c < j → j ≤ d → mk j = true) ∧ (d + 1 < k → mk (d + 1) = false) ∧ ct 17 (pcn mk c) = .int (nI d)
theorem FpI.off {mk : Nat → Bool} {ct : Ct} {k : Nat} (h : FpI mk ct k) (hk : mk k = false) : FpI mk ct (k + 1) := fun c hc hs => by
  have hck : c ≠ k := fun e => by rw [e] at hs; rw [(sp_t.mp hs).1] at hk; exact absurd hk (by decide)
  obtain ⟨h1, d, g1, g2, g3, g4, g5⟩ := h c (by omega) hs
  refine ⟨h1, d, g1, by omega, g3, fun q => ?_, g5⟩
  rcases Nat.lt_or_ge (d + 1) k with q2 | q2
  · exact g4 q2
  · rw [show d + 1 = k by omega]; exact hk
theorem FpI.new {mk : Nat → Bool} {ct ct2 : Ct} {k : Nat} (h : FpI mk ct k) (hs : sp mk k = true) (e16 : ct2 16 = updV (ct 16) (pcn mk k) (.int (nI k))) (e17 : ct2 17 = updV (ct 17) (pcn mk k) (.int (nI k))) : FpI mk ct2 (k + 1) := fun c hc hsc => by
  rw [e16, e17]
  by_cases e : c = k
  · subst e
    exact ⟨updV_at, c, Nat.le_refl _, by omega, fun j g1 g2 => by omega, fun q => by omega, updV_at⟩
  · have hlt := pcn_lt (mk := mk) (show c < k by omega) hsc
    obtain ⟨h1, d, g1, g2, g3, g4, g5⟩ := h c (by omega) hsc
    refine ⟨(updV_ne (by omega)).trans h1, d, g1, by omega, g3, fun q => ?_, (updV_ne (by omega)).trans g5⟩
    rcases Nat.lt_or_ge (d + 1) k with q2 | q2
    · exact g4 q2
    · have hd : d = k - 1 := by omega
      have hm : mk (k - 1) = true := by
        rcases Nat.lt_or_ge c d with q3 | q3
        · rw [← hd]; exact g3 d q3 (Nat.le_refl _)
        · rw [← hd, show d = c by omega]; exact (sp_t.mp hsc).1
      rcases (sp_t.mp hs).2 with q4 | q4
      · omega
      · rw [hm] at q4; exact absurd q4 (by decide)
theorem FpI.more {mk : Nat → Bool} {ct ct2 : Ct} {k P : Nat} (h : FpI mk ct k) (hm : mk k = true) (hk : 0 < k) (hk1 : mk (k - 1) = true) (hP : pcn mk k = P + 1) (e16 : ct2 16 = ct 16) (e17 : ct2 17 = updV (ct 17) P (.int (nI k))) : FpI mk ct2 (k + 1) := fun c hc hsc => by
  rw [e16, e17]
  have hck : c ≠ k := fun e => by
    rw [e] at hsc
    rcases (sp_t.mp hsc).2 with q | q
    · omega
    · rw [hk1] at q; exact absurd q (by decide)
  obtain ⟨h1, d, g1, g2, g3, g4, g5⟩ := h c (by omega) hsc
  by_cases e : d + 1 = k
  · have hP2 : pcn mk c = P := by
      have aux : ∀ j, c < j → j ≤ k → pcn mk j = pcn mk c + 1 := by
        intro j
        induction j with
        | zero => intro q; omega
        | succ j ih =>
          intro q1 q2
          by_cases e9 : j = c
          · rw [e9]; exact pcn_y hsc
          · have hns : ¬ sp mk j = true := fun q => by
              rcases (sp_t.mp q).2 with q3 | q3
              · omega
              · have hmj : mk (j - 1) = true := by
                  by_cases e8 : j - 1 = c
                  · rw [e8]; exact (sp_t.mp hsc).1
                  · exact g3 (j - 1) (by omega) (by omega)
                rw [hmj] at q3; exact absurd q3 (by decide)
            rw [pcn_n hns]
            exact ih (by omega) (by omega)
      have := aux k (by omega) (Nat.le_refl _)
      omega
    refine ⟨h1, k, by omega, by omega, fun j q1 q2 => ?_, fun q => by omega, by rw [hP2]; exact updV_at⟩
    by_cases e9 : j = k
    · rw [e9]; exact hm
    · exact g3 j q1 (by omega)
  · have hf := g4 (by omega)
    obtain ⟨c2, q1, q2, q3⟩ := sp_bt (show d + 1 < k by
      rcases Nat.lt_or_ge (d + 1) (k - 1) with q | q
      · omega
      · omega) hf hm
    have hc2 : c2 ≠ k := fun e9 => by
      rw [e9] at q3
      rcases (sp_t.mp q3).2 with q | q
      · omega
      · rw [hk1] at q; exact absurd q (by decide)
    have l1 := pcn_lt (mk := mk) (show c < c2 by omega) hsc
    have l2 := pcn_lt (mk := mk) (show c2 < k by omega) q3
    exact ⟨h1, d, g1, by omega, g3, fun _ => hf, (updV_ne (by omega)).trans g5⟩

theorem pcn_pos {mk : Nat → Bool} {j k : Nat} (h : mk j = true) (hj : j < k) : 0 < pcn mk k := by
  have aux : ∀ j, mk j = true → 0 < pcn mk (j + 1) := by
    intro j
    induction j with
    | zero => intro h; rw [pcn_y (sp_t.mpr ⟨h, Or.inl rfl⟩)]; omega
    | succ j ih =>
      intro h
      cases e : mk j with
      | true => exact Nat.lt_of_lt_of_le (ih e) (pcn_mono (by omega))
      | false => rw [pcn_y (sp_t.mpr ⟨h, Or.inr e⟩)]; omega
  exact Nat.lt_of_lt_of_le (aux j h) (pcn_mono (by omega))

def po_X6_findPieces (mo : Nat) (S : Sc) (ct : Ct) (k0 : Nat) (z : St3) : Option Value → Sc → Ct → Prop := fun v S2 ct2 => v = none ∧ (∀ k, k ≠ 21 → S2 k = S k) ∧ S2 21 = .int (nI (pcn z.2.2 (2 * z.1 + 1))) ∧ (∀ a, a ≠ 16 → a ≠ 17 → ct2 a = ct a) ∧ FpI z.2.2 ct2 (2 * z.1 + 1)
theorem bkX6_findPieces_0_2 : pb_chk cX6_findPieces 0 [.aload_n 0, .iconst 0] = some 2 := by decide +kernel
theorem dX6_findPieces_2 : decode cX6_findPieces 2 = .ok (.putfield 201, 3) := by decide +kernel
theorem bkX6_findPieces_5_7 : pb_chk cX6_findPieces 5 [.iconst 0, .istore_n 2] = some 7 := by decide +kernel
theorem bkX6_findPieces_7_10 : pb_chk cX6_findPieces 7 [.iload_n 2, .iconst 2, .aload_n 0] = some 10 := by decide +kernel
theorem dX6_findPieces_10 : decode cX6_findPieces 10 = .ok (.getfield 20, 3) := by decide +kernel
theorem bkX6_findPieces_13_14 : pb_chk cX6_findPieces 13 [.iload_n 1] = some 14 := by decide +kernel
theorem dX6_findPieces_14 : decode cX6_findPieces 14 = .ok (.iaload, 1) := by decide +kernel
theorem bkX6_findPieces_15_16 : pb_chk cX6_findPieces 15 [.imul] = some 16 := by decide +kernel
theorem dX6_findPieces_16 : decode cX6_findPieces 16 = .ok (.if_icmp .gt 68, 3) := by decide +kernel
theorem dX6_findPieces_84 : decode cX6_findPieces 84 = .ok (.return_, 1) := by decide +kernel
theorem bkX6_findPieces_19_22 : pb_chk cX6_findPieces 19 [.aload_n 0, .iload_n 1, .iload_n 2] = some 22 := by decide +kernel
theorem dX6_findPieces_22 : decode cX6_findPieces 22 = .ok (.invokevirtual 161, 3) := by decide +kernel
theorem dX6_findPieces_25 : decode cX6_findPieces 25 = .ok (.ifCond .ne 6, 3) := by decide +kernel
theorem bkX6_findPieces_31_32 : pb_chk cX6_findPieces 31 [.iload_n 2] = some 32 := by decide +kernel
theorem dX6_findPieces_32 : decode cX6_findPieces 32 = .ok (.ifCond .eq 14, 3) := by decide +kernel
theorem bkX6_findPieces_46_47 : pb_chk cX6_findPieces 46 [.aload_n 0] = some 47 := by decide +kernel
theorem dX6_findPieces_47 : decode cX6_findPieces 47 = .ok (.getfield 57, 3) := by decide +kernel
theorem bkX6_findPieces_50_51 : pb_chk cX6_findPieces 50 [.aload_n 0] = some 51 := by decide +kernel
theorem dX6_findPieces_51 : decode cX6_findPieces 51 = .ok (.getfield 201, 3) := by decide +kernel
theorem bkX6_findPieces_54_55 : pb_chk cX6_findPieces 54 [.iload_n 2] = some 55 := by decide +kernel
theorem dX6_findPieces_55 : decode cX6_findPieces 55 = .ok (.iastore, 1) := by decide +kernel
theorem bkX6_findPieces_56_58 : pb_chk cX6_findPieces 56 [.aload_n 0, .dup] = some 58 := by decide +kernel
theorem dX6_findPieces_58 : decode cX6_findPieces 58 = .ok (.getfield 201, 3) := by decide +kernel
theorem bkX6_findPieces_61_63 : pb_chk cX6_findPieces 61 [.iconst 1, .iadd] = some 63 := by decide +kernel
theorem dX6_findPieces_63 : decode cX6_findPieces 63 = .ok (.putfield 201, 3) := by decide +kernel
theorem bkX6_findPieces_66_67 : pb_chk cX6_findPieces 66 [.aload_n 0] = some 67 := by decide +kernel
theorem dX6_findPieces_67 : decode cX6_findPieces 67 = .ok (.getfield 60, 3) := by decide +kernel
theorem bkX6_findPieces_70_71 : pb_chk cX6_findPieces 70 [.aload_n 0] = some 71 := by decide +kernel
theorem dX6_findPieces_71 : decode cX6_findPieces 71 = .ok (.getfield 201, 3) := by decide +kernel
theorem bkX6_findPieces_74_77 : pb_chk cX6_findPieces 74 [.iconst 1, .isub, .iload_n 2] = some 77 := by decide +kernel
theorem dX6_findPieces_77 : decode cX6_findPieces 77 = .ok (.iastore, 1) := by decide +kernel
theorem bkX6_findPieces_78_7 : pb_chk cX6_findPieces 78 [.iinc 2 1, .goto (-74)] = some 7 := by decide +kernel
theorem bkX6_findPieces_35_40 : pb_chk cX6_findPieces 35 [.aload_n 0, .iload_n 1, .iload_n 2, .iconst 1, .isub] = some 40 := by decide +kernel
theorem dX6_findPieces_40 : decode cX6_findPieces 40 = .ok (.invokevirtual 161, 3) := by decide +kernel
theorem dX6_findPieces_43 : decode cX6_findPieces 43 = .ok (.ifCond .ne 23, 3) := by decide +kernel
theorem bkX6_findPieces_28_7 : pb_chk cX6_findPieces 28 [.goto 50, .iinc 2 1, .goto (-74)] = some 7 := by decide +kernel
set_option maxHeartbeats 4000000 in
set_option maxRecDepth 100000 in
theorem c_X6_findPieces (l : Launch) (G : Gm) (mo : Nat) (S : Sc) (ct : Ct) (k0 : Nat) (z : St3) (hk0 : k0 ≤ 80) (hz : SeA ct k0 z) : Mm l yX6_findPieces cX6_findPieces 3 none (⟨1, 0, 0, 22⟩ : Room) G mo S ct [.ref mo, .int (nI k0)] (po_X6_findPieces mo S ct k0 z) := by
  refine of_met (by decide) (Nat.le_of_ble_eq_true rfl) ?_
  intro p e s m below meth c ls B hA hM0 hl
  have hw := Mw.start hM0
  have hz1 := hz.1
  have loop : ∀ (n k : Nat) (H : Heap) (locs : List Loc) (S1 : Sc) (ct1 : Ct) (ls : Array Slot), 2 * z.1 + 2 ≤ k + n → k ≤ 2 * z.1 + 1 → Mw G mo s.heap H locs S1 ct1 → (∀ k, k ≠ 21 → S1 k = S k) → S1 21 = .int (nI (pcn z.2.2 k)) → (∀ a, a ≠ 16 → a ≠ 17 → ct1 a = ct a) → FpI z.2.2 ct1 k → lv_has ls 3 [(2, .int (nI k)), (0, .ref mo), (1, .int (nI k0))] → W p l e (⟨1, 0, 0, 22⟩ : Room) s m ([.ref mo, .int (nI k0)] : List Value).toArray below meth c H locs 0 0 (MQ below (Qm G mo (po_X6_findPieces mo S ct k0 z)) ([.ref mo, .int (nI k0)] : List Value).toArray s (⟨1, 0, 0, 22⟩ : Room).cells (⟨1, 0, 0, 22⟩ : Room).slots (FM mo)) (F0 m 7 ls []) := by
    intro n
    induction n with
    | zero => intro k H locs S1 ct1 ls h1 h2; omega
    | succ n ih =>
      intro k H locs S1 ct1 ls hn hk hw hS h21 ho hf hl
      have hz2 : SeA ct1 k0 z := by unfold SeA; rw [ho 4 (by decide) (by decide), ho 5 (by decide) (by decide), ho 6 (by decide) (by decide), ho 7 (by decide) (by decide)]; exact hz
      have hph := pcn_half z.2.2 k
      refine pb_blk B.hx B.hb (lv' := [(2, .int (nI k)), (0, .ref mo), (1, .int (nI k0))]) (st' := [.ref mo, .int 2, .int (nI k)]) hl bkX6_findPieces_7_10 rfl (fun ls hl => ?_)
      refine m_get B hw 5 (by decide) wd_F_X6_20 rfl dX6_findPieces_10 ?_
      refine pb_blk B.hx B.hb (lv' := [(2, .int (nI k)), (0, .ref mo), (1, .int (nI k0))]) (st' := [.int (nI k0), .ref (mo + 4), .int 2, .int (nI k)]) hl bkX6_findPieces_13_14 rfl (fun ls hl => ?_)
      refine m_iald B hw 4 (by decide) (by decide) rfl (vp_in_nI (show k0 < 82 by omega) (by decide)) (v := .int (nI z.1)) (by rw [nI_clamp (by omega)]; exact hz2.2.1) dX6_findPieces_14 ?_
      refine pb_blk B.hx B.hb (lv' := [(2, .int (nI k)), (0, .ref mo), (1, .int (nI k0))]) (st' := [.int (2 * (nI z.1)), .int (nI k)]) hl bkX6_findPieces_15_16 rfl (fun ls hl => ?_)
      rw [ix0]
      refine lv_icmp_gt (tgt := 84) B.hx B.hb dX6_findPieces_16 (by decide) (fun h1 => ?_) (fun h1 => ?_)
      · have e4 : k = 2 * z.1 + 1 := by have := (nI_ltI (show 2 * z.1 < 2 ^ 31 by omega) (by omega)).mp h1; omega
        rw [e4] at h21 hf
        exact m_vret B hw dX6_findPieces_84 (by exact ⟨rfl, hS, h21, ho, hf⟩) (Nat.le_of_ble_eq_true rfl) (Nat.le_of_ble_eq_true rfl)
      · have hk4 : k ≤ 2 * z.1 := by rcases Nat.lt_or_ge (2 * z.1) k with g | g; exact absurd ((nI_ltI (by omega) (by omega)).mpr g) h1; exact g
        refine pb_blk B.hx B.hb (lv' := [(2, .int (nI k)), (0, .ref mo), (1, .int (nI k0))]) (st' := [.int (nI k), .int (nI k0), .ref mo]) hl bkX6_findPieces_19_22 rfl (fun ls hl => ?_)
        refine m_callN B hw (c_X6_mark l G (fun _ => False) mo S1 ct1 k0 k (z.2.2 k) (by omega) (hz2.2.2.2 k (by omega))) cy_X6_mark im_X6_mark se_X6_mark wd_M_X6_161 hw.1 rfl hl.1 rfl (Nat.le_of_ble_eq_true rfl) ⟨by decide, by decide⟩ ⟨rfl, rfl⟩ ⟨Nat.le_refl _, Nat.le_refl _⟩ dX6_findPieces_22 (fun v hv => ?_)
        rw [po_X6_mark] at hv
        subst hv
        refine lv_if_ne (tgt := 31) B.hx B.hb dX6_findPieces_25 (by decide) (fun h2 => ?_) (fun h2 => ?_)
        · have m1 : z.2.2 k = true := ts9 (fun q => h2 ((b2i_0 _).mpr q))
          refine pb_blk B.hx B.hb (lv' := [(2, .int (nI k)), (0, .ref mo), (1, .int (nI k0))]) (st' := [.int (nI k)]) hl bkX6_findPieces_31_32 rfl (fun ls hl => ?_)
          refine lv_if_eq (tgt := 46) B.hx B.hb dX6_findPieces_32 (by decide) (fun h3 => ?_) (fun h3 => ?_)
          · have e0 : k = 0 := (nI_eq (by omega) (by decide)).mp (show nI k = nI 0 from h3)
            have hs : sp z.2.2 k = true := sp_t.mpr ⟨m1, Or.inl e0⟩
            have hph2 := hph.2 (sp_t.mp hs).2
            refine pb_blk B.hx B.hb (lv' := [(2, .int (nI k)), (0, .ref mo), (1, .int (nI k0))]) (st' := [.ref mo]) hl bkX6_findPieces_46_47 rfl (fun ls hl => ?_)
            refine m_get B hw 22 (by decide) wd_F_X6_57 rfl dX6_findPieces_47 ?_
            refine pb_blk B.hx B.hb (lv' := [(2, .int (nI k)), (0, .ref mo), (1, .int (nI k0))]) (st' := [.ref mo, .ref (mo + 16)]) hl bkX6_findPieces_50_51 rfl (fun ls hl => ?_)
            refine m_get B hw 21 (by decide) wd_F_X6_201 (congrArg some h21) dX6_findPieces_51 ?_
            refine pb_blk B.hx B.hb (lv' := [(2, .int (nI k)), (0, .ref mo), (1, .int (nI k0))]) (st' := [.int (nI k), .int (nI (pcn z.2.2 k)), .ref (mo + 16)]) hl bkX6_findPieces_54_55 rfl (fun ls hl => ?_)
            refine m_iast B hw 16 (by decide) (by decide) rfl (vp_in_nI (show pcn z.2.2 k < 161 by omega) (by decide)) dX6_findPieces_55 (fun H locs hw => ?_)
            rw [nI_clamp (show pcn z.2.2 k < 2 ^ 31 by omega)] at hw
            refine pb_blk B.hx B.hb (lv' := [(2, .int (nI k)), (0, .ref mo), (1, .int (nI k0))]) (st' := [.ref mo, .ref mo]) hl bkX6_findPieces_56_58 rfl (fun ls hl => ?_)
            refine m_get B hw 21 (by decide) wd_F_X6_201 (congrArg some h21) dX6_findPieces_58 ?_
            refine pb_blk B.hx B.hb (lv' := [(2, .int (nI k)), (0, .ref mo), (1, .int (nI k0))]) (st' := [.int ((nI (pcn z.2.2 k)) + 1), .ref mo]) hl bkX6_findPieces_61_63 rfl (fun ls hl => ?_)
            rw [nI_1]
            refine m_put B hw 21 (by decide) wd_F_X6_201 rfl rfl rfl rfl dX6_findPieces_63 (fun H locs hw => ?_)
            refine pb_blk B.hx B.hb (lv' := [(2, .int (nI k)), (0, .ref mo), (1, .int (nI k0))]) (st' := [.ref mo]) hl bkX6_findPieces_66_67 rfl (fun ls hl => ?_)
            refine m_get B hw 23 (by decide) wd_F_X6_60 rfl dX6_findPieces_67 ?_
            refine pb_blk B.hx B.hb (lv' := [(2, .int (nI k)), (0, .ref mo), (1, .int (nI k0))]) (st' := [.ref mo, .ref (mo + 17)]) hl bkX6_findPieces_70_71 rfl (fun ls hl => ?_)
            refine m_get B hw 21 (by decide) wd_F_X6_201 (congrArg some (show _ = (.int (nI (pcn z.2.2 k + 1)) : Value) from rfl)) dX6_findPieces_71 ?_
            refine pb_blk B.hx B.hb (lv' := [(2, .int (nI k)), (0, .ref mo), (1, .int (nI k0))]) (st' := [.int (nI k), .int ((nI (pcn z.2.2 k + 1)) - 1), .ref (mo + 17)]) hl bkX6_findPieces_74_77 rfl (fun ls hl => ?_)
            rw [nI_sub1]
            refine m_iast B hw 17 (by decide) (by decide) rfl (vp_in_nI (show pcn z.2.2 k < 161 by omega) (by decide)) dX6_findPieces_77 (fun H locs hw => ?_)
            rw [nI_clamp (show pcn z.2.2 k < 2 ^ 31 by omega)] at hw
            refine pb_blk B.hx B.hb (lv' := [(2, .int ((nI k) + 1)), (0, .ref mo), (1, .int (nI k0))]) (st' := []) hl bkX6_findPieces_78_7 rfl (fun ls hl => ?_)
            exact ih (k + 1) _ _ _ _ ls (by omega) (by omega) hw (fun j hj => (va_up_ne _ _ hj).trans (hS j hj)) (by rw [pcn_y hs]; rfl) (fun a g1 g2 => (oth2 g1 g2).trans (ho a g1 g2)) (hf.new hs rfl rfl) (by rw [← nI_1]; exact lv_sub hl [0, 1, 2] rfl)
          · have e0 : k ≠ 0 := fun q => h3 (by rw [q]; rfl)
            have esub : nI k - 1 = nI (k - 1) := by rw [show k = (k - 1) + 1 by omega, nI_sub1, Nat.add_sub_cancel]
            refine pb_blk B.hx B.hb (lv' := [(2, .int (nI k)), (0, .ref mo), (1, .int (nI k0))]) (st' := [.int ((nI k) - 1), .int (nI k0), .ref mo]) hl bkX6_findPieces_35_40 rfl (fun ls hl => ?_)
            rw [esub]
            refine m_callN B hw (c_X6_mark l G (fun _ => False) mo S1 ct1 k0 (k - 1) (z.2.2 (k - 1)) (by omega) (hz2.2.2.2 (k - 1) (by omega))) cy_X6_mark im_X6_mark se_X6_mark wd_M_X6_161 hw.1 rfl hl.1 rfl (Nat.le_of_ble_eq_true rfl) ⟨by decide, by decide⟩ ⟨rfl, rfl⟩ ⟨Nat.le_refl _, Nat.le_refl _⟩ dX6_findPieces_40 (fun v hv => ?_)
            rw [po_X6_mark] at hv
            subst hv
            refine lv_if_ne (tgt := 66) B.hx B.hb dX6_findPieces_43 (by decide) (fun h4 => ?_) (fun h4 => ?_)
            · have m2 : z.2.2 (k - 1) = true := ts9 (fun q => h4 ((b2i_0 _).mpr q))
              have hns : ¬ sp z.2.2 k = true := fun q => by rcases (sp_t.mp q).2 with q1 | q1; exact e0 q1; rw [m2] at q1; exact absurd q1 (by decide)
              obtain ⟨P, hPP⟩ : ∃ P, pcn z.2.2 k = P + 1 := ⟨pcn z.2.2 k - 1, by have h9 := pcn_pos m2 (show k - 1 < k by omega); omega⟩
              refine pb_blk B.hx B.hb (lv' := [(2, .int (nI k)), (0, .ref mo), (1, .int (nI k0))]) (st' := [.ref mo]) hl bkX6_findPieces_66_67 rfl (fun ls hl => ?_)
              refine m_get B hw 23 (by decide) wd_F_X6_60 rfl dX6_findPieces_67 ?_
              refine pb_blk B.hx B.hb (lv' := [(2, .int (nI k)), (0, .ref mo), (1, .int (nI k0))]) (st' := [.ref mo, .ref (mo + 17)]) hl bkX6_findPieces_70_71 rfl (fun ls hl => ?_)
              refine m_get B hw 21 (by decide) wd_F_X6_201 (congrArg some h21) dX6_findPieces_71 ?_
              refine pb_blk B.hx B.hb (lv' := [(2, .int (nI k)), (0, .ref mo), (1, .int (nI k0))]) (st' := [.int (nI k), .int ((nI (pcn z.2.2 k)) - 1), .ref (mo + 17)]) hl bkX6_findPieces_74_77 rfl (fun ls hl => ?_)
              rw [show nI (pcn z.2.2 k) - 1 = nI P by rw [hPP, nI_sub1]]
              refine m_iast B hw 17 (by decide) (by decide) rfl (vp_in_nI (show P < 161 by omega) (by decide)) dX6_findPieces_77 (fun H locs hw => ?_)
              rw [nI_clamp (show P < 2 ^ 31 by omega)] at hw
              refine pb_blk B.hx B.hb (lv' := [(2, .int ((nI k) + 1)), (0, .ref mo), (1, .int (nI k0))]) (st' := []) hl bkX6_findPieces_78_7 rfl (fun ls hl => ?_)
              exact ih (k + 1) _ _ _ _ ls (by omega) (by omega) hw hS (by rw [pcn_n hns]; exact h21) (fun a g1 g2 => (va_up_ne _ _ g2).trans (ho a g1 g2)) (hf.more m1 (by omega) m2 hPP rfl rfl) (by rw [← nI_1]; exact lv_sub hl [0, 1, 2] rfl)
            · have m2 : z.2.2 (k - 1) = false := (b2i_0 _).mp h4
              have hs : sp z.2.2 k = true := sp_t.mpr ⟨m1, Or.inr m2⟩
              have hph2 := hph.2 (sp_t.mp hs).2
              refine pb_blk B.hx B.hb (lv' := [(2, .int (nI k)), (0, .ref mo), (1, .int (nI k0))]) (st' := [.ref mo]) hl bkX6_findPieces_46_47 rfl (fun ls hl => ?_)
              refine m_get B hw 22 (by decide) wd_F_X6_57 rfl dX6_findPieces_47 ?_
              refine pb_blk B.hx B.hb (lv' := [(2, .int (nI k)), (0, .ref mo), (1, .int (nI k0))]) (st' := [.ref mo, .ref (mo + 16)]) hl bkX6_findPieces_50_51 rfl (fun ls hl => ?_)
              refine m_get B hw 21 (by decide) wd_F_X6_201 (congrArg some h21) dX6_findPieces_51 ?_
              refine pb_blk B.hx B.hb (lv' := [(2, .int (nI k)), (0, .ref mo), (1, .int (nI k0))]) (st' := [.int (nI k), .int (nI (pcn z.2.2 k)), .ref (mo + 16)]) hl bkX6_findPieces_54_55 rfl (fun ls hl => ?_)
              refine m_iast B hw 16 (by decide) (by decide) rfl (vp_in_nI (show pcn z.2.2 k < 161 by omega) (by decide)) dX6_findPieces_55 (fun H locs hw => ?_)
              rw [nI_clamp (show pcn z.2.2 k < 2 ^ 31 by omega)] at hw
              refine pb_blk B.hx B.hb (lv' := [(2, .int (nI k)), (0, .ref mo), (1, .int (nI k0))]) (st' := [.ref mo, .ref mo]) hl bkX6_findPieces_56_58 rfl (fun ls hl => ?_)
              refine m_get B hw 21 (by decide) wd_F_X6_201 (congrArg some h21) dX6_findPieces_58 ?_
              refine pb_blk B.hx B.hb (lv' := [(2, .int (nI k)), (0, .ref mo), (1, .int (nI k0))]) (st' := [.int ((nI (pcn z.2.2 k)) + 1), .ref mo]) hl bkX6_findPieces_61_63 rfl (fun ls hl => ?_)
              rw [nI_1]
              refine m_put B hw 21 (by decide) wd_F_X6_201 rfl rfl rfl rfl dX6_findPieces_63 (fun H locs hw => ?_)
              refine pb_blk B.hx B.hb (lv' := [(2, .int (nI k)), (0, .ref mo), (1, .int (nI k0))]) (st' := [.ref mo]) hl bkX6_findPieces_66_67 rfl (fun ls hl => ?_)
              refine m_get B hw 23 (by decide) wd_F_X6_60 rfl dX6_findPieces_67 ?_
              refine pb_blk B.hx B.hb (lv' := [(2, .int (nI k)), (0, .ref mo), (1, .int (nI k0))]) (st' := [.ref mo, .ref (mo + 17)]) hl bkX6_findPieces_70_71 rfl (fun ls hl => ?_)
              refine m_get B hw 21 (by decide) wd_F_X6_201 (congrArg some (show _ = (.int (nI (pcn z.2.2 k + 1)) : Value) from rfl)) dX6_findPieces_71 ?_
              refine pb_blk B.hx B.hb (lv' := [(2, .int (nI k)), (0, .ref mo), (1, .int (nI k0))]) (st' := [.int (nI k), .int ((nI (pcn z.2.2 k + 1)) - 1), .ref (mo + 17)]) hl bkX6_findPieces_74_77 rfl (fun ls hl => ?_)
              rw [nI_sub1]
              refine m_iast B hw 17 (by decide) (by decide) rfl (vp_in_nI (show pcn z.2.2 k < 161 by omega) (by decide)) dX6_findPieces_77 (fun H locs hw => ?_)
              rw [nI_clamp (show pcn z.2.2 k < 2 ^ 31 by omega)] at hw
              refine pb_blk B.hx B.hb (lv' := [(2, .int ((nI k) + 1)), (0, .ref mo), (1, .int (nI k0))]) (st' := []) hl bkX6_findPieces_78_7 rfl (fun ls hl => ?_)
              exact ih (k + 1) _ _ _ _ ls (by omega) (by omega) hw (fun j hj => (va_up_ne _ _ hj).trans (hS j hj)) (by rw [pcn_y hs]; rfl) (fun a g1 g2 => (oth2 g1 g2).trans (ho a g1 g2)) (hf.new hs rfl rfl) (by rw [← nI_1]; exact lv_sub hl [0, 1, 2] rfl)
        · have m0 : z.2.2 k = false := (b2i_0 _).mp h2
          have hns : ¬ sp z.2.2 k = true := fun q => by rw [(sp_t.mp q).1] at m0; exact absurd m0 (by decide)
          refine pb_blk B.hx B.hb (lv' := [(2, .int ((nI k) + 1)), (0, .ref mo), (1, .int (nI k0))]) (st' := []) hl bkX6_findPieces_28_7 rfl (fun ls hl => ?_)
          exact ih (k + 1) _ _ _ _ ls (by omega) (by omega) hw hS (by rw [pcn_n hns]; exact h21) ho (hf.off m0) (by rw [← nI_1]; exact lv_sub hl [0, 1, 2] rfl)
  refine pb_blk B.hx B.hb (lv' := [(0, .ref mo), (1, .int (nI k0))]) (st' := [.int 0, .ref mo]) hl bkX6_findPieces_0_2 rfl (fun ls hl => ?_)
  refine m_put B hw 21 (by decide) wd_F_X6_201 rfl rfl rfl rfl dX6_findPieces_2 (fun H locs hw => ?_)
  refine pb_blk B.hx B.hb (lv' := [(2, .int 0), (0, .ref mo), (1, .int (nI k0))]) (st' := []) hl bkX6_findPieces_5_7 rfl (fun ls hl => ?_)
  exact loop (2 * z.1 + 2) 0 _ _ _ ct ls (by omega) (by omega) hw (fun k hk => va_up_ne _ _ hk) rfl (fun _ _ _ => rfl) (fun c hc => absurd hc (Nat.not_lt_zero _)) (lv_sub hl [0, 1, 2] rfl)

