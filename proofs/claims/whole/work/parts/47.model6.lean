def MkK (N : Nat) (th : Nat → Th) (as : St3) (R : Nat → Th → Prop) (v : Option Value) (S2 : Sc) (ct2 : Ct) : Prop := ∃ c t, R c t ∧ S2 0 = .int (nI c) ∧ ((c = 0 ∧ v = some (.int (nI N)) ∧ Pst (N + 1) (upT th N t) as S2 ct2) ∨ (c ≠ 0 ∧ (∃ r, v = some (.int r)) ∧ Pst N th as S2 ct2))
theorem MkK.mono {N : Nat} {th : Nat → Th} {as : St3} {R R' : Nat → Th → Prop} {v : Option Value} {S2 : Sc} {ct2 : Ct} (h : MkK N th as R v S2 ct2) (hr : ∀ c t, R c t → R' c t) : MkK N th as R' v S2 ct2 := by
  obtain ⟨c, t, h1, h2⟩ := h
  exact ⟨c, t, hr c t h1, h2⟩
theorem dgI_cg {u v : Nat → Rat} (h : ∀ k, k < 4 → u k = v k) : tgF u = tgF v ∧ kdF u = kdF v := by
  refine ⟨?_, by unfold kdF; rw [dgI_congr h]⟩
  unfold tgF
  rw [h 0 (by decide), h 1 (by decide), h 2 (by decide), h 3 (by decide)]
theorem FoA.cg {ct : Ct} {k : Nat} {u v : Nat → Rat} (h : FoA ct k u) (e : ∀ k, k < 4 → u k = v k) : FoA ct k v := ⟨by rw [← (dgI_cg e).2]; exact h.1, fun i hi => by rw [← e i hi]; exact h.2 i hi⟩
theorem hg_sm {v : Nat → Rat} (h : ∀ i, 4 ≤ i → i < 10 → v i = 0) : hgN v 10 ≤ 3 := by
  have aux : ∀ k, 4 ≤ k → k ≤ 10 → hgN v k = hgN v 4 := by
    intro k
    induction k with
    | zero => intro h1; omega
    | succ k ih =>
      intro h1 h2
      by_cases e : k + 1 = 4
      · rw [e]
      · show (if v k ≠ 0 then nI k else hgN v k) = _
        rw [if_neg (by simp [h k (by omega) (by omega)])]
        exact ih (by omega) (by omega)
  rw [aux 10 (by decide) (by decide)]
  show (if v 3 ≠ 0 then nI 3 else if v 2 ≠ 0 then nI 2 else if v 1 ≠ 0 then nI 1 else if v 0 ≠ 0 then nI 0 else -1) ≤ 3
  split
  · decide
  · split
    · decide
    · split
      · decide
      · split <;> decide
theorem hg_big {v : Nat → Rat} {m : Nat} (h1 : 4 ≤ m) (h2 : m < 10) (h : v m ≠ 0) : ¬ hgN v 10 ≤ 3 := fun q => h ((hgN_dg q).2 m h1 h2)
/-- what keep does, told of the thing that is made -/
theorem kp_of {N : Nat} {th : Nat → Th} {as : St3} {bd : Nat} {v w : Nat → Rat} {S1 S2 : Sc} {ct1 ct2 : Ct} {r : Option Value} (hP : Pst N th as S1 ct1) (hb : bd ≠ 0) (h : KpM N th as bd (.inl v) (80 ≤ N ∨ ¬ hgN v 10 ≤ 3 ∨ tgF v = true) S1 ct1 r S2 ct2) (e : ∀ k, k < 4 → v k = w k) (h0 : ∀ i, 4 ≤ i → i < 10 → v i = 0) : MkK N th as (Kp N bd (.inl w)) r S2 ct2 := by
  have hg := hg_sm h0
  rcases h with ⟨g, rfl, rfl, rfl⟩ | ⟨g, rfl, e0, hp⟩
  · refine ⟨bd, .inl w, Or.inl ⟨rfl, ?_⟩, rfl, Or.inr ⟨hb, ⟨_, rfl⟩, hP.ag rfl Ag.rf⟩⟩
    rcases g with g | g | g
    · exact Or.inl g
    · exact absurd hg g
    · exact Or.inr (by show tgF w = true; rw [← (dgI_cg e).1]; exact g)
  · have hN : N < 80 := by
      rcases Nat.lt_or_ge N 80 with q | q
      · exact q
      · exact absurd (Or.inl q) g
    have ht : tgF w = false := by
      rw [← (dgI_cg e).1]
      cases e9 : tgF v
      · rfl
      · exact absurd (Or.inr (Or.inr e9)) g
    refine ⟨0, .inl w, Or.inr ⟨rfl, hN, ht, rfl⟩, e0, Or.inl ⟨rfl, rfl, hp.1, hp.2.1, fun k hk => ?_, hp.2.2.2⟩⟩
    have h9 := hp.2.2.1 k hk
    by_cases ek : k = N
    · subst ek
      rw [upT_at] at h9 ⊢
      exact FoA.cg h9 e
    · rw [upT_ne _ _ ek] at h9 ⊢
      exact h9
/-- where more than the fourth place is filled -/
theorem kp_big {N : Nat} {th : Nat → Th} {as : St3} {bd m : Nat} {v : Nat → Rat} {S1 S2 : Sc} {ct1 ct2 : Ct} {r : Option Value} (hP : Pst N th as S1 ct1) (hb : bd ≠ 0) (h : KpM N th as bd (.inl v) (80 ≤ N ∨ ¬ hgN v 10 ≤ 3 ∨ tgF v = true) S1 ct1 r S2 ct2) (h1 : 4 ≤ m) (h2 : m < 10) (hv : v m ≠ 0) : S2 0 = .int (nI bd) ∧ bd ≠ 0 ∧ (∃ x, r = some (.int x)) ∧ Pst N th as S2 ct2 := by
  rcases h with ⟨g, rfl, rfl, rfl⟩ | ⟨g, -⟩
  · exact ⟨rfl, hb, ⟨_, rfl⟩, hP.ag rfl Ag.rf⟩
  · exact absurd (Or.inr (Or.inl (hg_big h1 h2 hv))) g
theorem ext_lo {u : Nat → Rat} {k : Nat} (h : k < 4) : ext u k = u k := if_pos h
theorem ext_hi {u : Nat → Rat} {k : Nat} (h : 4 ≤ k) : ext u k = 0 := if_neg (by omega)
theorem hg_ext (u : Nat → Rat) : hgN (ext u) 10 = dgI u := by
  rw [(hgN_dg (hg_sm (fun i h1 h2 => ext_hi h1))).1]
  exact dgI_congr (fun k hk => ext_lo hk)

theorem row_set {ct : Ct} {x y n : Nat} {u w : Nat → Rat} {p d : Int64} (hxy : x ≠ y) (h : RwL ct x y n u) (hf : Frx p d (w 0)) (e : ∀ i, i ≠ 0 → w i = u i) : RwL (va_up (va_up ct x (updV (ct x) 0 (.long p))) y (updV ((va_up ct x (updV (ct x) 0 (.long p))) y) 0 (.long d))) x y n w := by
  intro i hi
  rw [va_up_ne _ _ hxy, va_up_self, va_up_self, va_up_ne _ _ hxy.symm]
  by_cases e0 : i = 0
  · subst e0; exact ⟨p, d, updV_at, updV_at, hf⟩
  · obtain ⟨p1, d1, e1, e2, e3⟩ := h i hi
    exact ⟨p1, d1, by rw [updV_ne e0]; exact e1, by rw [updV_ne e0]; exact e2, by rw [e i e0]; exact e3⟩
theorem row_put {ct : Ct} {x y n k : Nat} {u w : Nat → Rat} {p d : Int64} (hxy : x ≠ y) (h : RwL ct x y n u) (hf : Frx p d (w k)) (e : ∀ i, i < n → i ≠ k → w i = u i) : RwL (va_up (va_up ct x (updV (ct x) k (.long p))) y (updV ((va_up ct x (updV (ct x) k (.long p))) y) k (.long d))) x y n w := by
  intro i hi
  rw [va_up_ne _ _ hxy, va_up_self, va_up_self, va_up_ne _ _ hxy.symm]
  by_cases e0 : i = k
  · subst e0; exact ⟨p, d, updV_at, updV_at, hf⟩
  · obtain ⟨p1, d1, e1, e2, e3⟩ := h i hi
    exact ⟨p1, d1, by rw [updV_ne e0]; exact e1, by rw [updV_ne e0]; exact e2, by rw [e i hi e0]; exact e3⟩

def po_X6_number (mo : Nat) (S : Sc) (ct : Ct) (N : Nat) (th : Nat → Th) (as : St3) (f0 g0 : Int32) : Option Value → Sc → Ct → Prop := fun v S2 ct2 => MkK N th as (R_number N f0 g0) v S2 ct2
theorem bkX6_number_0_1 : pb_chk cX6_number 0 [.iload_n 2] = some 1 := by decide +kernel
theorem dX6_number_1 : decode cX6_number 1 = .ok (.ifCond .ne 9, 3) := by decide +kernel
theorem bkX6_number_10_11 : pb_chk cX6_number 10 [.aload_n 0] = some 11 := by decide +kernel
theorem dX6_number_11 : decode cX6_number 11 = .ok (.invokevirtual 101, 3) := by decide +kernel
theorem bkX6_number_14_19 : pb_chk cX6_number 14 [.aload_n 0, .iload_n 1, .i2l, .iload_n 2, .i2l] = some 19 := by decide +kernel
theorem dX6_number_19 : decode cX6_number 19 = .ok (.invokevirtual 78, 3) := by decide +kernel
theorem bkX6_number_22_23 : pb_chk cX6_number 22 [.aload_n 0] = some 23 := by decide +kernel
theorem dX6_number_23 : decode cX6_number 23 = .ok (.getfield 33, 3) := by decide +kernel
theorem bkX6_number_26_28 : pb_chk cX6_number 26 [.iconst 0, .aload_n 0] = some 28 := by decide +kernel
theorem dX6_number_28 : decode cX6_number 28 = .ok (.getfield 71, 3) := by decide +kernel
theorem dX6_number_31 : decode cX6_number 31 = .ok (.lastore, 1) := by decide +kernel
theorem bkX6_number_32_33 : pb_chk cX6_number 32 [.aload_n 0] = some 33 := by decide +kernel
theorem dX6_number_33 : decode cX6_number 33 = .ok (.getfield 36, 3) := by decide +kernel
theorem bkX6_number_36_38 : pb_chk cX6_number 36 [.iconst 0, .aload_n 0] = some 38 := by decide +kernel
theorem dX6_number_38 : decode cX6_number 38 = .ok (.getfield 75, 3) := by decide +kernel
theorem dX6_number_41 : decode cX6_number 41 = .ok (.lastore, 1) := by decide +kernel
theorem bkX6_number_42_44 : pb_chk cX6_number 42 [.aload_n 0, .iconst 2] = some 44 := by decide +kernel
theorem dX6_number_44 : decode cX6_number 44 = .ok (.invokevirtual 104, 3) := by decide +kernel
theorem dX6_number_47 : decode cX6_number 47 = .ok (.ireturn, 1) := by decide +kernel
theorem bkX6_number_4_6 : pb_chk cX6_number 4 [.aload_n 0, .iconst 1] = some 6 := by decide +kernel
theorem dX6_number_6 : decode cX6_number 6 = .ok (.invokevirtual 97, 3) := by decide +kernel
theorem dX6_number_9 : decode cX6_number 9 = .ok (.ireturn, 1) := by decide +kernel
set_option maxHeartbeats 4000000 in
set_option maxRecDepth 100000 in
theorem c_X6_number (l : Launch) (G : Gm) (mo : Nat) (S : Sc) (ct : Ct) (N : Nat) (th : Nat → Th) (as : St3) (f0 g0 : Int32) (hP : Pst N th as S ct) : Mm l yX6_number cX6_number 3 (some .int) (⟨2, 0, 0, 55⟩ : Room) G mo S ct [.ref mo, .int f0, .int g0] (po_X6_number mo S ct N th as f0 g0) := by
  refine of_met (by decide) (Nat.le_of_ble_eq_true rfl) ?_
  intro p e s m below meth c ls B hA hM0 hl
  have hw := Mw.start hM0
  refine pb_blk B.hx B.hb (lv' := [(0, .ref mo), (1, .int f0), (2, .int g0)]) (st' := [.int g0]) hl bkX6_number_0_1 rfl (fun ls hl => ?_)
  refine lv_if_ne (tgt := 10) B.hx B.hb dX6_number_1 (by decide) (fun h1 => ?_) (fun h1 => ?_)
  · have r1 := Int32.toInt_toInt64 f0
    have r2 := Int32.toInt_toInt64 g0
    have b1 := f0.le_toInt
    have b2 := f0.toInt_lt
    have b3 := g0.le_toInt
    have b4 := g0.toInt_lt
    have hq : g0.toInt64.toInt ≠ 0 := by rw [r2]; exact fun q => h1 (Int32.toInt_inj.mp q)
    refine pb_blk B.hx B.hb (lv' := [(0, .ref mo), (1, .int f0), (2, .int g0)]) (st' := [.ref mo]) hl bkX6_number_10_11 rfl (fun ls hl => ?_)
    refine m_callV B hw (c_X6_clear l G mo S ct) cy_X6_clear im_X6_clear se_X6_clear wd_M_X6_101 rfl hl.1 rfl (Nat.le_of_ble_eq_true rfl) ⟨by decide, by decide⟩ ⟨rfl, rfl⟩ ⟨Nat.le_refl _, Nat.le_refl _⟩ dX6_number_11 (fun v H locs Sa cta hw_11 hv => ?_)
    obtain ⟨rfl, rfl, hr, ho⟩ := hv
    have hw := hw_11
    refine pb_blk B.hx B.hb (lv' := [(0, .ref mo), (1, .int f0), (2, .int g0)]) (st' := [.long g0.toInt64, .long f0.toInt64, .ref mo]) hl bkX6_number_14_19 rfl (fun ls hl => ?_)
    refine m_callV B hw (c_X6_lowest l G mo _ cta f0.toInt64 g0.toInt64 (by omega) hq (by omega)) cy_X6_lowest im_X6_lowest se_X6_lowest wd_M_X6_78 rfl hl.1 rfl (Nat.le_of_ble_eq_true rfl) ⟨by decide, by decide⟩ ⟨rfl, rfl⟩ ⟨Nat.le_refl _, Nat.le_refl _⟩ dX6_number_19 (fun v H locs Sb ctb hw_12 hv => ?_)
    obtain ⟨rfl, rfl, n, d, rfl, hf⟩ := hv
    have hw := hw_12
    rw [r1, r2] at hf
    refine pb_blk B.hx B.hb (lv' := [(0, .ref mo), (1, .int f0), (2, .int g0)]) (st' := [.ref mo]) hl bkX6_number_22_23 rfl (fun ls hl => ?_)
    refine m_get B hw 9 (by decide) wd_F_X6_33 rfl dX6_number_23 ?_
    refine pb_blk B.hx B.hb (lv' := [(0, .ref mo), (1, .int f0), (2, .int g0)]) (st' := [.ref mo, .int 0, .ref (mo + 8)]) hl bkX6_number_26_28 rfl (fun ls hl => ?_)
    refine m_get B hw 13 (by decide) wd_F_X6_71 (congrArg some (show _ = Value.long n from rfl)) dX6_number_28 ?_
    rw [show (0 : Int32) = nI 0 from rfl]
    refine m_last B hw 8 (by decide) (by decide) rfl (vp_in_nI (show 0 < 10 by omega) (by decide)) dX6_number_31 (fun H locs hw => ?_)
    rw [nI_clamp (show 0 < 2 ^ 31 by omega)] at hw
    refine pb_blk B.hx B.hb (lv' := [(0, .ref mo), (1, .int f0), (2, .int g0)]) (st' := [.ref mo]) hl bkX6_number_32_33 rfl (fun ls hl => ?_)
    refine m_get B hw 10 (by decide) wd_F_X6_36 rfl dX6_number_33 ?_
    refine pb_blk B.hx B.hb (lv' := [(0, .ref mo), (1, .int f0), (2, .int g0)]) (st' := [.ref mo, .int 0, .ref (mo + 9)]) hl bkX6_number_36_38 rfl (fun ls hl => ?_)
    refine m_get B hw 14 (by decide) wd_F_X6_75 (congrArg some (show _ = Value.long d from rfl)) dX6_number_38 ?_
    rw [show (0 : Int32) = nI 0 from rfl]
    refine m_last B hw 9 (by decide) (by decide) rfl (vp_in_nI (show 0 < 10 by omega) (by decide)) dX6_number_41 (fun H locs hw => ?_)
    rw [nI_clamp (show 0 < 2 ^ 31 by omega)] at hw
    refine pb_blk B.hx B.hb (lv' := [(0, .ref mo), (1, .int f0), (2, .int g0)]) (st' := [.int 2, .ref mo]) hl bkX6_number_42_44 rfl (fun ls hl => ?_)
    obtain ⟨ct3, h3⟩ : ∃ z, z = va_up (va_up ctb 8 (updV (ctb 8) 0 (.long n))) 9 (updV ((va_up ctb 8 (updV (ctb 8) 0 (.long n))) 9) 0 (.long d)) := ⟨_, rfl⟩
    rw [show va_up (va_up ctb 8 (updV (ctb 8) 0 (.long n))) 9 (updV ((va_up ctb 8 (updV (ctb 8) 0 (.long n))) 9) 0 (.long d)) = ct3 from h3.symm] at hw
    have hr3 : RwL ct3 8 9 10 (cst (Rat.divInt f0.toInt g0.toInt)) := by rw [h3]; exact row_set (by decide) hr hf (fun i hi => if_neg hi)
    have hP3 := hP.ag (S' := va_up (va_up Sa 13 (.long n)) 14 (.long d)) rfl (Ag.hi (ct' := ct3) (fun a g1 g2 => by rw [h3, oth2 (by omega) (by omega)]; exact ho a (by omega) (by omega)))
    rw [show (2 : Int32) = nI 2 from rfl]
    refine m_callV B hw (c_X6_keep l G mo _ ct3 N th as 2 (cst (Rat.divInt f0.toInt g0.toInt)) hP3 hr3) cy_X6_keep im_X6_keep se_X6_keep wd_M_X6_104 rfl hl.1 rfl (Nat.le_of_ble_eq_true rfl) ⟨by decide, by decide⟩ ⟨rfl, rfl⟩ ⟨Nat.le_refl _, Nat.le_refl _⟩ dX6_number_44 (fun v H locs Sd ctd hw_13 hv => ?_)
    have hk := kp_of hP3 (by decide) hv (fun _ _ => rfl) (fun i g1 g2 => if_neg (by omega))
    have hw := hw_13
    obtain ⟨c9, t9, g1, g2, g3⟩ := hk
    have hval : ∃ r, v = some (.int r) := by rcases g3 with ⟨-, e9, -⟩ | ⟨-, ⟨r9, e9⟩, -⟩; exact ⟨_, e9⟩; exact ⟨_, e9⟩
    obtain ⟨r9, rfl⟩ := hval
    exact m_iret (v := r9) B hw dX6_number_47 (by exact ⟨c9, t9, Or.inr ⟨h1, g1⟩, g2, g3⟩) (Nat.le_of_ble_eq_true rfl) (Nat.le_of_ble_eq_true rfl)
  · refine pb_blk B.hx B.hb (lv' := [(0, .ref mo), (1, .int f0), (2, .int g0)]) (st' := [.int 1, .ref mo]) hl bkX6_number_4_6 rfl (fun ls hl => ?_)
    refine m_callV B hw (c_X6_raise l G mo S ct 1) cy_X6_raise im_X6_raise se_X6_raise wd_M_X6_97 rfl hl.1 rfl (Nat.le_of_ble_eq_true rfl) ⟨by decide, by decide⟩ ⟨rfl, rfl⟩ ⟨Nat.le_refl _, Nat.le_refl _⟩ dX6_number_6 (fun v H locs S1 ct1 hw_14 hv => ?_)
    obtain ⟨rfl, rfl, rfl⟩ := hv
    have hw := hw_14
    exact m_iret (v := 0) B hw dX6_number_9 (by exact ⟨1, .inl (fun _ => 0), Or.inl ⟨rfl, h1⟩, rfl, Or.inr ⟨by decide, ⟨_, rfl⟩, hP.ag rfl Ag.rf⟩⟩) (Nat.le_of_ble_eq_true rfl) (Nat.le_of_ble_eq_true rfl)

theorem asl1 (k : Nat) : asl (cst 1) 4 k = if k = 1 then 1 else 0 := by
  unfold asl cst
  by_cases h : k = 1
  · subst h
    rw [if_pos (by decide), if_pos (by decide), if_pos rfl, Rat.one_mul]
    decide
  · rw [if_neg h]
    split
    · next h2 => rw [if_neg (by omega), Rat.zero_mul]
    · rfl

def po_X6_letter (mo : Nat) (S : Sc) (ct : Ct) (N : Nat) (th : Nat → Th) (as : St3) : Option Value → Sc → Ct → Prop := fun v S2 ct2 => MkK N th as (R_letter N) v S2 ct2
theorem bkX6_letter_0_1 : pb_chk cX6_letter 0 [.aload_n 0] = some 1 := by decide +kernel
theorem dX6_letter_1 : decode cX6_letter 1 = .ok (.invokevirtual 101, 3) := by decide +kernel
theorem bkX6_letter_4_5 : pb_chk cX6_letter 4 [.aload_n 0] = some 5 := by decide +kernel
theorem dX6_letter_5 : decode cX6_letter 5 = .ok (.getfield 33, 3) := by decide +kernel
theorem bkX6_letter_8_10 : pb_chk cX6_letter 8 [.iconst 1, .lconst 1] = some 10 := by decide +kernel
theorem dX6_letter_10 : decode cX6_letter 10 = .ok (.lastore, 1) := by decide +kernel
theorem bkX6_letter_11_13 : pb_chk cX6_letter 11 [.aload_n 0, .iconst 1] = some 13 := by decide +kernel
theorem dX6_letter_13 : decode cX6_letter 13 = .ok (.invokevirtual 104, 3) := by decide +kernel
theorem dX6_letter_16 : decode cX6_letter 16 = .ok (.ireturn, 1) := by decide +kernel
set_option maxHeartbeats 4000000 in
set_option maxRecDepth 100000 in
theorem c_X6_letter (l : Launch) (G : Gm) (mo : Nat) (S : Sc) (ct : Ct) (N : Nat) (th : Nat → Th) (as : St3) (hP : Pst N th as S ct) : Mm l yX6_letter cX6_letter 1 (some .int) (⟨2, 0, 0, 55⟩ : Room) G mo S ct [.ref mo] (po_X6_letter mo S ct N th as) := by
  refine of_met (by decide) (Nat.le_of_ble_eq_true rfl) ?_
  intro p e s m below meth c ls B hA hM0 hl
  have hw := Mw.start hM0
  refine pb_blk B.hx B.hb (lv' := [(0, .ref mo)]) (st' := [.ref mo]) hl bkX6_letter_0_1 rfl (fun ls hl => ?_)
  refine m_callV B hw (c_X6_clear l G mo S ct) cy_X6_clear im_X6_clear se_X6_clear wd_M_X6_101 rfl hl.1 rfl (Nat.le_of_ble_eq_true rfl) ⟨by decide, by decide⟩ ⟨rfl, rfl⟩ ⟨Nat.le_refl _, Nat.le_refl _⟩ dX6_letter_1 (fun v H locs Sa cta hw_15 hv => ?_)
  obtain ⟨rfl, rfl, hr, ho⟩ := hv
  have hw := hw_15
  refine pb_blk B.hx B.hb (lv' := [(0, .ref mo)]) (st' := [.ref mo]) hl bkX6_letter_4_5 rfl (fun ls hl => ?_)
  refine m_get B hw 9 (by decide) wd_F_X6_33 rfl dX6_letter_5 ?_
  refine pb_blk B.hx B.hb (lv' := [(0, .ref mo)]) (st' := [.long 1, .int 1, .ref (mo + 8)]) hl bkX6_letter_8_10 rfl (fun ls hl => ?_)
  rw [show (1 : Int32) = nI 1 from rfl]
  refine m_last B hw 8 (by decide) (by decide) rfl (vp_in_nI (show 1 < 10 by omega) (by decide)) dX6_letter_10 (fun H locs hw => ?_)
  rw [nI_clamp (show 1 < 2 ^ 31 by omega)] at hw
  refine pb_blk B.hx B.hb (lv' := [(0, .ref mo)]) (st' := [.int 1, .ref mo]) hl bkX6_letter_11_13 rfl (fun ls hl => ?_)
  obtain ⟨ct3, h3⟩ : ∃ z, z = va_up cta 8 (updV (cta 8) 1 (.long 1)) := ⟨_, rfl⟩
  rw [← h3] at hw
  have hr3 : RwL ct3 8 9 10 (asl (cst 1) 4) := fun i hi => by obtain ⟨p1, d1, e1, e2, e3⟩ := hr i hi; rw [h3, asl1]; by_cases e9 : i = 1; rw [if_pos e9, e9]; obtain ⟨p2, d2, f1, f2, f3⟩ := hr 1 (by decide); exact ⟨1, d2, by rw [va_up_self]; exact updV_at, by rw [va_up_ne _ _ (by decide)]; exact f2, rfl, f3.2⟩; rw [if_neg e9]; exact ⟨p1, d1, by rw [va_up_self]; exact (updV_ne e9).trans e1, by rw [va_up_ne _ _ (by decide)]; exact e2, e3⟩
  have hP3 := hP.ag (S' := Sa) rfl (Ag.hi (ct' := ct3) (fun a g1 g2 => by rw [h3, va_up_ne _ _ (by omega)]; exact ho a (by omega) (by omega)))
  rw [show (1 : Int32) = nI 1 from rfl]
  refine m_callV B hw (c_X6_keep l G mo _ ct3 N th as 1 (asl (cst 1) 4) hP3 hr3) cy_X6_keep im_X6_keep se_X6_keep wd_M_X6_104 rfl hl.1 rfl (Nat.le_of_ble_eq_true rfl) ⟨by decide, by decide⟩ ⟨rfl, rfl⟩ ⟨Nat.le_refl _, Nat.le_refl _⟩ dX6_letter_13 (fun v H locs Sd ctd hw_16 hv => ?_)
  have hk := kp_of hP3 (by decide) hv (fun _ _ => rfl) (fun i g1 g2 => by rw [asl1, if_neg (by omega)])
  have hw := hw_16
  obtain ⟨c9, t9, g1, g2, g3⟩ := hk
  have hval : ∃ r, v = some (.int r) := by rcases g3 with ⟨-, e9, -⟩ | ⟨-, ⟨r9, e9⟩, -⟩; exact ⟨_, e9⟩; exact ⟨_, e9⟩
  obtain ⟨r9, rfl⟩ := hval
  exact m_iret (v := r9) B hw dX6_letter_16 (by exact ⟨c9, t9, g1, g2, g3⟩) (Nat.le_of_ble_eq_true rfl) (Nat.le_of_ble_eq_true rfl)

theorem arf_bad {N : Nat} {th : Nat → Th} {as : St3} {f g : Int32} {S S2 : Sc} {ct ct2 : Ct} {Y : (Nat → Rat) → (Nat → Rat) → Nat → Th → Prop} (hP : Pst N th as S ct) (h : (S2 = va_up S 0 (.int 1) ∧ ¬ (Tr N f ∧ Tr N g)) ∨ (S2 = va_up S 0 (.int 2) ∧ ∃ i j, i < N ∧ j < N ∧ f = nI i ∧ g = nI j ∧ ¬ ((∃ u, th i = .inl u) ∧ ∃ u, th j = .inl u))) (hc : ct2 = ct) : MkK N th as (Two N th f g (Fm2 Y)) (some (.int 0)) S2 ct2 := by
  subst hc
  rcases h with ⟨rfl, h⟩ | ⟨rfl, i, j, hi, hj, rfl, rfl, h⟩
  · exact ⟨1, .inl (fun _ => 0), Or.inl ⟨rfl, h⟩, rfl, Or.inr ⟨by decide, ⟨_, rfl⟩, hP.ag rfl Ag.rf⟩⟩
  · exact ⟨2, .inl (fun _ => 0), Or.inr ⟨i, j, hi, hj, rfl, rfl, Or.inl ⟨rfl, h⟩⟩, rfl, Or.inr ⟨by decide, ⟨_, rfl⟩, hP.ag rfl Ag.rf⟩⟩
theorem arf_bad1 {N : Nat} {th : Nat → Th} {as : St3} {f : Int32} {S S2 : Sc} {ct ct2 : Ct} {Y : (Nat → Rat) → Nat → Th → Prop} (hP : Pst N th as S ct) (h : (S2 = va_up S 0 (.int 1) ∧ ¬ (Tr N f ∧ Tr N f)) ∨ (S2 = va_up S 0 (.int 2) ∧ ∃ i j, i < N ∧ j < N ∧ f = nI i ∧ f = nI j ∧ ¬ ((∃ u, th i = .inl u) ∧ ∃ u, th j = .inl u))) (hc : ct2 = ct) : MkK N th as (One N th f (Fm1 Y)) (some (.int 0)) S2 ct2 := by
  subst hc
  rcases h with ⟨rfl, h⟩ | ⟨rfl, i, j, hi, hj, rfl, e, h⟩
  · exact ⟨1, .inl (fun _ => 0), Or.inl ⟨rfl, fun q => h ⟨q, q⟩⟩, rfl, Or.inr ⟨by decide, ⟨_, rfl⟩, hP.ag rfl Ag.rf⟩⟩
  · have e2 : i = j := (nI_eq (by have := hP.1; omega) (by have := hP.1; omega)).mp e
    subst e2
    exact ⟨2, .inl (fun _ => 0), Or.inr ⟨i, hi, rfl, Or.inl ⟨rfl, fun q => h ⟨q, q⟩⟩⟩, rfl, Or.inr ⟨by decide, ⟨_, rfl⟩, hP.ag rfl Ag.rf⟩⟩

theorem by_frx {by0 p d : Int64} {bR r : Rat} (hby : (by0 = 1 ∧ bR = 1) ∨ (by0 = -1 ∧ bR = -1)) (h : Frx p d r) (hs : Sm r) : Frx (by0 * p) d (r * bR) := by
  have hb := sm_nat h hs
  rcases hby with ⟨rfl, rfl⟩ | ⟨rfl, rfl⟩
  · rw [Rat.mul_one, Int64.one_mul]; exact h
  · have e : r * (-1) = -r := by rw [Rat.mul_neg, Rat.mul_one]
    rw [e]
    have e1 : ((-1 : Int64) * p).toInt = -p.toInt := by
      rw [Kit.i64_mul (by rw [show (-1 : Int64).toInt = -1 from rfl]; omega) (by rw [show (-1 : Int64).toInt = -1 from rfl]; omega), show (-1 : Int64).toInt = -1 from rfl]; omega
    exact ⟨by rw [e1, h.1]; rfl, h.2⟩
def mixR (u w : Nat → Rat) (k : Nat) : Nat → Rat := fun i => if i < k then w i else u i
theorem sd_other {S : Sc} {n d : Int64} {k : Nat} (h1 : k ≠ 13) (h2 : k ≠ 14) : (va_up (va_up S 13 (.long n)) 14 (.long d)) k = S k := by rw [va_up_ne _ _ h2, va_up_ne _ _ h1]

def po_X6_added (mo : Nat) (S : Sc) (ct : Ct) (N : Nat) (th : Nat → Th) (as : St3) (f0 g0 : Int32) (by0 : Int64) (bR : Rat) : Option Value → Sc → Ct → Prop := fun v S2 ct2 => MkK N th as (Two N th f0 g0 (Fm2 fun u v => Kp N 3 (.inl (fun k => u k + v k * bR)))) v S2 ct2
theorem bkX6_added_0_3 : pb_chk cX6_added 0 [.aload_n 0, .iload_n 1, .iload_n 2] = some 3 := by decide +kernel
theorem dX6_added_3 : decode cX6_added 3 = .ok (.invokevirtual 118, 3) := by decide +kernel
theorem dX6_added_6 : decode cX6_added 6 = .ok (.ifCond .ne 5, 3) := by decide +kernel
theorem bkX6_added_9_10 : pb_chk cX6_added 9 [.iconst 0] = some 10 := by decide +kernel
theorem dX6_added_10 : decode cX6_added 10 = .ok (.ireturn, 1) := by decide +kernel
theorem bkX6_added_11_14 : pb_chk cX6_added 11 [.iconst 0, .istore 5] = some 14 := by decide +kernel
theorem bkX6_added_14_17 : pb_chk cX6_added 14 [.iload 5, .iconst 4] = some 17 := by decide +kernel
theorem dX6_added_17 : decode cX6_added 17 = .ok (.if_icmp .ge 65, 3) := by decide +kernel
theorem bkX6_added_82_84 : pb_chk cX6_added 82 [.aload_n 0, .iconst 3] = some 84 := by decide +kernel
theorem dX6_added_84 : decode cX6_added 84 = .ok (.invokevirtual 104, 3) := by decide +kernel
theorem dX6_added_87 : decode cX6_added 87 = .ok (.ireturn, 1) := by decide +kernel
theorem bkX6_added_20_22 : pb_chk cX6_added 20 [.aload_n 0, .aload_n 0] = some 22 := by decide +kernel
theorem dX6_added_22 : decode cX6_added 22 = .ok (.getfield 33, 3) := by decide +kernel
theorem bkX6_added_25_27 : pb_chk cX6_added 25 [.iload 5] = some 27 := by decide +kernel
theorem dX6_added_27 : decode cX6_added 27 = .ok (.laload, 1) := by decide +kernel
theorem bkX6_added_28_29 : pb_chk cX6_added 28 [.aload_n 0] = some 29 := by decide +kernel
theorem dX6_added_29 : decode cX6_added 29 = .ok (.getfield 36, 3) := by decide +kernel
theorem bkX6_added_32_34 : pb_chk cX6_added 32 [.iload 5] = some 34 := by decide +kernel
theorem dX6_added_34 : decode cX6_added 34 = .ok (.laload, 1) := by decide +kernel
theorem bkX6_added_35_37 : pb_chk cX6_added 35 [.lload_n 3, .aload_n 0] = some 37 := by decide +kernel
theorem dX6_added_37 : decode cX6_added 37 = .ok (.getfield 39, 3) := by decide +kernel
theorem bkX6_added_40_42 : pb_chk cX6_added 40 [.iload 5] = some 42 := by decide +kernel
theorem dX6_added_42 : decode cX6_added 42 = .ok (.laload, 1) := by decide +kernel
theorem bkX6_added_43_45 : pb_chk cX6_added 43 [.lmul, .aload_n 0] = some 45 := by decide +kernel
theorem dX6_added_45 : decode cX6_added 45 = .ok (.getfield 42, 3) := by decide +kernel
theorem bkX6_added_48_50 : pb_chk cX6_added 48 [.iload 5] = some 50 := by decide +kernel
theorem dX6_added_50 : decode cX6_added 50 = .ok (.laload, 1) := by decide +kernel
theorem dX6_added_51 : decode cX6_added 51 = .ok (.invokevirtual 122, 3) := by decide +kernel
theorem bkX6_added_54_55 : pb_chk cX6_added 54 [.aload_n 0] = some 55 := by decide +kernel
theorem dX6_added_55 : decode cX6_added 55 = .ok (.getfield 33, 3) := by decide +kernel
theorem bkX6_added_58_61 : pb_chk cX6_added 58 [.iload 5, .aload_n 0] = some 61 := by decide +kernel
theorem dX6_added_61 : decode cX6_added 61 = .ok (.getfield 71, 3) := by decide +kernel
theorem dX6_added_64 : decode cX6_added 64 = .ok (.lastore, 1) := by decide +kernel
theorem bkX6_added_65_66 : pb_chk cX6_added 65 [.aload_n 0] = some 66 := by decide +kernel
theorem dX6_added_66 : decode cX6_added 66 = .ok (.getfield 36, 3) := by decide +kernel
theorem bkX6_added_69_72 : pb_chk cX6_added 69 [.iload 5, .aload_n 0] = some 72 := by decide +kernel
theorem dX6_added_72 : decode cX6_added 72 = .ok (.getfield 75, 3) := by decide +kernel
theorem dX6_added_75 : decode cX6_added 75 = .ok (.lastore, 1) := by decide +kernel
theorem bkX6_added_76_14 : pb_chk cX6_added 76 [.iinc 5 1, .goto (-65)] = some 14 := by decide +kernel
set_option maxHeartbeats 4000000 in
set_option maxRecDepth 100000 in
theorem c_X6_added (l : Launch) (G : Gm) (mo : Nat) (S : Sc) (ct : Ct) (N : Nat) (th : Nat → Th) (as : St3) (f0 g0 : Int32) (by0 : Int64) (bR : Rat) (hP : Pst N th as S ct) (hB : Bds N th as) (hby : (by0 = 1 ∧ bR = 1) ∨ (by0 = -1 ∧ bR = -1)) : Mm l yX6_added cX6_added 6 (some .int) (⟨3, 0, 0, 86⟩ : Room) G mo S ct [.ref mo, .int f0, .int g0, .long by0] (po_X6_added mo S ct N th as f0 g0 by0 bR) := by
  refine of_met (by decide) (Nat.le_of_ble_eq_true rfl) ?_
  intro p e s m below meth c ls B hA hM0 hl
  have hw := Mw.start hM0
  have loop : ∀ (i j : Nat) (u u2 : Nat → Rat), i < N → j < N → f0 = nI i → g0 = nI j → th i = .inl u → th j = .inl u2 → (∀ k, k < 4 → Pb (u k) (u2 k) ∧ Pb (u k) (u2 k * (-1))) → (∀ k, k < 4 → Sm (u2 k)) → ∀ (n k : Nat) (H : Heap) (locs : List Loc) (S1 : Sc) (ct1 : Ct) (ls : Array Slot), 5 ≤ k + n → k ≤ 4 → Mw G mo s.heap H locs S1 ct1 → Pst N th as S1 ct1 → RwL ct1 8 9 10 (mixR (ext u) (fun k => ext u k + ext u2 k * bR) k) → RwL ct1 10 11 10 (ext u2) → lv_has ls 6 [(5, .int (nI k)), (0, .ref mo), (3, .long by0)] → W p l e (⟨3, 0, 0, 86⟩ : Room) s m ([.ref mo, .int f0, .int g0, .long by0] : List Value).toArray below meth c H locs 0 0 (MQ below (Qm G mo (po_X6_added mo S ct N th as f0 g0 by0 bR)) ([.ref mo, .int f0, .int g0, .long by0] : List Value).toArray s (⟨3, 0, 0, 86⟩ : Room).cells (⟨3, 0, 0, 86⟩ : Room).slots (FM mo)) (F0 m 14 ls []) := by
    intro i j u u2 hi hj ei ej hu hu2 hbp hs2 n
    induction n with
    | zero => intro k H locs S1 ct1 ls h1 h2; omega
    | succ n ih =>
      intro k H locs S1 ct1 ls hn hk hw hP1 ra rc hl
      refine pb_blk B.hx B.hb (lv' := [(5, .int (nI k)), (0, .ref mo), (3, .long by0)]) (st' := [.int 4, .int (nI k)]) hl bkX6_added_14_17 rfl (fun ls hl => ?_)
      refine lv_icmp_ge (tgt := 82) B.hx B.hb dX6_added_17 (by decide) (fun h1 => ?_) (fun h1 => ?_)
      · have e4 : k = 4 := by have := nI_nlt_le (show 4 < 2 ^ 31 by decide) (k2_nlt h1); omega
        rw [e4] at ra
        refine pb_blk B.hx B.hb (lv' := [(5, .int (nI k)), (0, .ref mo), (3, .long by0)]) (st' := [.int 3, .ref mo]) hl bkX6_added_82_84 rfl (fun ls hl => ?_)
        rw [show (3 : Int32) = nI 3 from rfl]
        refine m_callV B hw (c_X6_keep l G mo S1 ct1 N th as 3 (mixR (ext u) (fun k => ext u k + ext u2 k * bR) 4) hP1 ra) cy_X6_keep im_X6_keep se_X6_keep wd_M_X6_104 rfl hl.1 rfl (Nat.le_of_ble_eq_true rfl) ⟨by decide, by decide⟩ ⟨rfl, rfl⟩ ⟨Nat.le_refl _, Nat.le_refl _⟩ dX6_added_84 (fun v H locs Sd ctd hw_18 hv => ?_)
        have hk := kp_of (w := fun k => u k + u2 k * bR) hP1 (by decide) hv (fun k hk => by show (if k < 4 then ext u k + ext u2 k * bR else ext u k) = _; rw [if_pos hk, ext_lo hk, ext_lo hk]) (fun i g1 g2 => by show (if i < 4 then ext u i + ext u2 i * bR else ext u i) = _; rw [if_neg (by omega), ext_hi g1])
        have hw := hw_18
        obtain ⟨c9, t9, g1, g2, g3⟩ := hk
        have hval : ∃ r, v = some (.int r) := by rcases g3 with ⟨-, e9, -⟩ | ⟨-, ⟨r9, e9⟩, -⟩; exact ⟨_, e9⟩; exact ⟨_, e9⟩
        obtain ⟨r9, rfl⟩ := hval
        exact m_iret (v := r9) B hw dX6_added_87 (by exact ⟨c9, t9, Or.inr ⟨i, j, hi, hj, ei, ej, Or.inr ⟨u, u2, hu, hu2, g1⟩⟩, g2, g3⟩) (Nat.le_of_ble_eq_true rfl) (Nat.le_of_ble_eq_true rfl)
      · have hk4 : k < 4 := (nI_ltI (by omega) (by decide)).mp (k2_lt h1)
        obtain ⟨p1, d1, a1, a2, a3⟩ := ra k (by omega)
        obtain ⟨p2, d2, b1, b2, b3⟩ := rc k (by omega)
        have a3 : Frx p1 d1 (u k) := by have h9 : mixR (ext u) (fun k => ext u k + ext u2 k * bR) k k = u k := (if_neg (by omega)).trans (ext_lo hk4); rw [h9] at a3; exact a3
        rw [ext_lo hk4] at b3
        have b4 := by_frx hby b3 (hs2 k hk4)
        have hpb : Pb (u k) (u2 k * bR) := by rcases hby with ⟨-, q⟩ | ⟨-, q⟩; rw [q, Rat.mul_one]; exact (hbp k hk4).1; rw [q]; exact (hbp k hk4).2
        refine pb_blk B.hx B.hb (lv' := [(5, .int (nI k)), (0, .ref mo), (3, .long by0)]) (st' := [.ref mo, .ref mo]) hl bkX6_added_20_22 rfl (fun ls hl => ?_)
        refine m_get B hw 9 (by decide) wd_F_X6_33 rfl dX6_added_22 ?_
        refine pb_blk B.hx B.hb (lv' := [(5, .int (nI k)), (0, .ref mo), (3, .long by0)]) (st' := [.int (nI k), .ref (mo + 8), .ref mo]) hl bkX6_added_25_27 rfl (fun ls hl => ?_)
        refine m_lald B hw 8 (by decide) (by decide) rfl (vp_in_nI (show k < 10 by omega) (by decide)) (v := .long p1) (by rw [nI_clamp (by omega)]; exact a1) dX6_added_27 ?_
        refine pb_blk B.hx B.hb (lv' := [(5, .int (nI k)), (0, .ref mo), (3, .long by0)]) (st' := [.ref mo, .long p1, .ref mo]) hl bkX6_added_28_29 rfl (fun ls hl => ?_)
        refine m_get B hw 10 (by decide) wd_F_X6_36 rfl dX6_added_29 ?_
        refine pb_blk B.hx B.hb (lv' := [(5, .int (nI k)), (0, .ref mo), (3, .long by0)]) (st' := [.int (nI k), .ref (mo + 9), .long p1, .ref mo]) hl bkX6_added_32_34 rfl (fun ls hl => ?_)
        refine m_lald B hw 9 (by decide) (by decide) rfl (vp_in_nI (show k < 10 by omega) (by decide)) (v := .long d1) (by rw [nI_clamp (by omega)]; exact a2) dX6_added_34 ?_
        refine pb_blk B.hx B.hb (lv' := [(5, .int (nI k)), (0, .ref mo), (3, .long by0)]) (st' := [.ref mo, .long by0, .long d1, .long p1, .ref mo]) hl bkX6_added_35_37 rfl (fun ls hl => ?_)
        refine m_get B hw 11 (by decide) wd_F_X6_39 rfl dX6_added_37 ?_
        refine pb_blk B.hx B.hb (lv' := [(5, .int (nI k)), (0, .ref mo), (3, .long by0)]) (st' := [.int (nI k), .ref (mo + 10), .long by0, .long d1, .long p1, .ref mo]) hl bkX6_added_40_42 rfl (fun ls hl => ?_)
        refine m_lald B hw 10 (by decide) (by decide) rfl (vp_in_nI (show k < 10 by omega) (by decide)) (v := .long p2) (by rw [nI_clamp (by omega)]; exact b1) dX6_added_42 ?_
        refine pb_blk B.hx B.hb (lv' := [(5, .int (nI k)), (0, .ref mo), (3, .long by0)]) (st' := [.ref mo, .long (by0 * p2), .long d1, .long p1, .ref mo]) hl bkX6_added_43_45 rfl (fun ls hl => ?_)
        refine m_get B hw 12 (by decide) wd_F_X6_42 rfl dX6_added_45 ?_
        refine pb_blk B.hx B.hb (lv' := [(5, .int (nI k)), (0, .ref mo), (3, .long by0)]) (st' := [.int (nI k), .ref (mo + 11), .long (by0 * p2), .long d1, .long p1, .ref mo]) hl bkX6_added_48_50 rfl (fun ls hl => ?_)
        refine m_lald B hw 11 (by decide) (by decide) rfl (vp_in_nI (show k < 10 by omega) (by decide)) (v := .long d2) (by rw [nI_clamp (by omega)]; exact b2) dX6_added_50 ?_
        refine m_callV B hw (c_X6_sum l G mo S1 ct1 p1 d1 (by0 * p2) d2 (u k) (u2 k * bR) a3 b4 hpb) cy_X6_sum im_X6_sum se_X6_sum wd_M_X6_122 rfl hl.1 rfl (Nat.le_of_ble_eq_true rfl) ⟨by decide, by decide⟩ ⟨rfl, rfl⟩ ⟨Nat.le_refl _, Nat.le_refl _⟩ dX6_added_51 (fun v H locs Sb ctb hw_19 hv => ?_)
        obtain ⟨rfl, rfl, n, d, rfl, hf⟩ := hv
        have hw := hw_19
        refine pb_blk B.hx B.hb (lv' := [(5, .int (nI k)), (0, .ref mo), (3, .long by0)]) (st' := [.ref mo]) hl bkX6_added_54_55 rfl (fun ls hl => ?_)
        refine m_get B hw 9 (by decide) wd_F_X6_33 rfl dX6_added_55 ?_
        refine pb_blk B.hx B.hb (lv' := [(5, .int (nI k)), (0, .ref mo), (3, .long by0)]) (st' := [.ref mo, .int (nI k), .ref (mo + 8)]) hl bkX6_added_58_61 rfl (fun ls hl => ?_)
        refine m_get B hw 13 (by decide) wd_F_X6_71 (congrArg some (show _ = Value.long n from rfl)) dX6_added_61 ?_
        refine m_last B hw 8 (by decide) (by decide) rfl (vp_in_nI (show k < 10 by omega) (by decide)) dX6_added_64 (fun H locs hw => ?_)
        rw [nI_clamp (show k < 2 ^ 31 by omega)] at hw
        refine pb_blk B.hx B.hb (lv' := [(5, .int (nI k)), (0, .ref mo), (3, .long by0)]) (st' := [.ref mo]) hl bkX6_added_65_66 rfl (fun ls hl => ?_)
        refine m_get B hw 10 (by decide) wd_F_X6_36 rfl dX6_added_66 ?_
        refine pb_blk B.hx B.hb (lv' := [(5, .int (nI k)), (0, .ref mo), (3, .long by0)]) (st' := [.ref mo, .int (nI k), .ref (mo + 9)]) hl bkX6_added_69_72 rfl (fun ls hl => ?_)
        refine m_get B hw 14 (by decide) wd_F_X6_75 (congrArg some (show _ = Value.long d from rfl)) dX6_added_72 ?_
        refine m_last B hw 9 (by decide) (by decide) rfl (vp_in_nI (show k < 10 by omega) (by decide)) dX6_added_75 (fun H locs hw => ?_)
        rw [nI_clamp (show k < 2 ^ 31 by omega)] at hw
        refine pb_blk B.hx B.hb (lv' := [(5, .int ((nI k) + 1)), (0, .ref mo), (3, .long by0)]) (st' := []) hl bkX6_added_76_14 rfl (fun ls hl => ?_)
        exact ih (k + 1) _ _ _ _ ls (by omega) hk4 hw (hP1.ag rfl (Ag.hi (fun a g1 g2 => oth2 (by omega) (by omega)))) (row_put (by decide) ra (by show Frx n d (if k < k + 1 then ext u k + ext u2 k * bR else ext u k); rw [if_pos (by omega), ext_lo hk4, ext_lo hk4]; exact hf) (fun i _ hi => by show (if i < k + 1 then _ else _) = (if i < k then _ else _); by_cases q : i < k; rw [if_pos q, if_pos (by omega)]; rw [if_neg q, if_neg (by omega)])) (rc.cg (oth2 (by decide) (by decide)) (oth2 (by decide) (by decide))) (by rw [← nI_1]; exact lv_sub hl [0, 1, 2] rfl)
  refine pb_blk B.hx B.hb (lv' := [(0, .ref mo), (1, .int f0), (2, .int g0), (3, .long by0)]) (st' := [.int g0, .int f0, .ref mo]) hl bkX6_added_0_3 rfl (fun ls hl => ?_)
  refine m_callV B hw (c_X6_are l G mo S ct N th as f0 g0 hP) cy_X6_are im_X6_are se_X6_are wd_M_X6_118 rfl hl.1 rfl (Nat.le_of_ble_eq_true rfl) ⟨by decide, by decide⟩ ⟨rfl, rfl⟩ ⟨Nat.le_refl _, Nat.le_refl _⟩ dX6_added_3 (fun v H locs Sa cta hw_17 hv => ?_)
  have har := hv
  have hw := hw_17
  rcases har with ⟨rfl, hc, hbad⟩ | ⟨rfl, rfl, i, j, u, u2, hi, hj, ei, ej, hu, hu2, r1, r2, o1⟩
  · refine lv_if_ne (tgt := 11) B.hx B.hb dX6_added_6 (by decide) (fun h => absurd h (by decide)) (fun _ => ?_)
    refine pb_blk B.hx B.hb (lv' := [(0, .ref mo), (1, .int f0), (2, .int g0), (3, .long by0)]) (st' := [.int 0]) hl bkX6_added_9_10 rfl (fun ls hl => ?_)
    exact m_iret (v := 0) B hw dX6_added_10 (by exact arf_bad hP hbad hc) (Nat.le_of_ble_eq_true rfl) (Nat.le_of_ble_eq_true rfl)
  · refine lv_if_ne (tgt := 11) B.hx B.hb dX6_added_6 (by decide) (fun _ => ?_) (fun h => absurd h (by decide))
    have hN := hP.1
    have hPa : Pst N th as (va_up S 0 (.int 0)) cta := hP.ag rfl (Ag.hi (fun a g1 g2 => o1 a (by omega)))
    have hbp := (hB.2.2.2.2.2 i j hi hj u u2 hu hu2).1
    have hs2 := hB.1 j hj u2 hu2
    have hs1 := hB.1 i hi u hu
    refine pb_blk B.hx B.hb (lv' := [(5, .int 0), (0, .ref mo), (1, .int f0), (2, .int g0), (3, .long by0)]) (st' := []) hl bkX6_added_11_14 rfl (fun ls hl => ?_)
    have r3 : RwL cta 8 9 10 (mixR (ext u) (fun k => ext u k + ext u2 k * bR) 0) := r1
    exact loop i j u u2 hi hj ei ej hu hu2 hbp hs2 5 0 _ _ _ _ ls (by omega) (by omega) hw hPa (by exact r3) r2 (lv_sub hl [0, 1, 4] rfl)

def po_X6_add (mo : Nat) (S : Sc) (ct : Ct) (N : Nat) (th : Nat → Th) (as : St3) (f0 g0 : Int32) : Option Value → Sc → Ct → Prop := fun v S2 ct2 => MkK N th as (R_add N th f0 g0) v S2 ct2
theorem bkX6_add_0_4 : pb_chk cX6_add 0 [.aload_n 0, .iload_n 1, .iload_n 2, .lconst 1] = some 4 := by decide +kernel
theorem dX6_add_4 : decode cX6_add 4 = .ok (.invokevirtual 126, 3) := by decide +kernel
theorem dX6_add_7 : decode cX6_add 7 = .ok (.ireturn, 1) := by decide +kernel
set_option maxHeartbeats 4000000 in
set_option maxRecDepth 100000 in
theorem c_X6_add (l : Launch) (G : Gm) (mo : Nat) (S : Sc) (ct : Ct) (N : Nat) (th : Nat → Th) (as : St3) (f0 g0 : Int32) (hP : Pst N th as S ct) (hB : Bds N th as) : Mm l yX6_add cX6_add 3 (some .int) (⟨4, 0, 0, 111⟩ : Room) G mo S ct [.ref mo, .int f0, .int g0] (po_X6_add mo S ct N th as f0 g0) := by
  refine of_met (by decide) (Nat.le_of_ble_eq_true rfl) ?_
  intro p e s m below meth c ls B hA hM0 hl
  have hw := Mw.start hM0
  refine pb_blk B.hx B.hb (lv' := [(0, .ref mo), (1, .int f0), (2, .int g0)]) (st' := [.long 1, .int g0, .int f0, .ref mo]) hl bkX6_add_0_4 rfl (fun ls hl => ?_)
  refine m_callV B hw (c_X6_added l G mo S ct N th as f0 g0 1 1 hP hB (Or.inl ⟨rfl, rfl⟩)) cy_X6_added im_X6_added se_X6_added wd_M_X6_126 rfl hl.1 rfl (Nat.le_of_ble_eq_true rfl) ⟨by decide, by decide⟩ ⟨rfl, rfl⟩ ⟨Nat.le_refl _, Nat.le_refl _⟩ dX6_add_4 (fun v H locs S1 ct1 hw_20 hv => ?_)
  have hk : MkK N th as (R_add N th f0 g0) v S1 ct1 := hv.mono (fun c t h => by simp only [Rat.mul_one] at h; exact h)
  have hw := hw_20
  obtain ⟨c9, t9, g1, g2, g3⟩ := hk
  have hval : ∃ r, v = some (.int r) := by rcases g3 with ⟨-, e9, -⟩ | ⟨-, ⟨r9, e9⟩, -⟩; exact ⟨_, e9⟩; exact ⟨_, e9⟩
  obtain ⟨r9, rfl⟩ := hval
  exact m_iret (v := r9) B hw dX6_add_7 (by exact ⟨c9, t9, g1, g2, g3⟩) (Nat.le_of_ble_eq_true rfl) (Nat.le_of_ble_eq_true rfl)

def po_X6_less (mo : Nat) (S : Sc) (ct : Ct) (N : Nat) (th : Nat → Th) (as : St3) (f0 g0 : Int32) : Option Value → Sc → Ct → Prop := fun v S2 ct2 => MkK N th as (R_less N th f0 g0) v S2 ct2
theorem bkX6_less_0_3 : pb_chk cX6_less 0 [.aload_n 0, .iload_n 1, .iload_n 2] = some 3 := by decide +kernel
theorem dX6_less_3 : decode cX6_less 3 = .ok (.ldc2_w 130, 3) := by decide +kernel
theorem dX6_less_6 : decode cX6_less 6 = .ok (.invokevirtual 126, 3) := by decide +kernel
theorem dX6_less_9 : decode cX6_less 9 = .ok (.ireturn, 1) := by decide +kernel
set_option maxHeartbeats 4000000 in
set_option maxRecDepth 100000 in
theorem c_X6_less (l : Launch) (G : Gm) (mo : Nat) (S : Sc) (ct : Ct) (N : Nat) (th : Nat → Th) (as : St3) (f0 g0 : Int32) (hP : Pst N th as S ct) (hB : Bds N th as) : Mm l yX6_less cX6_less 3 (some .int) (⟨4, 0, 0, 111⟩ : Room) G mo S ct [.ref mo, .int f0, .int g0] (po_X6_less mo S ct N th as f0 g0) := by
  refine of_met (by decide) (Nat.le_of_ble_eq_true rfl) ?_
  intro p e s m below meth c ls B hA hM0 hl
  have hw := Mw.start hM0
  refine pb_blk B.hx B.hb (lv' := [(0, .ref mo), (1, .int f0), (2, .int g0)]) (st' := [.int g0, .int f0, .ref mo]) hl bkX6_less_0_3 rfl (fun ls hl => ?_)
  refine z_ldc2 B wd_L_X6_130 dX6_less_3 ?_
  refine m_callV B hw (c_X6_added l G mo S ct N th as f0 g0 (-1) (-1) hP hB (Or.inr ⟨rfl, rfl⟩)) cy_X6_added im_X6_added se_X6_added wd_M_X6_126 rfl hl.1 rfl (Nat.le_of_ble_eq_true rfl) ⟨by decide, by decide⟩ ⟨rfl, rfl⟩ ⟨Nat.le_refl _, Nat.le_refl _⟩ dX6_less_6 (fun v H locs S1 ct1 hw_21 hv => ?_)
  have hk : MkK N th as (R_less N th f0 g0) v S1 ct1 := hv
  have hw := hw_21
  obtain ⟨c9, t9, g1, g2, g3⟩ := hk
  have hval : ∃ r, v = some (.int r) := by rcases g3 with ⟨-, e9, -⟩ | ⟨-, ⟨r9, e9⟩, -⟩; exact ⟨_, e9⟩; exact ⟨_, e9⟩
  obtain ⟨r9, rfl⟩ := hval
  exact m_iret (v := r9) B hw dX6_less_9 (by exact ⟨c9, t9, g1, g2, g3⟩) (Nat.le_of_ble_eq_true rfl) (Nat.le_of_ble_eq_true rfl)

