def Sm (r : Rat) : Prop := r.num.natAbs ≤ 60 ∧ r.den ≤ 60
theorem Sm.zero : Sm 0 := ⟨by decide, by decide⟩
theorem sel_in {u : Nat → Rat} {k : Nat} (h : k < 4) : sel u (nI k) = u k := by
  unfold sel
  rw [if_neg (fun q => q.elim (nI_pos (by omega)) (nI_ge h (by decide))), nI_clamp (by omega)]
theorem sel_sm {u : Nat → Rat} (h : ∀ k, k < 4 → Sm (u k)) (p : Int32) : Sm (sel u p) := by
  unfold sel
  split
  · exact Sm.zero
  · next hp =>
    refine h _ ?_
    obtain ⟨j, hj, rfl⟩ := nI_of (fun q => hp (Or.inl q))
    rw [nI_clamp hj]
    rcases Nat.lt_or_ge j 4 with q | q
    · exact q
    · exact absurd (nI_le q hj) (fun q => hp (Or.inr q))
theorem frxK {k : Nat} (hk : k < 100) : Frx ((nI k) + 1).toInt64 1 ((k + 1 : Nat) : Rat) := by
  refine ⟨?_, rfl⟩
  rw [nI_1, nI_l (by omega), pk_lT (by omega)]
  rfl
def inv (k : Nat) : Rat := mkRat 1 k
theorem frxI {k : Nat} (h0 : 0 < k) (hk : k < 4) : Frx 1 ((nI k)).toInt64 (inv k) := by
  rw [nI_l (by omega)]
  rcases (show k = 1 ∨ k = 2 ∨ k = 3 by omega) with rfl | rfl | rfl <;> exact ⟨by decide, by decide⟩
theorem inv_sm {k : Nat} (h0 : 0 < k) (hk : k < 4) : Sm (inv k) := by
  rcases (show k = 1 ∨ k = 2 ∨ k = 3 by omega) with rfl | rfl | rfl <;> exact ⟨by decide, by decide⟩
theorem Sm.mul {a b : Rat} (ha : Sm a) (hb : Sm b) : a.num.natAbs * b.num.natAbs < 2 ^ 62 ∧ a.den * b.den < 2 ^ 48 := ⟨Nat.lt_of_le_of_lt (Nat.mul_le_mul ha.1 hb.1) (by decide), Nat.lt_of_le_of_lt (Nat.mul_le_mul ha.2 hb.2) (by decide)⟩
def asl (u : Nat → Rat) (k : Nat) : Nat → Rat := fun j => if 1 ≤ j ∧ j < k then u (j - 1) * inv j else 0
theorem asl_ne {u : Nat → Rat} {k j : Nat} (h : j ≠ k) : asl u (k + 1) j = asl u k j := by
  unfold asl
  by_cases hj : 1 ≤ j ∧ j < k
  · rw [if_pos (by omega), if_pos hj]
  · rw [if_neg (by omega), if_neg hj]
theorem asl_k {u : Nat → Rat} {k : Nat} (h : 1 ≤ k) : asl u (k + 1) k = u (k - 1) * inv k := by
  unfold asl
  rw [if_pos (by omega)]
theorem nI_nlt_le {a b : Nat} (ha : a < 2 ^ 31) (h : ¬ nI b < nI a) : a ≤ b := by
  rcases Nat.lt_or_ge b a with q | q
  · exact absurd (nI_lt q ha) h
  · exact q
def psum (u v : Nat → Rat) (p : Nat) : Nat → Rat
  | 0 => 0
  | o + 1 => psum u v p o + u o * v (p - o)
/-- a product's row while it is made: k powers are done, of the next one o products -/
def mrow (u v : Nat → Rat) (k o : Nat) : Nat → Rat := fun j => if j < k then psum u v j (j + 1) else if j = k then psum u v k o else 0
def mulF (u v : Nat → Rat) : Nat → Rat := fun j => psum u v j (j + 1)
/-- what a product needs so that no step passes a long -/
def Mok (u v : Nat → Rat) : Prop := (∀ i j, i + j < 4 → (u i).num.natAbs * (v j).num.natAbs < 2 ^ 62 ∧ (u i).den * (v j).den < 2 ^ 48) ∧ ∀ p o, p < 4 → o ≤ p → Pb (psum u v p o) (u o * v (p - o))
def addF (u v : Nat → Rat) : Nat → Rat := fun k => u k + v k
/-- one formula put into another one: from the highest power d down, i steps -/
def hor (u v : Nat → Rat) (d : Nat) : Nat → (Nat → Rat)
  | 0 => cst (u d)
  | i + 1 => addF (mulF (hor u v d i) v) (cst (u (d - 1 - i)))

def po_X0_fractionA (G : Gm) (A : Nat → Prop) (q : Nat) (p0 : Int32) (u : Nat → Rat) : Option Value → Heap → Prop := fun v H => ∃ x, v = some (.ref x) ∧ Fr G A H x (sel u p0)
set_option maxHeartbeats 4000000 in
set_option maxRecDepth 100000 in
theorem c_X0_fractionA (l : Launch) (G : Gm) (A : Nat → Prop) (q : Nat) (p0 : Int32) (u : Nat → Rat) : Mz l yX0_fraction cX0_fraction 2 (some (.object "FormulaHouse$Fraction")) (⟨2, 1, 2, 36⟩ : Room) G A [.ref q, .int p0] (fun H => Fo G A H q u) (po_X0_fractionA G A q p0 u) := by
  refine of_met (by decide) (Nat.le_of_ble_eq_true rfl) ?_
  intro p e s m below meth c ls B hA ⟨a, ob, f, ar, hf⟩ hl
  refine pb_blk B.hx B.hb (lv' := [(0, .ref q), (1, .int p0)]) (st' := [.int p0]) hl bkX0_fraction_0_1 rfl (fun ls hl => ?_)
  refine lv_if_lt (tgt := 13) B.hx B.hb dX0_fraction_1 (by decide) (fun h1 => ?_) (fun h1 => ?_)
  · have hs : sel u p0 = 0 := if_pos (Or.inl h1)
    refine z_new B ciX1 wd_C_X0_30 hfs_X1 (Nat.le_of_ble_eq_true rfl) (Nat.le_of_ble_eq_true rfl) dX0_fraction_13 (fun H1 ob1 z1 o1 => ?_)
    refine pb_blk B.hx B.hb (lv' := [(0, .ref q), (1, .int p0)]) (st' := [.long 1, .long 0, .ref s.heap.size, .ref s.heap.size]) hl bkX0_fraction_16_19 rfl (fun ls hl => ?_)
    refine z_ctor B (c_X1_init l G A s.heap.size 0 1 0 0) cy_X1_init im_X1_init rfl wd_M_X0_32 (Nat.le_refl _) (hA_up hA (by omega)) ob1 rfl hl.1 rfl (Nat.le_of_ble_eq_true rfl) ⟨by decide, by decide⟩ ⟨by decide, by decide⟩ dX0_fraction_19 (fun H2 z2 o2 ob2 => ?_)
    refine pb_blk B.hx B.hb (lv' := [(0, .ref q), (1, .int p0)]) (st' := [.ref s.heap.size]) hl bkX0_fraction_22_31 rfl (fun ls hl => ?_)
    exact z_aret B (Or.inl ⟨_, rfl⟩) dX0_fraction_31 (Ex.new z1 o1 z2 o2) ⟨_, rfl, by rw [hs]; exact ⟨0, 1, ⟨hA_no hA (Nat.le_refl _), ob2⟩, frx01⟩⟩ (Nat.le_of_ble_eq_true rfl) (Nat.le_of_ble_eq_true rfl)
  · refine pb_blk B.hx B.hb (lv' := [(0, .ref q), (1, .int p0)]) (st' := [.ref q, .int p0]) hl bkX0_fraction_4_6 rfl (fun ls hl => ?_)
    refine z_get B ciX0 0 (by decide) ob wd_F_X0_9 rfl dX0_fraction_6 ?_
    refine z_alen B 3 rfl ar.2 dX0_fraction_9 ?_
    refine lv_icmp_lt (tgt := 25) B.hx B.hb dX0_fraction_10 (by decide) (fun h2 => ?_) (fun h2 => ?_)
    · obtain ⟨j, hj, rfl⟩ := nI_of h1
      have hj4 : j < 4 := (nI_ltI hj (by decide)).mp h2
      refine pb_blk B.hx B.hb (lv' := [(0, .ref q), (1, .int (nI j))]) (st' := [.ref q]) hl bkX0_fraction_25_26 rfl (fun ls hl => ?_)
      refine z_get B ciX0 0 (by decide) ob wd_F_X0_9 rfl dX0_fraction_26 ?_
      refine pb_blk B.hx B.hb (lv' := [(0, .ref q), (1, .int (nI j))]) (st' := [.int (nI j), .ref a]) hl bkX0_fraction_29_30 rfl (fun ls hl => ?_)
      obtain ⟨y, ey, hy⟩ := hf j hj4
      refine z_aald B 3 rfl ar.2 (vp_in_nI hj4 (by decide)) (v := .ref y) (by rw [nI_clamp (by omega)]; exact ey) dX0_fraction_30 ?_
      exact z_aret B (Or.inl ⟨_, rfl⟩) dX0_fraction_31 Ex.rf ⟨y, rfl, by rw [sel_in hj4]; exact hy⟩ (Nat.le_of_ble_eq_true rfl) (Nat.le_of_ble_eq_true rfl)
    · have hs : sel u p0 = 0 := if_pos (Or.inr (k2_le h2))
      refine z_new B ciX1 wd_C_X0_30 hfs_X1 (Nat.le_of_ble_eq_true rfl) (Nat.le_of_ble_eq_true rfl) dX0_fraction_13 (fun H1 ob1 z1 o1 => ?_)
      refine pb_blk B.hx B.hb (lv' := [(0, .ref q), (1, .int p0)]) (st' := [.long 1, .long 0, .ref s.heap.size, .ref s.heap.size]) hl bkX0_fraction_16_19 rfl (fun ls hl => ?_)
      refine z_ctor B (c_X1_init l G A s.heap.size 0 1 0 0) cy_X1_init im_X1_init rfl wd_M_X0_32 (Nat.le_refl _) (hA_up hA (by omega)) ob1 rfl hl.1 rfl (Nat.le_of_ble_eq_true rfl) ⟨by decide, by decide⟩ ⟨by decide, by decide⟩ dX0_fraction_19 (fun H2 z2 o2 ob2 => ?_)
      refine pb_blk B.hx B.hb (lv' := [(0, .ref q), (1, .int p0)]) (st' := [.ref s.heap.size]) hl bkX0_fraction_22_31 rfl (fun ls hl => ?_)
      exact z_aret B (Or.inl ⟨_, rfl⟩) dX0_fraction_31 (Ex.new z1 o1 z2 o2) ⟨_, rfl, by rw [hs]; exact ⟨0, 1, ⟨hA_no hA (Nat.le_refl _), ob2⟩, frx01⟩⟩ (Nat.le_of_ble_eq_true rfl) (Nat.le_of_ble_eq_true rfl)

def po_X0_slope (G : Gm) (A : Nat → Prop) (q1 : Nat) (u1 : Nat → Rat) : Option Value → Heap → Prop := fun v H => ∃ q, v = some (.ref q) ∧ Fo G A H q (fun k => sel u1 (nI (k + 1)) * ((k + 1 : Nat) : Rat))
theorem bkX0_slope_0_1 : pb_chk cX0_slope 0 [.iconst 4] = some 1 := by decide +kernel
theorem dX0_slope_1 : decode cX0_slope 1 = .ok (.anewarray 30, 3) := by decide +kernel
theorem bkX0_slope_4_7 : pb_chk cX0_slope 4 [.astore_n 1, .iconst 0, .istore_n 2] = some 7 := by decide +kernel
theorem bkX0_slope_7_9 : pb_chk cX0_slope 7 [.iload_n 2, .aload_n 1] = some 9 := by decide +kernel
theorem dX0_slope_9 : decode cX0_slope 9 = .ok (.arraylength, 1) := by decide +kernel
theorem dX0_slope_10 : decode cX0_slope 10 = .ok (.if_icmp .ge 34, 3) := by decide +kernel
theorem dX0_slope_44 : decode cX0_slope 44 = .ok (.new 10, 3) := by decide +kernel
theorem bkX0_slope_47_49 : pb_chk cX0_slope 47 [.dup, .aload_n 1] = some 49 := by decide +kernel
theorem dX0_slope_49 : decode cX0_slope 49 = .ok (.invokespecial 27, 3) := by decide +kernel
theorem dX0_slope_52 : decode cX0_slope 52 = .ok (.areturn, 1) := by decide +kernel
theorem bkX0_slope_13_19 : pb_chk cX0_slope 13 [.aload_n 1, .iload_n 2, .aload_n 0, .iload_n 2, .iconst 1, .iadd] = some 19 := by decide +kernel
theorem dX0_slope_19 : decode cX0_slope 19 = .ok (.invokevirtual 39, 3) := by decide +kernel
theorem dX0_slope_22 : decode cX0_slope 22 = .ok (.new 30, 3) := by decide +kernel
theorem bkX0_slope_25_31 : pb_chk cX0_slope 25 [.dup, .iload_n 2, .iconst 1, .iadd, .i2l, .lconst 1] = some 31 := by decide +kernel
theorem dX0_slope_31 : decode cX0_slope 31 = .ok (.invokespecial 32, 3) := by decide +kernel
theorem dX0_slope_34 : decode cX0_slope 34 = .ok (.invokevirtual 47, 3) := by decide +kernel
theorem dX0_slope_37 : decode cX0_slope 37 = .ok (.aastore, 1) := by decide +kernel
theorem bkX0_slope_38_7 : pb_chk cX0_slope 38 [.iinc 2 1, .goto (-34)] = some 7 := by decide +kernel
set_option maxHeartbeats 4000000 in
set_option maxRecDepth 100000 in
theorem c_X0_slope (l : Launch) (G : Gm) (A : Nat → Prop) (q1 : Nat) (u1 : Nat → Rat) (hb : ∀ k, k < 4 → Sm (u1 k)) : Mz l yX0_slope cX0_slope 3 (some (.object "FormulaHouse$Formula")) (⟨4, 14, 30, 95⟩ : Room) G A [.ref q1] (fun H => Fo G A H q1 u1) (po_X0_slope G A q1 u1) := by
  refine of_met (by decide) (Nat.le_of_ble_eq_true rfl) ?_
  intro p e s m below meth c ls B hA h1f hl
  have loop : ∀ (n k : Nat) (H : Heap) (ls : Array Slot), 5 ≤ k + n → k ≤ 4 → Ex s.heap H → RowM G A H s.heap.size 4 k (fun k => sel u1 (nI (k + 1)) * ((k + 1 : Nat) : Rat)) → lv_has ls 3 [(2, .int (nI k)), (1, .ref s.heap.size), (0, .ref q1)] → W p l e (⟨4, 14, 30, 95⟩ : Room) s m ([.ref q1] : List Value).toArray below meth c H [] (1 + 3 * k) (4 + 6 * k) (MQ below (Qz (po_X0_slope G A q1 u1)) ([.ref q1] : List Value).toArray s (⟨4, 14, 30, 95⟩ : Room).cells (⟨4, 14, 30, 95⟩ : Room).slots (fun _ => False)) (F0 m 7 ls []) := by
    intro n
    induction n with
    | zero => intro k H ls h1 h2; omega
    | succ n ih =>
      intro k H ls hn hk hE hr hl
      obtain ⟨f, hf, hfs⟩ := id hr
      refine pb_blk B.hx B.hb (lv' := [(2, .int (nI k)), (1, .ref s.heap.size), (0, .ref q1)]) (st' := [.ref s.heap.size, .int (nI k)]) hl bkX0_slope_7_9 rfl (fun ls hl => ?_)
      refine z_alen B 3 rfl hf dX0_slope_9 ?_
      refine lv_icmp_ge (tgt := 44) B.hx B.hb dX0_slope_10 (by decide) (fun h1 => ?_) (fun h1 => ?_)
      · have e4 := nI4 hk h1
        rw [e4] at hr
        refine z_new B ciX0 wd_C_X0_10 hfs_X0 (by (try dsimp only); omega) (by (try dsimp only); omega) dX0_slope_44 (fun J1 ob1 y1 p1 => ?_)
        refine pb_blk B.hx B.hb (lv' := [(2, .int (nI k)), (1, .ref s.heap.size), (0, .ref q1)]) (st' := [.ref s.heap.size, .ref H.size, .ref H.size]) hl bkX0_slope_47_49 rfl (fun ls hl => ?_)
        have ej1 := Ex.one y1 p1
        have hrf := fo_pre hr (hA_no hA (Nat.le_refl _)) ej1
        refine z_ctor B (c_X0_init l G (Aq A H.size) H.size s.heap.size (fun k => sel u1 (nI (k + 1)) * ((k + 1 : Nat) : Rat)) (Or.inr rfl)) cy_X0_init im_X0_init rfl wd_M_X0_27 (hE).1 (hA_aq hA (by have := (hE).1; omega) (by omega)) ⟨ob1, hrf⟩ rfl hl.1 rfl (Nat.le_of_ble_eq_true rfl) ⟨by decide, by decide⟩ ⟨(by (try dsimp only); omega), (by (try dsimp only); omega)⟩ dX0_slope_49 (fun J2 y2 p2 ob2 => ?_)
        exact z_aret B (Or.inl ⟨_, rfl⟩) dX0_slope_52 ((hE).trans (Ex.new y1 p1 y2 p2)) ⟨_, rfl, fo_post hrf y2 p2 (hA_no hA (hE).1) ob2⟩ (by (try dsimp only); omega) (by (try dsimp only); omega)
      · have hk4 := nI4' hk h1
        have haq := hA_aq hA hE.1 hr.lt
        have h1f := (h1f.mv Mv.grow).mv (hE.mv (Aq A s.heap.size))
        refine pb_blk B.hx B.hb (lv' := [(2, .int (nI k)), (1, .ref s.heap.size), (0, .ref q1)]) (st' := [.int ((nI k) + 1), .ref q1, .int (nI k), .ref s.heap.size]) hl bkX0_slope_13_19 rfl (fun ls hl => ?_)
        rw [nI_1]
        obtain ⟨fs9, ho⟩ := h1f.ob
        refine z_callV B (c_X0_fractionA l G (Aq A s.heap.size) q1 (nI (k + 1)) u1) cy_X0_fraction im_X0_fraction se_X0_fraction wd_M_X0_39 rfl ho haq h1f rfl hl.1 rfl (Nat.le_of_ble_eq_true rfl) ⟨by decide, by decide⟩ ⟨(by (try dsimp only); omega), (by (try dsimp only); omega)⟩ dX0_slope_19 (fun v J1 hE1 hv => ?_)
        obtain ⟨x1, rfl, hx1⟩ := hv
        refine z_new B ciX1 wd_C_X0_30 hfs_X1 (by (try dsimp only); omega) (by (try dsimp only); omega) dX0_slope_22 (fun J2 ob2 z2 o2 => ?_)
        refine pb_blk B.hx B.hb (lv' := [(2, .int (nI k)), (1, .ref s.heap.size), (0, .ref q1)]) (st' := [.long 1, .long (((nI k) + 1)).toInt64, .ref J1.size, .ref J1.size, .ref x1, .int (nI k), .ref s.heap.size]) hl bkX0_slope_25_31 rfl (fun ls hl => ?_)
        refine z_ctor B (c_X1_init l G (Aq A s.heap.size) J1.size ((nI k) + 1).toInt64 1 0 0) cy_X1_init im_X1_init rfl wd_M_X0_32 (by have := hE.1; have := hE1.1; omega) (hA_up haq (by have := hE1.1; omega)) ob2 rfl hl.1 rfl (Nat.le_of_ble_eq_true rfl) ⟨by decide, by decide⟩ ⟨(by (try dsimp only); omega), (by (try dsimp only); omega)⟩ dX0_slope_31 (fun J3 z3 o3 ob3 => ?_)
        have e13 := Ex.new z2 o2 z3 o3
        have hn : Fr G (Aq A s.heap.size) J3 J1.size ((k + 1 : Nat) : Rat) := ⟨_, _, ⟨fun h9 => absurd (haq _ h9) (by have := hE1.1; omega), ob3⟩, frxK (by omega)⟩
        have hx1 := hx1.mv (e13.mv _)
        obtain ⟨fs9, ho⟩ := hx1.ob
        have hbm := (sel_sm hb (nI (k + 1))).mul (show Sm ((k + 1 : Nat) : Rat) from ⟨by show k + 1 ≤ 60; omega, by show 1 ≤ 60; omega⟩)
        refine z_callV B (c_X1_multiplied l G (Aq A s.heap.size) x1 J1.size _ _ hbm.1 hbm.2) cy_X1_multiplied im_X1_multiplied se_X1_multiplied wd_M_X0_47 rfl ho (hA_up haq (by have := hE1.1; have := e13.1; omega)) ⟨hx1, hn⟩ rfl hl.1 rfl (Nat.le_of_ble_eq_true rfl) ⟨by decide, by decide⟩ ⟨(by (try dsimp only); omega), (by (try dsimp only); omega)⟩ dX0_slope_34 (fun v J4 hE4 hv => ?_)
        obtain ⟨y, rfl, hy⟩ := hv
        have e14 := (hE1.trans e13).trans hE4
        have hE := hE.trans e14
        have hr := hr.ex e14
        obtain ⟨f, hf, hfs⟩ := id hr
        obtain ⟨n9, d9, ob9, fx9⟩ := id hy
        refine z_aastF B hf ob9 (vp_in_nI hk4 (by decide)) dX0_slope_37 (fun J9 w9 z9 o9 => ?_)
        rw [nI_clamp (by omega)] at w9
        refine z_forget (Nat.le_refl _) ?_
        refine W.widen (k := 1 + 3 * (k + 1)) (n := 4 + 6 * (k + 1)) (by (try dsimp only); omega) (by (try dsimp only); omega) ?_
        refine pb_blk B.hx B.hb (lv' := [(2, .int ((nI k) + 1)), (1, .ref s.heap.size), (0, .ref q1)]) (st' := []) hl bkX0_slope_38_7 rfl (fun ls hl => ?_)
        exact ih (k + 1) J9 ls (by omega) hk4 (hE.put z9 o9 (Nat.le_refl _)) (RowM.put hf hfs hy w9 z9 o9 (fun j h2 h3 => ⟨by omega, rfl⟩) (fun _ => rfl)) (by rw [← nI_1]; exact lv_sub hl [0, 1, 2] rfl)
  refine pb_blk B.hx B.hb (lv' := [(0, .ref q1)]) (st' := [.int 4]) hl bkX0_slope_0_1 rfl (fun ls hl => ?_)
  refine z_newq B 3 rfl wd_C_X0_30 B.hK.2.2.2.1 (by decide) (N := 4) (by decide) (by decide) (Nat.le_of_ble_eq_true rfl) (Nat.le_of_ble_eq_true rfl) dX0_slope_1 (fun H1 w1 z1 o1 => ?_)
  refine pb_blk B.hx B.hb (lv' := [(2, .int 0), (1, .ref s.heap.size), (0, .ref q1)]) (st' := []) hl bkX0_slope_4_7 rfl (fun ls hl => ?_)
  exact loop 5 0 H1 ls (by omega) (Nat.zero_le _) (Ex.one z1 o1) (RowM.new w1) (lv_sub hl [0, 1, 2] rfl)

def po_X0_antiSlope (G : Gm) (A : Nat → Prop) (q1 : Nat) (u1 : Nat → Rat) : Option Value → Heap → Prop := fun v H => ∃ q, v = some (.ref q) ∧ Fo G A H q (asl u1 4)
theorem dX0_antiSlope_0 : decode cX0_antiSlope 0 = .ok (.invokestatic 23, 3) := by decide +kernel
theorem bkX0_antiSlope_3_6 : pb_chk cX0_antiSlope 3 [.astore_n 1, .iconst 1, .istore_n 2] = some 6 := by decide +kernel
theorem bkX0_antiSlope_6_8 : pb_chk cX0_antiSlope 6 [.iload_n 2, .aload_n 1] = some 8 := by decide +kernel
theorem dX0_antiSlope_8 : decode cX0_antiSlope 8 = .ok (.arraylength, 1) := by decide +kernel
theorem dX0_antiSlope_9 : decode cX0_antiSlope 9 = .ok (.if_icmp .ge 32, 3) := by decide +kernel
theorem dX0_antiSlope_41 : decode cX0_antiSlope 41 = .ok (.new 10, 3) := by decide +kernel
theorem bkX0_antiSlope_44_46 : pb_chk cX0_antiSlope 44 [.dup, .aload_n 1] = some 46 := by decide +kernel
theorem dX0_antiSlope_46 : decode cX0_antiSlope 46 = .ok (.invokespecial 27, 3) := by decide +kernel
theorem dX0_antiSlope_49 : decode cX0_antiSlope 49 = .ok (.areturn, 1) := by decide +kernel
theorem bkX0_antiSlope_12_18 : pb_chk cX0_antiSlope 12 [.aload_n 1, .iload_n 2, .aload_n 0, .iload_n 2, .iconst 1, .isub] = some 18 := by decide +kernel
theorem dX0_antiSlope_18 : decode cX0_antiSlope 18 = .ok (.invokevirtual 39, 3) := by decide +kernel
theorem dX0_antiSlope_21 : decode cX0_antiSlope 21 = .ok (.new 30, 3) := by decide +kernel
theorem bkX0_antiSlope_24_28 : pb_chk cX0_antiSlope 24 [.dup, .lconst 1, .iload_n 2, .i2l] = some 28 := by decide +kernel
theorem dX0_antiSlope_28 : decode cX0_antiSlope 28 = .ok (.invokespecial 32, 3) := by decide +kernel
theorem dX0_antiSlope_31 : decode cX0_antiSlope 31 = .ok (.invokevirtual 47, 3) := by decide +kernel
theorem dX0_antiSlope_34 : decode cX0_antiSlope 34 = .ok (.aastore, 1) := by decide +kernel
theorem bkX0_antiSlope_35_6 : pb_chk cX0_antiSlope 35 [.iinc 2 1, .goto (-32)] = some 6 := by decide +kernel
set_option maxHeartbeats 4000000 in
set_option maxRecDepth 100000 in
theorem c_X0_antiSlope (l : Launch) (G : Gm) (A : Nat → Prop) (q1 : Nat) (u1 : Nat → Rat) (hb : ∀ k, k < 4 → Sm (u1 k)) : Mz l yX0_antiSlope cX0_antiSlope 3 (some (.object "FormulaHouse$Formula")) (⟨4, 15, 32, 95⟩ : Room) G A [.ref q1] (fun H => Fo G A H q1 u1) (po_X0_antiSlope G A q1 u1) := by
  refine of_met (by decide) (Nat.le_of_ble_eq_true rfl) ?_
  intro p e s m below meth c ls B hA h1f hl
  have loop : ∀ (a : Nat) (hsa : s.heap.size ≤ a) (n k : Nat) (H : Heap) (ls : Array Slot), 5 ≤ k + n → 1 ≤ k → k ≤ 4 → Ex s.heap H → RowM G A H a 4 4 (asl u1 k) → lv_has ls 3 [(2, .int (nI k)), (1, .ref a), (0, .ref q1)] → W p l e (⟨4, 15, 32, 95⟩ : Room) s m ([.ref q1] : List Value).toArray below meth c H [] (2 + 3 * k) (6 + 6 * k) (MQ below (Qz (po_X0_antiSlope G A q1 u1)) ([.ref q1] : List Value).toArray s (⟨4, 15, 32, 95⟩ : Room).cells (⟨4, 15, 32, 95⟩ : Room).slots (fun _ => False)) (F0 m 6 ls []) := by
    intro a hsa n
    induction n with
    | zero => intro k H ls h1 h2; omega
    | succ n ih =>
      intro k H ls hn hk1 hk hE hr hl
      obtain ⟨f, hf, hfs⟩ := id hr
      refine pb_blk B.hx B.hb (lv' := [(2, .int (nI k)), (1, .ref a), (0, .ref q1)]) (st' := [.ref a, .int (nI k)]) hl bkX0_antiSlope_6_8 rfl (fun ls hl => ?_)
      refine z_alen B 3 rfl hf dX0_antiSlope_8 ?_
      refine lv_icmp_ge (tgt := 41) B.hx B.hb dX0_antiSlope_9 (by decide) (fun h1 => ?_) (fun h1 => ?_)
      · have e4 := nI4 hk h1
        rw [e4] at hr
        refine z_new B ciX0 wd_C_X0_10 hfs_X0 (by (try dsimp only); omega) (by (try dsimp only); omega) dX0_antiSlope_41 (fun J1 ob1 y1 p1 => ?_)
        refine pb_blk B.hx B.hb (lv' := [(2, .int (nI k)), (1, .ref a), (0, .ref q1)]) (st' := [.ref a, .ref H.size, .ref H.size]) hl bkX0_antiSlope_44_46 rfl (fun ls hl => ?_)
        have ej1 := Ex.one y1 p1
        have hrf := fo_pre hr (hA_no hA hsa) ej1
        refine z_ctor B (c_X0_init l G (Aq A H.size) H.size a (asl u1 4) (Or.inr rfl)) cy_X0_init im_X0_init rfl wd_M_X0_27 (hE).1 (hA_aq hA (by have := (hE).1; omega) (by omega)) ⟨ob1, hrf⟩ rfl hl.1 rfl (Nat.le_of_ble_eq_true rfl) ⟨by decide, by decide⟩ ⟨(by (try dsimp only); omega), (by (try dsimp only); omega)⟩ dX0_antiSlope_46 (fun J2 y2 p2 ob2 => ?_)
        exact z_aret B (Or.inl ⟨_, rfl⟩) dX0_antiSlope_49 ((hE).trans (Ex.new y1 p1 y2 p2)) ⟨_, rfl, fo_post hrf y2 p2 (hA_no hA (hE).1) ob2⟩ (by (try dsimp only); omega) (by (try dsimp only); omega)
      · have hk4 := nI4' hk h1
        have haq := hA_aq hA hE.1 hr.lt
        have h1f : Fo G (Aq A a) H q1 u1 := h1f.mv ⟨hE.1, fun z hz hA1 => ⟨fun h => h.elim hA1 (fun e9 => by omega), hE.2 z hz⟩⟩
        refine pb_blk B.hx B.hb (lv' := [(2, .int (nI k)), (1, .ref a), (0, .ref q1)]) (st' := [.int ((nI k) - 1), .ref q1, .int (nI k), .ref a]) hl bkX0_antiSlope_12_18 rfl (fun ls hl => ?_)
        rw [show nI k - 1 = nI (k - 1) from by rw [← nI_pred (k - 1), show k - 1 + 1 = k by omega]]
        obtain ⟨fs9, ho⟩ := h1f.ob
        have hk3 : k - 1 < 4 := by omega
        refine n_callV B (c_X0_fraction l G (Aq A a) q1 (k - 1) u1 H hk3) cy_X0_fraction im_X0_fraction se_X0_fraction wd_M_X0_39 rfl ho ⟨rfl, h1f⟩ rfl hl.1 rfl (Nat.le_of_ble_eq_true rfl) ⟨by decide, by decide⟩ ⟨(by (try dsimp only); omega), (by (try dsimp only); omega)⟩ dX0_antiSlope_18 (fun v hv => ?_)
        obtain ⟨x1, rfl, hx1⟩ := hv
        have hE1 : Ex H H := Ex.rf
        refine z_new B ciX1 wd_C_X0_30 hfs_X1 (by (try dsimp only); omega) (by (try dsimp only); omega) dX0_antiSlope_21 (fun J2 ob2 z2 o2 => ?_)
        refine pb_blk B.hx B.hb (lv' := [(2, .int (nI k)), (1, .ref a), (0, .ref q1)]) (st' := [.long ((nI k)).toInt64, .long 1, .ref H.size, .ref H.size, .ref x1, .int (nI k), .ref a]) hl bkX0_antiSlope_24_28 rfl (fun ls hl => ?_)
        refine z_ctor B (c_X1_init l G (Aq A a) H.size 1 ((nI k)).toInt64 0 0) cy_X1_init im_X1_init rfl wd_M_X0_32 (by have := hE.1; have := hE1.1; omega) (hA_up haq (by have := hE1.1; omega)) ob2 rfl hl.1 rfl (Nat.le_of_ble_eq_true rfl) ⟨by decide, by decide⟩ ⟨(by (try dsimp only); omega), (by (try dsimp only); omega)⟩ dX0_antiSlope_28 (fun J3 z3 o3 ob3 => ?_)
        have e13 := Ex.new z2 o2 z3 o3
        have hn : Fr G (Aq A a) J3 H.size (inv k) := ⟨_, _, ⟨fun h9 => absurd (haq _ h9) (by have := hE1.1; omega), ob3⟩, frxI hk1 hk4⟩
        have hx1 := hx1.mv (e13.mv _)
        obtain ⟨fs9, ho⟩ := hx1.ob
        have hbm := (hb (k - 1) hk3).mul (inv_sm hk1 hk4)
        refine z_callV B (c_X1_multiplied l G (Aq A a) x1 H.size _ _ hbm.1 hbm.2) cy_X1_multiplied im_X1_multiplied se_X1_multiplied wd_M_X0_47 rfl ho (hA_up haq (by have := e13.1; omega)) ⟨hx1, hn⟩ rfl hl.1 rfl (Nat.le_of_ble_eq_true rfl) ⟨by decide, by decide⟩ ⟨(by (try dsimp only); omega), (by (try dsimp only); omega)⟩ dX0_antiSlope_31 (fun v J4 hE4 hv => ?_)
        obtain ⟨y, rfl, hy⟩ := hv
        have e14 := e13.trans hE4
        have hE := hE.trans e14
        have hr := hr.ex e14
        obtain ⟨f, hf, hfs⟩ := id hr
        obtain ⟨n9, d9, ob9, fx9⟩ := id hy
        refine z_aastF B hf ob9 (vp_in_nI hk4 (by decide)) dX0_antiSlope_34 (fun J9 w9 z9 o9 => ?_)
        rw [nI_clamp (by omega)] at w9
        refine z_forget hsa ?_
        refine W.widen (k := 2 + 3 * (k + 1)) (n := 6 + 6 * (k + 1)) (by (try dsimp only); omega) (by (try dsimp only); omega) ?_
        refine pb_blk B.hx B.hb (lv' := [(2, .int ((nI k) + 1)), (1, .ref a), (0, .ref q1)]) (st' := []) hl bkX0_antiSlope_35_6 rfl (fun ls hl => ?_)
        exact ih (k + 1) J9 ls (by omega) (by omega) hk4 (hE.put z9 o9 hsa) (RowM.put hf hfs hy w9 z9 o9 (fun j h2 h3 => ⟨h2, asl_ne h3⟩) (fun _ => asl_k hk1)) (by rw [← nI_1]; exact lv_sub hl [0, 1, 2] rfl)
  refine z_callS B (c_X0_zeros l G A s.heap.size) cy_X0_zeros st_X0_zeros wd_M_X0_23 hA rfl rfl hl.1 rfl (Nat.le_of_ble_eq_true rfl) ⟨by decide, by decide⟩ ⟨by decide, by decide⟩ dX0_antiSlope_0 (fun v H1 hE hv => ?_)
  obtain ⟨a, rfl, hsa, hr⟩ := hv
  refine pb_blk B.hx B.hb (lv' := [(2, .int 1), (1, .ref a), (0, .ref q1)]) (st' := []) hl bkX0_antiSlope_3_6 rfl (fun ls hl => ?_)
  refine W.widen (k := 2 + 3 * 1) (n := 6 + 6 * 1) (by (try dsimp only); omega) (by (try dsimp only); omega) ?_
  have hr1 : RowM G A H1 a 4 4 (asl u1 1) := by obtain ⟨f, hf, hfs⟩ := hr; exact ⟨f, hf, fun j hj => by rw [asl, if_neg (by omega)]; exact hfs j hj⟩
  exact loop a hsa 5 1 H1 ls (by omega) (by omega) (by omega) hE hr1 (lv_sub hl [0, 1, 2] rfl)

theorem mrow_k {u v : Nat → Rat} {k o : Nat} : mrow u v k o k = psum u v k o := by
  unfold mrow
  rw [if_neg (Nat.lt_irrefl _), if_pos rfl]
theorem mrow_ne {u v : Nat → Rat} {k o o' j : Nat} (h : j ≠ k) : mrow u v k o' j = mrow u v k o j := by
  unfold mrow
  rw [if_neg h, if_neg h]
theorem mrow_next {u v : Nat → Rat} {k : Nat} (j : Nat) : mrow u v (k + 1) 0 j = mrow u v k (k + 1) j := by
  unfold mrow
  by_cases h1 : j < k
  · rw [if_pos (by omega), if_pos h1]
  · by_cases h2 : j = k
    · subst h2
      rw [if_pos (by omega), if_neg h1, if_pos rfl]
    · rw [if_neg (by omega), if_neg h1, if_neg h2]
      split <;> rfl
theorem mrow_end {u v : Nat → Rat} {j : Nat} (h : j < 4) : mrow u v 4 0 j = mulF u v j := by
  unfold mrow
  rw [if_pos h]
  rfl

def po_X0_multiplied (G : Gm) (A : Nat → Prop) (q1 q2 : Nat) (u1 u2 : Nat → Rat) : Option Value → Heap → Prop := fun v H => ∃ q, v = some (.ref q) ∧ Fo G A H q (mulF u1 u2)
theorem dX0_multiplied_0 : decode cX0_multiplied 0 = .ok (.invokestatic 23, 3) := by decide +kernel
theorem bkX0_multiplied_3_6 : pb_chk cX0_multiplied 3 [.astore_n 2, .iconst 0, .istore_n 3] = some 6 := by decide +kernel
theorem bkX0_multiplied_6_8 : pb_chk cX0_multiplied 6 [.iload_n 3, .aload_n 2] = some 8 := by decide +kernel
theorem dX0_multiplied_8 : decode cX0_multiplied 8 = .ok (.arraylength, 1) := by decide +kernel
theorem dX0_multiplied_9 : decode cX0_multiplied 9 = .ok (.if_icmp .ge 54, 3) := by decide +kernel
theorem dX0_multiplied_63 : decode cX0_multiplied 63 = .ok (.new 10, 3) := by decide +kernel
theorem bkX0_multiplied_66_68 : pb_chk cX0_multiplied 66 [.dup, .aload_n 2] = some 68 := by decide +kernel
theorem dX0_multiplied_68 : decode cX0_multiplied 68 = .ok (.invokespecial 27, 3) := by decide +kernel
theorem dX0_multiplied_71 : decode cX0_multiplied 71 = .ok (.areturn, 1) := by decide +kernel
theorem bkX0_multiplied_12_15 : pb_chk cX0_multiplied 12 [.iconst 0, .istore 4] = some 15 := by decide +kernel
theorem bkX0_multiplied_15_18 : pb_chk cX0_multiplied 15 [.iload 4, .iload_n 3] = some 18 := by decide +kernel
theorem dX0_multiplied_18 : decode cX0_multiplied 18 = .ok (.if_icmp .gt 39, 3) := by decide +kernel
theorem bkX0_multiplied_57_6 : pb_chk cX0_multiplied 57 [.iinc 3 1, .goto (-54)] = some 6 := by decide +kernel
theorem bkX0_multiplied_21_24 : pb_chk cX0_multiplied 21 [.aload_n 0, .iload 4] = some 24 := by decide +kernel
theorem dX0_multiplied_24 : decode cX0_multiplied 24 = .ok (.invokevirtual 39, 3) := by decide +kernel
theorem bkX0_multiplied_27_32 : pb_chk cX0_multiplied 27 [.aload_n 1, .iload_n 3, .iload 4, .isub] = some 32 := by decide +kernel
theorem dX0_multiplied_32 : decode cX0_multiplied 32 = .ok (.invokevirtual 39, 3) := by decide +kernel
theorem dX0_multiplied_35 : decode cX0_multiplied 35 = .ok (.invokevirtual 47, 3) := by decide +kernel
theorem bkX0_multiplied_38_44 : pb_chk cX0_multiplied 38 [.astore 5, .aload_n 2, .iload_n 3, .aload_n 2, .iload_n 3] = some 44 := by decide +kernel
theorem dX0_multiplied_44 : decode cX0_multiplied 44 = .ok (.aaload, 1) := by decide +kernel
theorem bkX0_multiplied_45_47 : pb_chk cX0_multiplied 45 [.aload 5] = some 47 := by decide +kernel
theorem dX0_multiplied_47 : decode cX0_multiplied 47 = .ok (.invokevirtual 43, 3) := by decide +kernel
theorem dX0_multiplied_50 : decode cX0_multiplied 50 = .ok (.aastore, 1) := by decide +kernel
theorem bkX0_multiplied_51_15 : pb_chk cX0_multiplied 51 [.iinc 4 1, .goto (-39)] = some 15 := by decide +kernel
set_option maxHeartbeats 4000000 in
set_option maxRecDepth 100000 in
theorem c_X0_multiplied (l : Launch) (G : Gm) (A : Nat → Prop) (q1 q2 : Nat) (u1 u2 : Nat → Rat) (hb : Mok u1 u2) : Mz l yX0_multiplied cX0_multiplied 6 (some (.object "FormulaHouse$Formula")) (⟨4, 35, 72, 99⟩ : Room) G A [.ref q1, .ref q2] (fun H => Fo G A H q1 u1 ∧ Fo G A H q2 u2) (po_X0_multiplied G A q1 q2 u1 u2) := by
  refine of_met (by decide) (Nat.le_of_ble_eq_true rfl) ?_
  intro p e s m below meth c ls B hA ⟨h1f, h2f⟩ hl
  have loop : ∀ (a : Nat) (hsa : s.heap.size ≤ a) (n k : Nat) (H : Heap) (ls : Array Slot), 5 ≤ k + n → k ≤ 4 → Ex s.heap H → RowM G A H a 4 4 (mrow u1 u2 k 0) → lv_has ls 6 [(3, .int (nI k)), (2, .ref a), (0, .ref q1), (1, .ref q2)] → W p l e (⟨4, 35, 72, 99⟩ : Room) s m ([.ref q1, .ref q2] : List Value).toArray below meth c H [] (2 + 8 * k) (6 + 16 * k) (MQ below (Qz (po_X0_multiplied G A q1 q2 u1 u2)) ([.ref q1, .ref q2] : List Value).toArray s (⟨4, 35, 72, 99⟩ : Room).cells (⟨4, 35, 72, 99⟩ : Room).slots (fun _ => False)) (F0 m 6 ls []) := by
    intro a hsa n
    induction n with
    | zero => intro k H ls h1 h2; omega
    | succ n ih =>
      intro k H ls hn hk hE hr hl
      obtain ⟨f, hf, hfs⟩ := id hr
      refine pb_blk B.hx B.hb (lv' := [(3, .int (nI k)), (2, .ref a), (0, .ref q1), (1, .ref q2)]) (st' := [.ref a, .int (nI k)]) hl bkX0_multiplied_6_8 rfl (fun ls hl => ?_)
      refine z_alen B 3 rfl hf dX0_multiplied_8 ?_
      refine lv_icmp_ge (tgt := 63) B.hx B.hb dX0_multiplied_9 (by decide) (fun h1 => ?_) (fun h1 => ?_)
      · have e4 := nI4 hk h1
        rw [e4] at hr
        have hr2 : RowM G A H a 4 4 (mulF u1 u2) := by obtain ⟨f, hf, hfs⟩ := hr; exact ⟨f, hf, fun j hj => by rw [← mrow_end hj]; exact hfs j hj⟩
        refine z_new B ciX0 wd_C_X0_10 hfs_X0 (by (try dsimp only); omega) (by (try dsimp only); omega) dX0_multiplied_63 (fun J1 ob1 y1 p1 => ?_)
        refine pb_blk B.hx B.hb (lv' := [(3, .int (nI k)), (2, .ref a), (0, .ref q1), (1, .ref q2)]) (st' := [.ref a, .ref H.size, .ref H.size]) hl bkX0_multiplied_66_68 rfl (fun ls hl => ?_)
        have ej1 := Ex.one y1 p1
        have hrf := fo_pre hr2 (hA_no hA hsa) ej1
        refine z_ctor B (c_X0_init l G (Aq A H.size) H.size a (mulF u1 u2) (Or.inr rfl)) cy_X0_init im_X0_init rfl wd_M_X0_27 (hE).1 (hA_aq hA (by have := (hE).1; omega) (by omega)) ⟨ob1, hrf⟩ rfl hl.1 rfl (Nat.le_of_ble_eq_true rfl) ⟨by decide, by decide⟩ ⟨(by (try dsimp only); omega), (by (try dsimp only); omega)⟩ dX0_multiplied_68 (fun J2 y2 p2 ob2 => ?_)
        exact z_aret B (Or.inl ⟨_, rfl⟩) dX0_multiplied_71 ((hE).trans (Ex.new y1 p1 y2 p2)) ⟨_, rfl, fo_post hrf y2 p2 (hA_no hA (hE).1) ob2⟩ (by (try dsimp only); omega) (by (try dsimp only); omega)
      · have hk4 := nI4' hk h1
        refine pb_blk B.hx B.hb (lv' := [(4, .int 0), (3, .int (nI k)), (2, .ref a), (0, .ref q1), (1, .ref q2)]) (st' := []) hl bkX0_multiplied_12_15 rfl (fun ls hl => ?_)
        have loop2 : ∀ (n2 o : Nat) (H : Heap) (ls : Array Slot), k + 2 ≤ o + n2 → o ≤ k + 1 → Ex s.heap H → RowM G A H a 4 4 (mrow u1 u2 k o) → lv_has ls 6 [(4, .int (nI o)), (3, .int (nI k)), (2, .ref a), (0, .ref q1), (1, .ref q2)] → W p l e (⟨4, 35, 72, 99⟩ : Room) s m ([.ref q1, .ref q2] : List Value).toArray below meth c H [] (2 + 8 * k + 2 * o) (6 + 16 * k + 4 * o) (MQ below (Qz (po_X0_multiplied G A q1 q2 u1 u2)) ([.ref q1, .ref q2] : List Value).toArray s (⟨4, 35, 72, 99⟩ : Room).cells (⟨4, 35, 72, 99⟩ : Room).slots (fun _ => False)) (F0 m 15 ls []) := by
          intro n2
          induction n2 with
          | zero => intro o H ls h1 h2; omega
          | succ n2 ih2 =>
            intro o H ls hn2 ho1 hE hr hl
            refine pb_blk B.hx B.hb (lv' := [(4, .int (nI o)), (3, .int (nI k)), (2, .ref a), (0, .ref q1), (1, .ref q2)]) (st' := [.int (nI k), .int (nI o)]) hl bkX0_multiplied_15_18 rfl (fun ls hl => ?_)
            refine lv_icmp_gt (tgt := 57) B.hx B.hb dX0_multiplied_18 (by decide) (fun h2 => ?_) (fun h2 => ?_)
            · have eo : o = k + 1 := by have := (nI_ltI (by omega) (by omega)).mp h2; omega
              have hr1 : RowM G A H a 4 4 (mrow u1 u2 (k + 1) 0) := by obtain ⟨f, hf, hfs⟩ := hr; exact ⟨f, hf, fun j hj => by rw [mrow_next]; rw [eo] at hfs; exact hfs j hj⟩
              refine W.widen (k := 2 + 8 * (k + 1)) (n := 6 + 16 * (k + 1)) (by (try dsimp only); omega) (by (try dsimp only); omega) ?_
              refine pb_blk B.hx B.hb (lv' := [(3, .int ((nI k) + 1)), (4, .int (nI o)), (2, .ref a), (0, .ref q1), (1, .ref q2)]) (st' := []) hl bkX0_multiplied_57_6 rfl (fun ls hl => ?_)
              exact ih (k + 1) H ls (by omega) hk4 hE hr1 (by rw [← nI_1]; exact lv_sub hl [0, 2, 3, 4] rfl)
            · have ho2 : o ≤ k := nI_nlt_le (by omega) h2
              have haq := hA_aq hA hE.1 hr.lt
              have h1f : Fo G (Aq A a) H q1 u1 := h1f.mv ⟨hE.1, fun z hz hA1 => ⟨fun h => h.elim hA1 (fun e9 => by omega), hE.2 z hz⟩⟩
              have h2f : Fo G (Aq A a) H q2 u2 := h2f.mv ⟨hE.1, fun z hz hA1 => ⟨fun h => h.elim hA1 (fun e9 => by omega), hE.2 z hz⟩⟩
              refine pb_blk B.hx B.hb (lv' := [(4, .int (nI o)), (3, .int (nI k)), (2, .ref a), (0, .ref q1), (1, .ref q2)]) (st' := [.int (nI o), .ref q1]) hl bkX0_multiplied_21_24 rfl (fun ls hl => ?_)
              obtain ⟨fs9, ho⟩ := h1f.ob
              refine n_callV B (c_X0_fraction l G (Aq A a) q1 o u1 H (by omega)) cy_X0_fraction im_X0_fraction se_X0_fraction wd_M_X0_39 rfl ho ⟨rfl, h1f⟩ rfl hl.1 rfl (Nat.le_of_ble_eq_true rfl) ⟨by decide, by decide⟩ ⟨(by (try dsimp only); omega), (by (try dsimp only); omega)⟩ dX0_multiplied_24 (fun v hv => ?_)
              obtain ⟨x1, rfl, hx1⟩ := hv
              refine pb_blk B.hx B.hb (lv' := [(4, .int (nI o)), (3, .int (nI k)), (2, .ref a), (0, .ref q1), (1, .ref q2)]) (st' := [.int ((nI k) - (nI o)), .ref q2, .ref x1]) hl bkX0_multiplied_27_32 rfl (fun ls hl => ?_)
              rw [pk_sub ho2]
              obtain ⟨fs9, ho⟩ := h2f.ob
              refine n_callV B (c_X0_fraction l G (Aq A a) q2 (k - o) u2 H (by omega)) cy_X0_fraction im_X0_fraction se_X0_fraction wd_M_X0_39 rfl ho ⟨rfl, h2f⟩ rfl hl.1 rfl (Nat.le_of_ble_eq_true rfl) ⟨by decide, by decide⟩ ⟨(by (try dsimp only); omega), (by (try dsimp only); omega)⟩ dX0_multiplied_32 (fun v hv => ?_)
              obtain ⟨x2, rfl, hx2⟩ := hv
              obtain ⟨fs9, ho⟩ := hx1.ob
              have hbm := hb.1 o (k - o) (by omega)
              refine z_callV B (c_X1_multiplied l G (Aq A a) x1 x2 _ _ hbm.1 hbm.2) cy_X1_multiplied im_X1_multiplied se_X1_multiplied wd_M_X0_47 rfl ho haq ⟨hx1, hx2⟩ rfl hl.1 rfl (Nat.le_of_ble_eq_true rfl) ⟨by decide, by decide⟩ ⟨(by (try dsimp only); omega), (by (try dsimp only); omega)⟩ dX0_multiplied_35 (fun v J1 hE1 hv => ?_)
              obtain ⟨y, rfl, hy⟩ := hv
              have hr := hr.ex hE1
              obtain ⟨f, hf, hfs⟩ := id hr
              obtain ⟨x3, ex3, hx3⟩ := hfs k hk4
              rw [mrow_k] at hx3
              refine pb_blk B.hx B.hb (lv' := [(5, .ref y), (4, .int (nI o)), (3, .int (nI k)), (2, .ref a), (0, .ref q1), (1, .ref q2)]) (st' := [.int (nI k), .ref a, .int (nI k), .ref a]) hl bkX0_multiplied_38_44 rfl (fun ls hl => ?_)
              refine z_aald B 3 rfl hf (vp_in_nI hk4 (by decide)) (v := .ref x3) (by rw [nI_clamp (by omega)]; exact ex3) dX0_multiplied_44 ?_
              refine pb_blk B.hx B.hb (lv' := [(5, .ref y), (4, .int (nI o)), (3, .int (nI k)), (2, .ref a), (0, .ref q1), (1, .ref q2)]) (st' := [.ref y, .ref x3, .int (nI k), .ref a]) hl bkX0_multiplied_45_47 rfl (fun ls hl => ?_)
              obtain ⟨fs9, ho⟩ := hx3.ob
              refine z_callV B (c_X1_plus l G (Aq A a) x3 y _ _ (hb.2 k o hk4 ho2)) cy_X1_plus im_X1_plus se_X1_plus wd_M_X0_43 rfl ho (hA_up haq hE1.1) ⟨hx3, hy⟩ rfl hl.1 rfl (Nat.le_of_ble_eq_true rfl) ⟨by decide, by decide⟩ ⟨(by (try dsimp only); omega), (by (try dsimp only); omega)⟩ dX0_multiplied_47 (fun v J2 hE2 hv => ?_)
              obtain ⟨y2, rfl, hy2⟩ := hv
              have hE := (hE.trans hE1).trans hE2
              have hr := hr.ex hE2
              obtain ⟨f, hf, hfs⟩ := id hr
              obtain ⟨n9, d9, ob9, fx9⟩ := id hy2
              refine z_aastF B hf ob9 (vp_in_nI hk4 (by decide)) dX0_multiplied_50 (fun J9 w9 z9 o9 => ?_)
              rw [nI_clamp (by omega)] at w9
              refine z_forget hsa ?_
              refine W.widen (k := 2 + 8 * k + 2 * (o + 1)) (n := 6 + 16 * k + 4 * (o + 1)) (by (try dsimp only); omega) (by (try dsimp only); omega) ?_
              refine pb_blk B.hx B.hb (lv' := [(4, .int ((nI o) + 1)), (5, .ref y), (3, .int (nI k)), (2, .ref a), (0, .ref q1), (1, .ref q2)]) (st' := []) hl bkX0_multiplied_51_15 rfl (fun ls hl => ?_)
              exact ih2 (o + 1) J9 ls (by omega) (by omega) (hE.put z9 o9 hsa) (RowM.put hf hfs hy2 w9 z9 o9 (fun j h2 h3 => ⟨h2, mrow_ne h3⟩) (fun _ => mrow_k)) (by rw [← nI_1]; exact lv_sub hl [0, 2, 3, 4, 5] rfl)
        exact loop2 (k + 2) 0 H ls (by omega) (by omega) hE hr (lv_sub hl [0, 1, 2, 3, 4] rfl)
  refine z_callS B (c_X0_zeros l G A s.heap.size) cy_X0_zeros st_X0_zeros wd_M_X0_23 hA rfl rfl hl.1 rfl (Nat.le_of_ble_eq_true rfl) ⟨by decide, by decide⟩ ⟨by decide, by decide⟩ dX0_multiplied_0 (fun v H1 hE hv => ?_)
  obtain ⟨a, rfl, hsa, hr⟩ := hv
  refine pb_blk B.hx B.hb (lv' := [(3, .int 0), (2, .ref a), (0, .ref q1), (1, .ref q2)]) (st' := []) hl bkX0_multiplied_3_6 rfl (fun ls hl => ?_)
  have hr1 : RowM G A H1 a 4 4 (mrow u1 u2 0 0) := by obtain ⟨f, hf, hfs⟩ := hr; exact ⟨f, hf, fun j hj => by rw [show mrow u1 u2 0 0 j = 0 from by unfold mrow; rw [if_neg (by omega)]; split <;> rfl]; exact hfs j hj⟩
  exact loop a hsa 5 0 H1 ls (by omega) (by omega) hE hr1 (lv_sub hl [0, 1, 2, 3] rfl)

