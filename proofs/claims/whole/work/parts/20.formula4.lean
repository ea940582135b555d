theorem KX.ao1 {U : State} (h : KX U) : va_AO RX1 U := h.2.2.1
theorem KX.ao4 {U : State} (h : KX U) : va_AO RX4 U := h.2.2.2.1
theorem KX.dk {U : State} (h : KX U) : va_Nw (.declares ⟨RX4, "whichKind", "()I"⟩) U := h.2.2.2.2.1
theorem KX.dt {U : State} (h : KX U) : va_Nw (.declares ⟨RX4, "isTooGreat", "()Z"⟩) U := h.2.2.2.2.2.1
theorem KX.ds {U : State} (h : KX U) : va_Nw (.declares ⟨RX4, "isSameAs", "(LFormulaHouse$Thing;)Z"⟩) U := h.2.2.2.2.2.2.1
theorem KX.c00 {U : State} (h : KX U) : va_Nw (.castable RX0 RX0) U := h.2.2.2.2.2.2.2.1
theorem KX.c22 {U : State} (h : KX U) : va_Nw (.castable RX2 RX2) U := h.2.2.2.2.2.2.2.2.1
theorem KX.c04 {U : State} (h : KX U) : va_Nw (.castable RX0 RX4) U := h.2.2.2.2.2.2.2.2.2.1
theorem KX.c24 {U : State} (h : KX U) : va_Nw (.castable RX2 RX4) U := h.2.2.2.2.2.2.2.2.2.2.1
theorem KX.n02 {U : State} (h : KX U) : va_Nc RX0 RX2 U := h.2.2.2.2.2.2.2.2.2.2.2.1
theorem KX.n20 {U : State} (h : KX U) : va_Nc RX2 RX0 U := h.2.2.2.2.2.2.2.2.2.2.2.2
section ROWS4
variable {p : Program} {l : Launch} {e : Env} {R : Room} {s : State} {m : MethodId} {args : Array Value} {below : List Frame} {meth : Method} {c : Code} {H : Heap} {locs : List Loc} {cells slots : Nat} {Q : State → Prop} {cc : ByteArray} {pc nL : Nat} {ls : Array Slot} {rest st : List Value} {G : Gm} {A : Nat → Prop} {y : MethodName} {ret : Option FieldType}
theorem z_recv (B : Bd p s m args meth c G y cc nL ret) {b ci N : Nat} {C : String} {T : u_T} {fs : List Value} (hci : vwCl[ci]? = some (C, T, N)) (ob : va_at G.1 vwCl (b, .inr (ci, fs)) H) : ∃ cell : Cell, H[b]? = some cell ∧ cell.vm.isStatics = false ∧ s.vm.findClass C = some cell.cls := by
  obtain ⟨r, h1, cell, q1, q2, q3, q4⟩ := ob
  exact ⟨cell, q1, by rw [q3]; rfl, by rw [q2]; exact (B.hK.1.1 ci _ hci).2.1⟩
theorem z_instY (B : Bd p s m args meth c G y cc nL ret) {b ci N index : Nat} {C nm : String} {T : u_T} {fs : List Value} (hci : vwCl[ci]? = some (C, T, N)) (ob : va_at G.1 vwCl (b, .inr (ci, fs)) H) (hc : va_Nw (.castable C nm) s) (hl : Cond.classLink y.cls index nm ∈ WS) (hd : decode cc pc = .ok (.instanceof index, 3))
    (kk : W p l e R s m args below meth c H locs cells slots Q (F0 m (pc + 3) ls (.int 1 :: rest))) : W p l e R s m args below meth c H locs cells slots Q (F0 m pc ls (.ref b :: rest)) := va_instY B.hx B.hb B.hown (B.hts _ hl) hc (z_recv B hci ob) hd kk
theorem z_instN (B : Bd p s m args meth c G y cc nL ret) {b ci N index : Nat} {C nm : String} {T : u_T} {fs : List Value} (hci : vwCl[ci]? = some (C, T, N)) (ob : va_at G.1 vwCl (b, .inr (ci, fs)) H) (hc : va_Nc C nm s) (hl : Cond.classLink y.cls index nm ∈ WS) (hd : decode cc pc = .ok (.instanceof index, 3))
    (kk : W p l e R s m args below meth c H locs cells slots Q (F0 m (pc + 3) ls (.int 0 :: rest))) : W p l e R s m args below meth c H locs cells slots Q (F0 m pc ls (.ref b :: rest)) := va_instNo B.hx B.hb B.hown (B.hts _ hl) hc (z_recv B hci ob) hd kk
theorem z_castY (B : Bd p s m args meth c G y cc nL ret) {b ci N index : Nat} {C nm : String} {T : u_T} {fs : List Value} (hci : vwCl[ci]? = some (C, T, N)) (ob : va_at G.1 vwCl (b, .inr (ci, fs)) H) (hc : va_Nw (.castable C nm) s) (hl : Cond.classLink y.cls index nm ∈ WS) (hd : decode cc pc = .ok (.checkcast index, 3))
    (kk : W p l e R s m args below meth c H locs cells slots Q (F0 m (pc + 3) ls (.ref b :: rest))) : W p l e R s m args below meth c H locs cells slots Q (F0 m pc ls (.ref b :: rest)) := va_castY B.hx B.hb B.hown (B.hts _ hl) hc (z_recv B hci ob) hd kk
end ROWS4
theorem hor_step {u v : Nat → Rat} {d j : Nat} (h : j < d) : hor u v d (d - j) = addF (mulF (hor u v d (d - (j + 1))) v) (cst (u j)) := by
  rw [show d - j = (d - (j + 1)) + 1 by omega]
  show addF _ (cst (u (d - 1 - (d - (j + 1))))) = _
  rw [show d - 1 - (d - (j + 1)) = j by omega]
def kdF (u : Nat → Rat) : Int32 := if 0 < dgI u then 1 else 0
def tgF (u : Nat → Rat) : Bool := tgR (u 0) || tgR (u 1) || tgR (u 2) || tgR (u 3)
theorem tgF_no {u : Nat → Rat} (h : ∀ j, j < 4 → tgR (u j) = false) : tgF u = false := by
  unfold tgF
  rw [h 0 (by decide), h 1 (by decide), h 2 (by decide), h 3 (by decide)]
  rfl
theorem tgF_yes {u : Nat → Rat} {k : Nat} (hk : k < 4) (h : tgR (u k) = true) : tgF u = true := by
  unfold tgF
  rcases (show k = 0 ∨ k = 1 ∨ k = 2 ∨ k = 3 by omega) with rfl | rfl | rfl | rfl <;> simp [h]
def smF (u v : Nat → Rat) : Bool := decide (u 0 = v 0 ∧ u 1 = v 1 ∧ u 2 = v 2 ∧ u 3 = v 3)
theorem smF_yes {u v : Nat → Rat} (h : ∀ j, j < 4 → u j = v j) : smF u v = true := decide_eq_true ⟨h 0 (by decide), h 1 (by decide), h 2 (by decide), h 3 (by decide)⟩
theorem smF_no {u v : Nat → Rat} {k : Nat} (hk : k < 4) (h : u k ≠ v k) : smF u v = false := decide_eq_false (fun q => h (by
  obtain ⟨q0, q1, q2, q3⟩ := q
  rcases (show k = 0 ∨ k = 1 ∨ k = 2 ∨ k = 3 by omega) with rfl | rfl | rfl | rfl <;> assumption))
theorem cmpR_0 {a b : Rat} : cmpR a b = 0 ↔ a = b := by
  unfold cmpR
  by_cases h : a < b
  · rw [if_pos h]
    exact ⟨fun q => absurd q (by decide), fun q => absurd h (by rw [q]; exact Rat.lt_irrefl)⟩
  · rw [if_neg h]
    by_cases h' : a = b
    · rw [if_pos h']; exact ⟨fun _ => h', fun _ => rfl⟩
    · rw [if_neg h']; exact ⟨fun q => absurd q (by decide), fun q => absurd q h'⟩
theorem Sm.cmp {a b : Rat} (ha : Sm a) (hb : Sm b) : a.num.natAbs * b.den < 2 ^ 62 ∧ b.num.natAbs * a.den < 2 ^ 62 := ⟨Nat.lt_of_le_of_lt (Nat.mul_le_mul ha.1 hb.2) (by decide), Nat.lt_of_le_of_lt (Nat.mul_le_mul hb.1 ha.2) (by decide)⟩

def po_X0_withInside (G : Gm) (A : Nat → Prop) (q1 q2 : Nat) (u1 u2 : Nat → Rat) (d : Nat) : Option Value → Heap → Prop := fun v H => ∃ q, v = some (.ref q) ∧ Fo G A H q (hor u1 u2 d d)
theorem bkX0_withInside_0_2 : pb_chk cX0_withInside 0 [.aload_n 0, .aload_n 0] = some 2 := by decide +kernel
theorem dX0_withInside_2 : decode cX0_withInside 2 = .ok (.getfield 19, 3) := by decide +kernel
theorem dX0_withInside_5 : decode cX0_withInside 5 = .ok (.invokevirtual 39, 3) := by decide +kernel
theorem dX0_withInside_8 : decode cX0_withInside 8 = .ok (.invokestatic 50, 3) := by decide +kernel
theorem bkX0_withInside_11_13 : pb_chk cX0_withInside 11 [.astore_n 2, .aload_n 0] = some 13 := by decide +kernel
theorem dX0_withInside_13 : decode cX0_withInside 13 = .ok (.getfield 19, 3) := by decide +kernel
theorem bkX0_withInside_16_19 : pb_chk cX0_withInside 16 [.iconst 1, .isub, .istore_n 3] = some 19 := by decide +kernel
theorem bkX0_withInside_19_20 : pb_chk cX0_withInside 19 [.iload_n 3] = some 20 := by decide +kernel
theorem dX0_withInside_20 : decode cX0_withInside 20 = .ok (.ifCond .lt 26, 3) := by decide +kernel
theorem bkX0_withInside_46_47 : pb_chk cX0_withInside 46 [.aload_n 2] = some 47 := by decide +kernel
theorem dX0_withInside_47 : decode cX0_withInside 47 = .ok (.areturn, 1) := by decide +kernel
theorem bkX0_withInside_23_25 : pb_chk cX0_withInside 23 [.aload_n 2, .aload_n 1] = some 25 := by decide +kernel
theorem dX0_withInside_25 : decode cX0_withInside 25 = .ok (.invokevirtual 54, 3) := by decide +kernel
theorem bkX0_withInside_28_30 : pb_chk cX0_withInside 28 [.aload_n 0, .iload_n 3] = some 30 := by decide +kernel
theorem dX0_withInside_30 : decode cX0_withInside 30 = .ok (.invokevirtual 39, 3) := by decide +kernel
theorem dX0_withInside_33 : decode cX0_withInside 33 = .ok (.invokestatic 50, 3) := by decide +kernel
theorem dX0_withInside_36 : decode cX0_withInside 36 = .ok (.invokevirtual 57, 3) := by decide +kernel
theorem bkX0_withInside_39_19 : pb_chk cX0_withInside 39 [.astore_n 2, .iinc 3 (-1), .goto (-24)] = some 19 := by decide +kernel
set_option maxHeartbeats 4000000 in
set_option maxRecDepth 100000 in
theorem c_X0_withInside (l : Launch) (G : Gm) (A : Nat → Prop) (q1 q2 : Nat) (u1 u2 : Nat → Rat) (d : Nat) (hd : dgI u1 = nI d) (hd4 : d < 4) (hb : ∀ i, i < d → Mok (hor u1 u2 d i) u2 ∧ ∀ k, k < 4 → Pb (mulF (hor u1 u2 d i) u2 k) (cst (u1 (d - 1 - i)) k)) : Mz l yX0_withInside cX0_withInside 4 (some (.object "FormulaHouse$Formula")) (⟨5, 135, 290, 124⟩ : Room) G A [.ref q1, .ref q2] (fun H => Fo G A H q1 u1 ∧ Fo G A H q2 u2) (po_X0_withInside G A q1 q2 u1 u2 d) := by
  refine of_met (by decide) (Nat.le_of_ble_eq_true rfl) ?_
  intro p e s m below meth c ls B hA ⟨h1f, h2f⟩ hl
  have loop : ∀ (j : Nat) (H : Heap) (q3 : Nat) (ls : Array Slot), j ≤ d → Ex s.heap H → Fo G A H q3 (hor u1 u2 d (d - j)) → lv_has ls 4 [(3, .int (nI j - 1)), (2, .ref q3), (0, .ref q1), (1, .ref q2)] → W p l e (⟨5, 135, 290, 124⟩ : Room) s m ([.ref q1, .ref q2] : List Value).toArray below meth c H [] (3 + 44 * (d - j)) (8 + 94 * (d - j)) (MQ below (Qz (po_X0_withInside G A q1 q2 u1 u2 d)) ([.ref q1, .ref q2] : List Value).toArray s (⟨5, 135, 290, 124⟩ : Room).cells (⟨5, 135, 290, 124⟩ : Room).slots (fun _ => False)) (F0 m 19 ls []) := by
    intro j
    induction j with
    | zero =>
      intro H q3 ls hj hE hq3 hl
      refine pb_blk B.hx B.hb (lv' := [(3, .int (nI 0 - 1)), (2, .ref q3), (0, .ref q1), (1, .ref q2)]) (st' := [.int (nI 0 - 1)]) hl bkX0_withInside_19_20 rfl (fun ls hl => ?_)
      refine lv_if_lt (tgt := 46) B.hx B.hb dX0_withInside_20 (by decide) (fun h1 => ?_) (fun h1 => ?_)
      · refine pb_blk B.hx B.hb (lv' := [(3, .int (nI 0 - 1)), (2, .ref q3), (0, .ref q1), (1, .ref q2)]) (st' := [.ref q3]) hl bkX0_withInside_46_47 rfl (fun ls hl => ?_)
        exact z_aret B (Or.inl ⟨_, rfl⟩) dX0_withInside_47 hE ⟨q3, rfl, hq3⟩ (by (try dsimp only); omega) (by (try dsimp only); omega)
      · exact absurd (by decide) h1
    | succ j ih =>
      intro H q3 ls hj hE hq3 hl
      rw [nI_pred] at hl
      refine pb_blk B.hx B.hb (lv' := [(3, .int (nI j)), (2, .ref q3), (0, .ref q1), (1, .ref q2)]) (st' := [.int (nI j)]) hl bkX0_withInside_19_20 rfl (fun ls hl => ?_)
      refine lv_if_lt (tgt := 46) B.hx B.hb dX0_withInside_20 (by decide) (fun h1 => ?_) (fun h1 => ?_)
      · exact absurd h1 (nI_pos (by omega))
      · have hbj := hb (d - (j + 1)) (by omega)
        rw [show d - 1 - (d - (j + 1)) = j by omega] at hbj
        have g1 := h1f.mv (hE.mv A)
        have g2 := h2f.mv (hE.mv A)
        refine pb_blk B.hx B.hb (lv' := [(3, .int (nI j)), (2, .ref q3), (0, .ref q1), (1, .ref q2)]) (st' := [.ref q2, .ref q3]) hl bkX0_withInside_23_25 rfl (fun ls hl => ?_)
        obtain ⟨fs9, ho⟩ := hq3.ob
        refine z_callV B (c_X0_multiplied l G A q3 q2 _ u2 hbj.1) cy_X0_multiplied im_X0_multiplied se_X0_multiplied wd_M_X0_54 rfl ho (hA_up hA hE.1) ⟨hq3, g2⟩ rfl hl.1 rfl (Nat.le_of_ble_eq_true rfl) ⟨by decide, by decide⟩ ⟨(by (try dsimp only); omega), (by (try dsimp only); omega)⟩ dX0_withInside_25 (fun v J1 hE1 hv => ?_)
        obtain ⟨q4, rfl, hq4⟩ := hv
        have g1 := g1.mv (hE1.mv A)
        refine pb_blk B.hx B.hb (lv' := [(3, .int (nI j)), (2, .ref q3), (0, .ref q1), (1, .ref q2)]) (st' := [.int (nI j), .ref q1, .ref q4]) hl bkX0_withInside_28_30 rfl (fun ls hl => ?_)
        obtain ⟨fs9, ho⟩ := g1.ob
        refine n_callV B (c_X0_fraction l G A q1 j u1 J1 (by omega)) cy_X0_fraction im_X0_fraction se_X0_fraction wd_M_X0_39 rfl ho ⟨rfl, g1⟩ rfl hl.1 rfl (Nat.le_of_ble_eq_true rfl) ⟨by decide, by decide⟩ ⟨(by (try dsimp only); omega), (by (try dsimp only); omega)⟩ dX0_withInside_30 (fun v hv => ?_)
        obtain ⟨x1, rfl, hx1⟩ := hv
        refine z_callS B (c_X0_constant l G A x1 (u1 j)) cy_X0_constant st_X0_constant wd_M_X0_50 (hA_up hA (hE.trans hE1).1) hx1 rfl hl.1 rfl (Nat.le_of_ble_eq_true rfl) ⟨by decide, by decide⟩ ⟨(by (try dsimp only); omega), (by (try dsimp only); omega)⟩ dX0_withInside_33 (fun v J2 hE2 hv => ?_)
        obtain ⟨q5, rfl, hq5⟩ := hv
        have hq4 := hq4.mv (hE2.mv A)
        obtain ⟨fs9, ho⟩ := hq4.ob
        refine z_callV B (c_X0_plus l G A q4 q5 _ _ hbj.2) cy_X0_plus im_X0_plus se_X0_plus wd_M_X0_57 rfl ho (hA_up hA ((hE.trans hE1).trans hE2).1) ⟨hq4, hq5⟩ rfl hl.1 rfl (Nat.le_of_ble_eq_true rfl) ⟨by decide, by decide⟩ ⟨(by (try dsimp only); omega), (by (try dsimp only); omega)⟩ dX0_withInside_36 (fun v J3 hE3 hv => ?_)
        obtain ⟨q6, rfl, hq6⟩ := hv
        refine W.widen (k := 3 + 44 * (d - j)) (n := 8 + 94 * (d - j)) (by (try dsimp only); omega) (by (try dsimp only); omega) ?_
        refine pb_blk B.hx B.hb (lv' := [(3, .int ((nI j) + (-1))), (2, .ref q6), (0, .ref q1), (1, .ref q2)]) (st' := []) hl bkX0_withInside_39_19 rfl (fun ls hl => ?_)
        exact ih J3 q6 ls (by omega) (((hE.trans hE1).trans hE2).trans hE3) (by rw [hor_step (by omega)]; exact hq6) (by rw [Int32.sub_eq_add_neg]; exact lv_sub hl [0, 1, 2, 3] rfl)
  obtain ⟨a1, ob1, -⟩ := id h1f
  rw [hd] at ob1
  refine pb_blk B.hx B.hb (lv' := [(0, .ref q1), (1, .ref q2)]) (st' := [.ref q1, .ref q1]) hl bkX0_withInside_0_2 rfl (fun ls hl => ?_)
  refine z_get B ciX0 1 (by decide) ob1 wd_F_X0_19 rfl dX0_withInside_2 ?_
  obtain ⟨fs9, ho⟩ := h1f.ob
  refine n_callV B (c_X0_fraction l G A q1 d u1 s.heap hd4) cy_X0_fraction im_X0_fraction se_X0_fraction wd_M_X0_39 rfl ho ⟨rfl, h1f⟩ rfl hl.1 rfl (Nat.le_of_ble_eq_true rfl) ⟨by decide, by decide⟩ ⟨Nat.zero_le _, Nat.zero_le _⟩ dX0_withInside_5 (fun v hv => ?_)
  obtain ⟨x1, rfl, hx1⟩ := hv
  refine z_callS B (c_X0_constant l G A x1 (u1 d)) cy_X0_constant st_X0_constant wd_M_X0_50 hA hx1 rfl hl.1 rfl (Nat.le_of_ble_eq_true rfl) ⟨by decide, by decide⟩ ⟨by decide, by decide⟩ dX0_withInside_8 (fun v H1 hE hv => ?_)
  obtain ⟨q3, rfl, hq3⟩ := hv
  have ob2 := ob1.mv (hE.mv A)
  refine pb_blk B.hx B.hb (lv' := [(2, .ref q3), (0, .ref q1), (1, .ref q2)]) (st' := [.ref q1]) hl bkX0_withInside_11_13 rfl (fun ls hl => ?_)
  refine z_get B ciX0 1 (by decide) ob2 wd_F_X0_19 rfl dX0_withInside_13 ?_
  refine pb_blk B.hx B.hb (lv' := [(3, .int ((nI d) - 1)), (2, .ref q3), (0, .ref q1), (1, .ref q2)]) (st' := []) hl bkX0_withInside_16_19 rfl (fun ls hl => ?_)
  refine W.widen (k := 3 + 44 * (d - d)) (n := 8 + 94 * (d - d)) (by (try dsimp only); omega) (by (try dsimp only); omega) ?_
  exact loop d H1 q3 ls (Nat.le_refl _) hE (by rw [Nat.sub_self]; exact hq3) (lv_sub hl [0, 1, 2, 3] rfl)

def po_X0_withInside0 (G : Gm) (A : Nat → Prop) (q1 q2 : Nat) (u1 u2 : Nat → Rat) : Option Value → Heap → Prop := fun v H => ∃ q, v = some (.ref q) ∧ Fo G A H q (cst 0)
theorem bkX0_withInside_16_20 : pb_chk cX0_withInside 16 [.iconst 1, .isub, .istore_n 3, .iload_n 3] = some 20 := by decide +kernel
set_option maxHeartbeats 4000000 in
set_option maxRecDepth 100000 in
theorem c_X0_withInside0 (l : Launch) (G : Gm) (A : Nat → Prop) (q1 q2 : Nat) (u1 u2 : Nat → Rat) (hd : dgI u1 = -1) : Mz l yX0_withInside cX0_withInside 4 (some (.object "FormulaHouse$Formula")) (⟨5, 135, 290, 124⟩ : Room) G A [.ref q1, .ref q2] (fun H => Fo G A H q1 u1 ∧ Fo G A H q2 u2) (po_X0_withInside0 G A q1 q2 u1 u2) := by
  refine of_met (by decide) (Nat.le_of_ble_eq_true rfl) ?_
  intro p e s m below meth c ls B hA ⟨h1f, h2f⟩ hl
  obtain ⟨a1, ob1, -⟩ := id h1f
  rw [hd] at ob1
  refine pb_blk B.hx B.hb (lv' := [(0, .ref q1), (1, .ref q2)]) (st' := [.ref q1, .ref q1]) hl bkX0_withInside_0_2 rfl (fun ls hl => ?_)
  refine z_get B ciX0 1 (by decide) ob1 wd_F_X0_19 rfl dX0_withInside_2 ?_
  obtain ⟨fs9, ho⟩ := h1f.ob
  refine z_callV B (c_X0_fractionO l G A q1 (-1) u1 (Or.inl (by decide))) cy_X0_fraction im_X0_fraction se_X0_fraction wd_M_X0_39 rfl ho hA h1f rfl hl.1 rfl (Nat.le_of_ble_eq_true rfl) ⟨by decide, by decide⟩ ⟨by decide, by decide⟩ dX0_withInside_5 (fun v H1 hE hv => ?_)
  obtain ⟨x1, rfl, hx1⟩ := hv
  refine z_callS B (c_X0_constant l G A x1 0) cy_X0_constant st_X0_constant wd_M_X0_50 (hA_up hA hE.1) hx1 rfl hl.1 rfl (Nat.le_of_ble_eq_true rfl) ⟨by decide, by decide⟩ ⟨by decide, by decide⟩ dX0_withInside_8 (fun v H2 hE2 hv => ?_)
  obtain ⟨q3, rfl, hq3⟩ := hv
  have ob2 := (ob1.mv (hE.mv A)).mv (hE2.mv A)
  refine pb_blk B.hx B.hb (lv' := [(2, .ref q3), (0, .ref q1), (1, .ref q2)]) (st' := [.ref q1]) hl bkX0_withInside_11_13 rfl (fun ls hl => ?_)
  refine z_get B ciX0 1 (by decide) ob2 wd_F_X0_19 rfl dX0_withInside_13 ?_
  refine pb_blk B.hx B.hb (lv' := [(3, .int ((-1) - 1)), (2, .ref q3), (0, .ref q1), (1, .ref q2)]) (st' := [.int ((-1) - 1)]) hl bkX0_withInside_16_20 rfl (fun ls hl => ?_)
  refine lv_if_lt (tgt := 46) B.hx B.hb dX0_withInside_20 (by decide) (fun h1 => ?_) (fun h1 => ?_)
  · refine pb_blk B.hx B.hb (lv' := [(3, .int ((-1) - 1)), (2, .ref q3), (0, .ref q1), (1, .ref q2)]) (st' := [.ref q3]) hl bkX0_withInside_46_47 rfl (fun ls hl => ?_)
    exact z_aret B (Or.inl ⟨_, rfl⟩) dX0_withInside_47 (hE.trans hE2) ⟨q3, rfl, hq3⟩ (by (try dsimp only); omega) (by (try dsimp only); omega)
  · exact absurd (by decide) h1

def po_X0_whichKind (G : Gm) (A : Nat → Prop) (q : Nat) (u : Nat → Rat) : Option Value → Prop := fun v => v = some (.int (kdF u))
theorem bkX0_whichKind_0_1 : pb_chk cX0_whichKind 0 [.aload_n 0] = some 1 := by decide +kernel
theorem dX0_whichKind_1 : decode cX0_whichKind 1 = .ok (.getfield 19, 3) := by decide +kernel
theorem dX0_whichKind_4 : decode cX0_whichKind 4 = .ok (.ifCond .gt 7, 3) := by decide +kernel
theorem bkX0_whichKind_11_12 : pb_chk cX0_whichKind 11 [.iconst 1] = some 12 := by decide +kernel
theorem dX0_whichKind_12 : decode cX0_whichKind 12 = .ok (.ireturn, 1) := by decide +kernel
theorem bkX0_whichKind_7_12 : pb_chk cX0_whichKind 7 [.iconst 0, .goto 4] = some 12 := by decide +kernel
set_option maxHeartbeats 4000000 in
set_option maxRecDepth 100000 in
theorem c_X0_whichKind (l : Launch) (G : Gm) (A : Nat → Prop) (q : Nat) (u : Nat → Rat) : Mn l yX0_whichKind cX0_whichKind 1 (some .int) (⟨0, 0, 0, 0⟩ : Room) G [.ref q] (fun H => Fo G A H q u) (po_X0_whichKind G A q u) := by
  refine of_met (by decide) (Nat.le_of_ble_eq_true rfl) ?_
  intro p e s m below meth c ls B hA ⟨a, ob, hr⟩ hl
  refine pb_blk B.hx B.hb (lv' := [(0, .ref q)]) (st' := [.ref q]) hl bkX0_whichKind_0_1 rfl (fun ls hl => ?_)
  refine z_get B ciX0 1 (by decide) ob wd_F_X0_19 rfl dX0_whichKind_1 ?_
  refine lv_if_gt (tgt := 11) B.hx B.hb dX0_whichKind_4 (by decide) (fun h1 => ?_) (fun h1 => ?_)
  · refine pb_blk B.hx B.hb (lv' := [(0, .ref q)]) (st' := [.int 1]) hl bkX0_whichKind_11_12 rfl (fun ls hl => ?_)
    exact n_iret B dX0_whichKind_12 (by rw [po_X0_whichKind, kdF, if_pos h1]) (Nat.le_refl _) (Nat.le_refl _)
  · refine pb_blk B.hx B.hb (lv' := [(0, .ref q)]) (st' := [.int 0]) hl bkX0_whichKind_7_12 rfl (fun ls hl => ?_)
    exact n_iret B dX0_whichKind_12 (by rw [po_X0_whichKind, kdF, if_neg h1]) (Nat.le_refl _) (Nat.le_refl _)

theorem ts9 {x : Bool} (h : ¬ x = false) : x = true := by cases x <;> simp_all

def po_X0_isTooGreat (G : Gm) (A : Nat → Prop) (q : Nat) (u : Nat → Rat) : Option Value → Prop := fun v => v = some (.int (b2i (tgF u)))
theorem bkX0_isTooGreat_0_2 : pb_chk cX0_isTooGreat 0 [.iconst 0, .istore_n 1] = some 2 := by decide +kernel
theorem bkX0_isTooGreat_2_4 : pb_chk cX0_isTooGreat 2 [.iload_n 1, .aload_n 0] = some 4 := by decide +kernel
theorem dX0_isTooGreat_4 : decode cX0_isTooGreat 4 = .ok (.getfield 9, 3) := by decide +kernel
theorem dX0_isTooGreat_7 : decode cX0_isTooGreat 7 = .ok (.arraylength, 1) := by decide +kernel
theorem dX0_isTooGreat_8 : decode cX0_isTooGreat 8 = .ok (.if_icmp .ge 23, 3) := by decide +kernel
theorem bkX0_isTooGreat_31_32 : pb_chk cX0_isTooGreat 31 [.iconst 0] = some 32 := by decide +kernel
theorem dX0_isTooGreat_32 : decode cX0_isTooGreat 32 = .ok (.ireturn, 1) := by decide +kernel
theorem bkX0_isTooGreat_11_12 : pb_chk cX0_isTooGreat 11 [.aload_n 0] = some 12 := by decide +kernel
theorem dX0_isTooGreat_12 : decode cX0_isTooGreat 12 = .ok (.getfield 9, 3) := by decide +kernel
theorem bkX0_isTooGreat_15_16 : pb_chk cX0_isTooGreat 15 [.iload_n 1] = some 16 := by decide +kernel
theorem dX0_isTooGreat_16 : decode cX0_isTooGreat 16 = .ok (.aaload, 1) := by decide +kernel
theorem dX0_isTooGreat_17 : decode cX0_isTooGreat 17 = .ok (.invokevirtual 59, 3) := by decide +kernel
theorem dX0_isTooGreat_20 : decode cX0_isTooGreat 20 = .ok (.ifCond .eq 5, 3) := by decide +kernel
theorem bkX0_isTooGreat_25_2 : pb_chk cX0_isTooGreat 25 [.iinc 1 1, .goto (-26)] = some 2 := by decide +kernel
theorem bkX0_isTooGreat_23_24 : pb_chk cX0_isTooGreat 23 [.iconst 1] = some 24 := by decide +kernel
theorem dX0_isTooGreat_24 : decode cX0_isTooGreat 24 = .ok (.ireturn, 1) := by decide +kernel
set_option maxHeartbeats 4000000 in
set_option maxRecDepth 100000 in
theorem c_X0_isTooGreat (l : Launch) (G : Gm) (A : Nat → Prop) (q : Nat) (u : Nat → Rat) : Mn l yX0_isTooGreat cX0_isTooGreat 2 (some .boolean) (⟨1, 0, 0, 20⟩ : Room) G [.ref q] (fun H => Fo G A H q u) (po_X0_isTooGreat G A q u) := by
  refine of_met (by decide) (Nat.le_of_ble_eq_true rfl) ?_
  intro p e s m below meth c ls B hA ⟨a, ob, f, ar, hf⟩ hl
  have loop : ∀ (n k : Nat) (ls : Array Slot), 5 ≤ k + n → k ≤ 4 → (∀ j, j < k → tgR (u j) = false) → lv_has ls 2 [(1, .int (nI k)), (0, .ref q)] → W p l e (⟨1, 0, 0, 20⟩ : Room) s m ([.ref q] : List Value).toArray below meth c s.heap [] 0 0 (MQ below (Qn (po_X0_isTooGreat G A q u)) ([.ref q] : List Value).toArray s (⟨1, 0, 0, 20⟩ : Room).cells (⟨1, 0, 0, 20⟩ : Room).slots (fun _ => False)) (F0 m 2 ls []) := by
    intro n
    induction n with
    | zero => intro k ls h1 h2; omega
    | succ n ih =>
      intro k ls hn hk hu hl
      refine pb_blk B.hx B.hb (lv' := [(1, .int (nI k)), (0, .ref q)]) (st' := [.ref q, .int (nI k)]) hl bkX0_isTooGreat_2_4 rfl (fun ls hl => ?_)
      refine z_get B ciX0 0 (by decide) ob wd_F_X0_9 rfl dX0_isTooGreat_4 ?_
      refine z_alen B 3 rfl ar.2 dX0_isTooGreat_7 ?_
      refine lv_icmp_ge (tgt := 31) B.hx B.hb dX0_isTooGreat_8 (by decide) (fun h1 => ?_) (fun h1 => ?_)
      · have e4 := nI4 hk h1
        refine pb_blk B.hx B.hb (lv' := [(1, .int (nI k)), (0, .ref q)]) (st' := [.int 0]) hl bkX0_isTooGreat_31_32 rfl (fun ls hl => ?_)
        exact n_zret B dX0_isTooGreat_32 rfl (by rw [po_X0_isTooGreat, tgF_no (fun j hj => hu j (by omega))]; rfl) (Nat.le_refl _) (Nat.le_refl _)
      · have hk4 := nI4' hk h1
        refine pb_blk B.hx B.hb (lv' := [(1, .int (nI k)), (0, .ref q)]) (st' := [.ref q]) hl bkX0_isTooGreat_11_12 rfl (fun ls hl => ?_)
        refine z_get B ciX0 0 (by decide) ob wd_F_X0_9 rfl dX0_isTooGreat_12 ?_
        refine pb_blk B.hx B.hb (lv' := [(1, .int (nI k)), (0, .ref q)]) (st' := [.int (nI k), .ref a]) hl bkX0_isTooGreat_15_16 rfl (fun ls hl => ?_)
        obtain ⟨y, ey, hy⟩ := hf k hk4
        refine z_aald B 3 rfl ar.2 (vp_in_nI hk4 (by decide)) (v := .ref y) (by rw [nI_clamp (by omega)]; exact ey) dX0_isTooGreat_16 ?_
        obtain ⟨fs9, ho⟩ := hy.ob
        refine n_callV B (c_X1_isTooGreat l G A y (u k)) cy_X1_isTooGreat im_X1_isTooGreat se_X1_isTooGreat wd_M_X0_59 rfl ho hy rfl hl.1 rfl (Nat.le_of_ble_eq_true rfl) ⟨by decide, by decide⟩ ⟨Nat.zero_le _, Nat.zero_le _⟩ dX0_isTooGreat_17 (fun v hv => ?_)
        rw [po_X1_isTooGreat] at hv
        subst hv
        refine lv_if_eq (tgt := 25) B.hx B.hb dX0_isTooGreat_20 (by decide) (fun h2 => ?_) (fun h2 => ?_)
        · refine pb_blk B.hx B.hb (lv' := [(1, .int ((nI k) + 1)), (0, .ref q)]) (st' := []) hl bkX0_isTooGreat_25_2 rfl (fun ls hl => ?_)
          exact ih (k + 1) ls (by omega) hk4 (fun j hj => (Nat.lt_succ_iff_lt_or_eq.mp hj).elim (hu j) (fun e9 => by rw [e9]; exact (b2i_0 _).mp h2)) (by rw [← nI_1]; exact lv_sub hl [0, 1] rfl)
        · have ht : tgR (u k) = true := ts9 (fun q => h2 ((b2i_0 _).mpr q))
          refine pb_blk B.hx B.hb (lv' := [(1, .int (nI k)), (0, .ref q)]) (st' := [.int 1]) hl bkX0_isTooGreat_23_24 rfl (fun ls hl => ?_)
          exact n_zret B dX0_isTooGreat_24 rfl (by rw [po_X0_isTooGreat, tgF_yes hk4 ht]; rfl) (Nat.le_refl _) (Nat.le_refl _)
  refine pb_blk B.hx B.hb (lv' := [(1, .int 0), (0, .ref q)]) (st' := []) hl bkX0_isTooGreat_0_2 rfl (fun ls hl => ?_)
  exact loop 5 0 ls (by omega) (by omega) (fun j hj => absurd hj (Nat.not_lt_zero _)) (lv_sub hl [0, 1] rfl)

def po_X0_hasFractionsOf (G : Gm) (A : Nat → Prop) (q1 q2 : Nat) (u1 u2 : Nat → Rat) : Option Value → Prop := fun v => v = some (.int (b2i (smF u1 u2)))
theorem bkX0_hasFractionsOf_0_2 : pb_chk cX0_hasFractionsOf 0 [.iconst 0, .istore_n 2] = some 2 := by decide +kernel
theorem bkX0_hasFractionsOf_2_4 : pb_chk cX0_hasFractionsOf 2 [.iload_n 2, .iconst 3] = some 4 := by decide +kernel
theorem dX0_hasFractionsOf_4 : decode cX0_hasFractionsOf 4 = .ok (.if_icmp .gt 27, 3) := by decide +kernel
theorem bkX0_hasFractionsOf_31_32 : pb_chk cX0_hasFractionsOf 31 [.iconst 1] = some 32 := by decide +kernel
theorem dX0_hasFractionsOf_32 : decode cX0_hasFractionsOf 32 = .ok (.ireturn, 1) := by decide +kernel
theorem bkX0_hasFractionsOf_7_9 : pb_chk cX0_hasFractionsOf 7 [.aload_n 0, .iload_n 2] = some 9 := by decide +kernel
theorem dX0_hasFractionsOf_9 : decode cX0_hasFractionsOf 9 = .ok (.invokevirtual 39, 3) := by decide +kernel
theorem bkX0_hasFractionsOf_12_14 : pb_chk cX0_hasFractionsOf 12 [.aload_n 1, .iload_n 2] = some 14 := by decide +kernel
theorem dX0_hasFractionsOf_14 : decode cX0_hasFractionsOf 14 = .ok (.invokevirtual 39, 3) := by decide +kernel
theorem dX0_hasFractionsOf_17 : decode cX0_hasFractionsOf 17 = .ok (.invokevirtual 67, 3) := by decide +kernel
theorem dX0_hasFractionsOf_20 : decode cX0_hasFractionsOf 20 = .ok (.ifCond .eq 5, 3) := by decide +kernel
theorem bkX0_hasFractionsOf_25_2 : pb_chk cX0_hasFractionsOf 25 [.iinc 2 1, .goto (-26)] = some 2 := by decide +kernel
theorem bkX0_hasFractionsOf_23_24 : pb_chk cX0_hasFractionsOf 23 [.iconst 0] = some 24 := by decide +kernel
theorem dX0_hasFractionsOf_24 : decode cX0_hasFractionsOf 24 = .ok (.ireturn, 1) := by decide +kernel
set_option maxHeartbeats 4000000 in
set_option maxRecDepth 100000 in
theorem c_X0_hasFractionsOf (l : Launch) (G : Gm) (A : Nat → Prop) (q1 q2 : Nat) (u1 u2 : Nat → Rat) (hs1 : ∀ k, k < 4 → Sm (u1 k)) (hs2 : ∀ k, k < 4 → Sm (u2 k)) : Mn l yX0_hasFractionsOf cX0_hasFractionsOf 3 (some .boolean) (⟨2, 0, 0, 44⟩ : Room) G [.ref q1, .ref q2] (fun H => Fo G A H q1 u1 ∧ Fo G A H q2 u2) (po_X0_hasFractionsOf G A q1 q2 u1 u2) := by
  refine of_met (by decide) (Nat.le_of_ble_eq_true rfl) ?_
  intro p e s m below meth c ls B hA ⟨h1f, h2f⟩ hl
  have loop : ∀ (n k : Nat) (ls : Array Slot), 5 ≤ k + n → k ≤ 4 → (∀ j, j < k → u1 j = u2 j) → lv_has ls 3 [(2, .int (nI k)), (0, .ref q1), (1, .ref q2)] → W p l e (⟨2, 0, 0, 44⟩ : Room) s m ([.ref q1, .ref q2] : List Value).toArray below meth c s.heap [] 0 0 (MQ below (Qn (po_X0_hasFractionsOf G A q1 q2 u1 u2)) ([.ref q1, .ref q2] : List Value).toArray s (⟨2, 0, 0, 44⟩ : Room).cells (⟨2, 0, 0, 44⟩ : Room).slots (fun _ => False)) (F0 m 2 ls []) := by
    intro n
    induction n with
    | zero => intro k ls h1 h2; omega
    | succ n ih =>
      intro k ls hn hk hu hl
      refine pb_blk B.hx B.hb (lv' := [(2, .int (nI k)), (0, .ref q1), (1, .ref q2)]) (st' := [.int 3, .int (nI k)]) hl bkX0_hasFractionsOf_2_4 rfl (fun ls hl => ?_)
      refine lv_icmp_gt (tgt := 31) B.hx B.hb dX0_hasFractionsOf_4 (by decide) (fun h1 => ?_) (fun h1 => ?_)
      · have e4 : 3 < k := (nI_ltI (by omega) (by omega)).mp (show nI 3 < nI k from h1)
        refine pb_blk B.hx B.hb (lv' := [(2, .int (nI k)), (0, .ref q1), (1, .ref q2)]) (st' := [.int 1]) hl bkX0_hasFractionsOf_31_32 rfl (fun ls hl => ?_)
        exact n_zret B dX0_hasFractionsOf_32 rfl (by rw [po_X0_hasFractionsOf, smF_yes (fun j hj => hu j (by omega))]; rfl) (Nat.le_refl _) (Nat.le_refl _)
      · have hk4 : k < 4 := by have := nI_nlt_le (show k < 2 ^ 31 by omega) (show ¬ nI 3 < nI k from h1); omega
        refine pb_blk B.hx B.hb (lv' := [(2, .int (nI k)), (0, .ref q1), (1, .ref q2)]) (st' := [.int (nI k), .ref q1]) hl bkX0_hasFractionsOf_7_9 rfl (fun ls hl => ?_)
        obtain ⟨fs9, ho⟩ := h1f.ob
        refine n_callV B (c_X0_fraction l G A q1 k u1 s.heap hk4) cy_X0_fraction im_X0_fraction se_X0_fraction wd_M_X0_39 rfl ho ⟨rfl, h1f⟩ rfl hl.1 rfl (Nat.le_of_ble_eq_true rfl) ⟨by decide, by decide⟩ ⟨Nat.zero_le _, Nat.zero_le _⟩ dX0_hasFractionsOf_9 (fun v hv => ?_)
        obtain ⟨x1, rfl, hx1⟩ := hv
        refine pb_blk B.hx B.hb (lv' := [(2, .int (nI k)), (0, .ref q1), (1, .ref q2)]) (st' := [.int (nI k), .ref q2, .ref x1]) hl bkX0_hasFractionsOf_12_14 rfl (fun ls hl => ?_)
        obtain ⟨fs9, ho⟩ := h2f.ob
        refine n_callV B (c_X0_fraction l G A q2 k u2 s.heap hk4) cy_X0_fraction im_X0_fraction se_X0_fraction wd_M_X0_39 rfl ho ⟨rfl, h2f⟩ rfl hl.1 rfl (Nat.le_of_ble_eq_true rfl) ⟨by decide, by decide⟩ ⟨Nat.zero_le _, Nat.zero_le _⟩ dX0_hasFractionsOf_14 (fun v hv => ?_)
        obtain ⟨x2, rfl, hx2⟩ := hv
        obtain ⟨fs9, ho⟩ := hx1.ob
        have hc := (hs1 k hk4).cmp (hs2 k hk4)
        refine n_callV B (c_X1_against l G A x1 x2 _ _ hc.1 hc.2) cy_X1_against im_X1_against se_X1_against wd_M_X0_67 rfl ho ⟨hx1, hx2⟩ rfl hl.1 rfl (Nat.le_of_ble_eq_true rfl) ⟨by decide, by decide⟩ ⟨Nat.zero_le _, Nat.zero_le _⟩ dX0_hasFractionsOf_17 (fun v hv => ?_)
        rw [po_X1_against] at hv
        subst hv
        refine lv_if_eq (tgt := 25) B.hx B.hb dX0_hasFractionsOf_20 (by decide) (fun h2 => ?_) (fun h2 => ?_)
        · refine pb_blk B.hx B.hb (lv' := [(2, .int ((nI k) + 1)), (0, .ref q1), (1, .ref q2)]) (st' := []) hl bkX0_hasFractionsOf_25_2 rfl (fun ls hl => ?_)
          exact ih (k + 1) ls (by omega) hk4 (fun j hj => (Nat.lt_succ_iff_lt_or_eq.mp hj).elim (hu j) (fun e9 => by rw [e9]; exact cmpR_0.mp h2)) (by rw [← nI_1]; exact lv_sub hl [0, 1, 2] rfl)
        · refine pb_blk B.hx B.hb (lv' := [(2, .int (nI k)), (0, .ref q1), (1, .ref q2)]) (st' := [.int 0]) hl bkX0_hasFractionsOf_23_24 rfl (fun ls hl => ?_)
          exact n_zret B dX0_hasFractionsOf_24 rfl (by rw [po_X0_hasFractionsOf, smF_no hk4 (fun q => h2 (cmpR_0.mpr q))]; rfl) (Nat.le_refl _) (Nat.le_refl _)
  refine pb_blk B.hx B.hb (lv' := [(2, .int 0), (0, .ref q1), (1, .ref q2)]) (st' := []) hl bkX0_hasFractionsOf_0_2 rfl (fun ls hl => ?_)
  exact loop 5 0 ls (by omega) (by omega) (fun j hj => absurd hj (Nat.not_lt_zero _)) (lv_sub hl [0, 1, 2] rfl)

def po_X0_isSameAs (G : Gm) (A : Nat → Prop) (q1 q2 : Nat) (u1 u2 : Nat → Rat) : Option Value → Prop := fun v => v = some (.int (b2i (smF u1 u2)))
theorem bkX0_isSameAs_0_1 : pb_chk cX0_isSameAs 0 [.aload_n 1] = some 1 := by decide +kernel
theorem dX0_isSameAs_1 : decode cX0_isSameAs 1 = .ok (.instanceof 10, 3) := by decide +kernel
theorem dX0_isSameAs_4 : decode cX0_isSameAs 4 = .ok (.ifCond .eq 20, 3) := by decide +kernel
theorem bkX0_isSameAs_7_8 : pb_chk cX0_isSameAs 7 [.aload_n 1] = some 8 := by decide +kernel
theorem dX0_isSameAs_8 : decode cX0_isSameAs 8 = .ok (.checkcast 10, 3) := by decide +kernel
theorem bkX0_isSameAs_11_14 : pb_chk cX0_isSameAs 11 [.astore_n 2, .aload_n 0, .aload_n 2] = some 14 := by decide +kernel
theorem dX0_isSameAs_14 : decode cX0_isSameAs 14 = .ok (.invokevirtual 63, 3) := by decide +kernel
theorem dX0_isSameAs_17 : decode cX0_isSameAs 17 = .ok (.ifCond .eq 7, 3) := by decide +kernel
theorem bkX0_isSameAs_24_25 : pb_chk cX0_isSameAs 24 [.iconst 0] = some 25 := by decide +kernel
theorem dX0_isSameAs_25 : decode cX0_isSameAs 25 = .ok (.ireturn, 1) := by decide +kernel
theorem bkX0_isSameAs_20_25 : pb_chk cX0_isSameAs 20 [.iconst 1, .goto 4] = some 25 := by decide +kernel
set_option maxHeartbeats 4000000 in
set_option maxRecDepth 100000 in
theorem c_X0_isSameAs (l : Launch) (G : Gm) (A : Nat → Prop) (q1 q2 : Nat) (u1 u2 : Nat → Rat) (hs1 : ∀ k, k < 4 → Sm (u1 k)) (hs2 : ∀ k, k < 4 → Sm (u2 k)) : Mn l yX0_isSameAs cX0_isSameAs 3 (some .boolean) (⟨3, 0, 0, 66⟩ : Room) G [.ref q1, .ref q2] (fun H => Fo G A H q1 u1 ∧ Fo G A H q2 u2) (po_X0_isSameAs G A q1 q2 u1 u2) := by
  refine of_met (by decide) (Nat.le_of_ble_eq_true rfl) ?_
  intro p e s m below meth c ls B hA ⟨h1f, h2f⟩ hl
  obtain ⟨fs2, ho2⟩ := h2f.ob
  obtain ⟨fs1, ho1⟩ := h1f.ob
  refine pb_blk B.hx B.hb (lv' := [(0, .ref q1), (1, .ref q2)]) (st' := [.ref q2]) hl bkX0_isSameAs_0_1 rfl (fun ls hl => ?_)
  refine z_instY B (ci := 0) rfl ho2 B.hK.2.c00 wd_C_X0_10 dX0_isSameAs_1 ?_
  refine lv_if_eq (tgt := 24) B.hx B.hb dX0_isSameAs_4 (by decide) (fun h1 => ?_) (fun h1 => ?_)
  · exact absurd h1 (by decide)
  · refine pb_blk B.hx B.hb (lv' := [(0, .ref q1), (1, .ref q2)]) (st' := [.ref q2]) hl bkX0_isSameAs_7_8 rfl (fun ls hl => ?_)
    refine z_castY B (ci := 0) rfl ho2 B.hK.2.c00 wd_C_X0_10 dX0_isSameAs_8 ?_
    refine pb_blk B.hx B.hb (lv' := [(2, .ref q2), (0, .ref q1), (1, .ref q2)]) (st' := [.ref q2, .ref q1]) hl bkX0_isSameAs_11_14 rfl (fun ls hl => ?_)
    refine n_callV B (c_X0_hasFractionsOf l G A q1 q2 u1 u2 hs1 hs2) cy_X0_hasFractionsOf im_X0_hasFractionsOf se_X0_hasFractionsOf wd_M_X0_63 rfl ho1 ⟨h1f, h2f⟩ rfl hl.1 rfl (Nat.le_of_ble_eq_true rfl) ⟨by decide, by decide⟩ ⟨Nat.zero_le _, Nat.zero_le _⟩ dX0_isSameAs_14 (fun v hv => ?_)
    rw [po_X0_hasFractionsOf] at hv
    subst hv
    refine lv_if_eq (tgt := 24) B.hx B.hb dX0_isSameAs_17 (by decide) (fun h2 => ?_) (fun h2 => ?_)
    · have e0 := (b2i_0 _).mp h2
      refine pb_blk B.hx B.hb (lv' := [(2, .ref q2), (0, .ref q1), (1, .ref q2)]) (st' := [.int 0]) hl bkX0_isSameAs_24_25 rfl (fun ls hl => ?_)
      exact n_zret B dX0_isSameAs_25 rfl (by rw [po_X0_isSameAs, e0]; rfl) (Nat.le_refl _) (Nat.le_refl _)
    · have e0 := ts9 (fun q => h2 ((b2i_0 _).mpr q))
      refine pb_blk B.hx B.hb (lv' := [(2, .ref q2), (0, .ref q1), (1, .ref q2)]) (st' := [.int 1]) hl bkX0_isSameAs_20_25 rfl (fun ls hl => ?_)
      exact n_zret B dX0_isSameAs_25 rfl (by rw [po_X0_isSameAs, e0]; rfl) (Nat.le_refl _) (Nat.le_refl _)

def po_X0_isSameAsN (G : Gm) (A : Nat → Prop) (q1 q2 : Nat) (fs2 : List Value) : Option Value → Prop := fun v => v = some (.int 0)
set_option maxHeartbeats 4000000 in
set_option maxRecDepth 100000 in
theorem c_X0_isSameAsN (l : Launch) (G : Gm) (A : Nat → Prop) (q1 q2 : Nat) (fs2 : List Value) : Mn l yX0_isSameAs cX0_isSameAs 3 (some .boolean) (⟨3, 0, 0, 66⟩ : Room) G [.ref q1, .ref q2] (fun H => va_at G.1 vwCl (q2, .inr (2, fs2)) H) (po_X0_isSameAsN G A q1 q2 fs2) := by
  refine of_met (by decide) (Nat.le_of_ble_eq_true rfl) ?_
  intro p e s m below meth c ls B hA ho2 hl
  refine pb_blk B.hx B.hb (lv' := [(0, .ref q1), (1, .ref q2)]) (st' := [.ref q2]) hl bkX0_isSameAs_0_1 rfl (fun ls hl => ?_)
  refine z_instN B (ci := 2) rfl ho2 B.hK.2.n20 wd_C_X0_10 dX0_isSameAs_1 ?_
  refine lv_if_eq (tgt := 24) B.hx B.hb dX0_isSameAs_4 (by decide) (fun h1 => ?_) (fun h1 => ?_)
  · refine pb_blk B.hx B.hb (lv' := [(0, .ref q1), (1, .ref q2)]) (st' := [.int 0]) hl bkX0_isSameAs_24_25 rfl (fun ls hl => ?_)
    exact n_zret B dX0_isSameAs_25 rfl rfl (Nat.le_refl _) (Nat.le_refl _)
  · exact absurd rfl h1

