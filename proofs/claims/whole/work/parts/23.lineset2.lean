def dec (z x y : Bool) : Bool := match z with
  | true => x && y
  | false => x || y
def Bg (r : Rat) : Prop := r.num.natAbs < 2 ^ 30 ∧ r.den < 2 ^ 30
theorem Bg.cmp {a b : Rat} (ha : Bg a) (hb : Bg b) : a.num.natAbs * b.den < 2 ^ 62 ∧ b.num.natAbs * a.den < 2 ^ 62 := ⟨Nat.lt_of_lt_of_le (Nat.mul_lt_mul'' ha.1 hb.2) (by decide), Nat.lt_of_lt_of_le (Nat.mul_lt_mul'' hb.1 ha.2) (by decide)⟩
theorem Sm.bg {r : Rat} (h : Sm r) : Bg r := ⟨by have := h.1; omega, by have := h.2; omega⟩
def nxt (n1 : Nat) (p1 : Nat → Rat) (n2 : Nat) (p2 : Nat → Rat) (i k : Nat) : Int32 := if n1 ≤ i then 1 else if n2 ≤ k then -1 else cmpR (p1 i) (p2 k)
theorem cmpR_3 (a b : Rat) : cmpR a b = -1 ∨ cmpR a b = 0 ∨ cmpR a b = 1 := by
  unfold cmpR
  split
  · exact Or.inl rfl
  · split
    · exact Or.inr (Or.inl rfl)
    · exact Or.inr (Or.inr rfl)
theorem nxt_3 (n1 : Nat) (p1 : Nat → Rat) (n2 : Nat) (p2 : Nat → Rat) (i k : Nat) : nxt n1 p1 n2 p2 i k = -1 ∨ nxt n1 p1 n2 p2 i k = 0 ∨ nxt n1 p1 n2 p2 i k = 1 := by
  unfold nxt
  split
  · exact Or.inr (Or.inr rfl)
  · split
    · exact Or.inl rfl
    · exact cmpR_3 _ _
theorem nxt_le {n1 : Nat} {p1 : Nat → Rat} {n2 : Nat} {p2 : Nat → Rat} {i k : Nat} (h : nxt n1 p1 n2 p2 i k ≤ 0) : i < n1 := by
  rcases Nat.lt_or_ge i n1 with q | q
  · exact q
  · rw [nxt, if_pos q] at h; exact absurd h (by decide)
theorem nxt_ge {n1 : Nat} {p1 : Nat → Rat} {n2 : Nat} {p2 : Nat → Rat} {i k : Nat} (hs : i + k < n1 + n2) (hi : i ≤ n1) (h : 0 ≤ nxt n1 p1 n2 p2 i k) : k < n2 := by
  rcases Nat.lt_or_ge k n2 with q | q
  · exact q
  · by_cases hc : n1 ≤ i
    · omega
    · rw [nxt, if_neg hc, if_pos q] at h; exact absurd h (by decide)
def oA (o : Int32) : Nat := if o ≤ 0 then 1 else 0
def oB (o : Int32) : Nat := if 0 ≤ o then 1 else 0
/-- how far the two sets' places are passed, after j steps -/
def mgs (n1 : Nat) (p1 : Nat → Rat) (n2 : Nat) (p2 : Nat → Rat) : Nat → Nat × Nat
  | 0 => (0, 0)
  | j + 1 => ((mgs n1 p1 n2 p2 j).1 + oA (nxt n1 p1 n2 p2 (mgs n1 p1 n2 p2 j).1 (mgs n1 p1 n2 p2 j).2), (mgs n1 p1 n2 p2 j).2 + oB (nxt n1 p1 n2 p2 (mgs n1 p1 n2 p2 j).1 (mgs n1 p1 n2 p2 j).2))
def mgo (n1 : Nat) (p1 : Nat → Rat) (n2 : Nat) (p2 : Nat → Rat) (j : Nat) : Int32 := nxt n1 p1 n2 p2 (mgs n1 p1 n2 p2 j).1 (mgs n1 p1 n2 p2 j).2
/-- the place that step j passes; the cells that lie there -/
def mgp (n1 : Nat) (p1 : Nat → Rat) (n2 : Nat) (p2 : Nat → Rat) (j : Nat) : Rat := if mgo n1 p1 n2 p2 j ≤ 0 then p1 (mgs n1 p1 n2 p2 j).1 else p2 (mgs n1 p1 n2 p2 j).2
def mgb (z : Bool) (n1 : Nat) (p1 : Nat → Rat) (m1 : Nat → Bool) (n2 : Nat) (p2 : Nat → Rat) (m2 : Nat → Bool) (t : Nat) : Bool :=
  if t % 2 = 0 then dec z (m1 (2 * (mgs n1 p1 n2 p2 (t / 2)).1)) (m2 (2 * (mgs n1 p1 n2 p2 (t / 2)).2))
  else dec z (m1 (2 * (mgs n1 p1 n2 p2 (t / 2)).1 + oA (mgo n1 p1 n2 p2 (t / 2)))) (m2 (2 * (mgs n1 p1 n2 p2 (t / 2)).2 + oB (mgo n1 p1 n2 p2 (t / 2))))
theorem mgb_e (z : Bool) (n1 : Nat) (p1 : Nat → Rat) (m1 : Nat → Bool) (n2 : Nat) (p2 : Nat → Rat) (m2 : Nat → Bool) (j : Nat) : mgb z n1 p1 m1 n2 p2 m2 (2 * j) = dec z (m1 (2 * (mgs n1 p1 n2 p2 j).1)) (m2 (2 * (mgs n1 p1 n2 p2 j).2)) := by
  unfold mgb
  rw [if_pos (by omega), show 2 * j / 2 = j by omega]
theorem mgb_o (z : Bool) (n1 : Nat) (p1 : Nat → Rat) (m1 : Nat → Bool) (n2 : Nat) (p2 : Nat → Rat) (m2 : Nat → Bool) (j : Nat) : mgb z n1 p1 m1 n2 p2 m2 (2 * j + 1) = dec z (m1 (2 * (mgs n1 p1 n2 p2 j).1 + oA (mgo n1 p1 n2 p2 j))) (m2 (2 * (mgs n1 p1 n2 p2 j).2 + oB (mgo n1 p1 n2 p2 j))) := by
  unfold mgb
  rw [if_neg (by omega), show (2 * j + 1) / 2 = j by omega]
/-- J steps pass all places of both sets -/
def MgE (n1 : Nat) (p1 : Nat → Rat) (n2 : Nat) (p2 : Nat → Rat) (J : Nat) : Prop := J ≤ n1 + n2 ∧ mgs n1 p1 n2 p2 J = (n1, n2) ∧ ∀ j, j < J → (mgs n1 p1 n2 p2 j).1 + (mgs n1 p1 n2 p2 j).2 < n1 + n2
theorem RowM.finP {G : Gm} {A : Nat → Prop} {H : Heap} {a n k : Nat} {c : Nat → Rat} (h : RowM G A H a n k c) (ha : ¬ A a) : RowP G A H a n k c := by
  obtain ⟨f, h1, h2⟩ := h
  refine ⟨f, ⟨ha, h1⟩, fun k hk => ?_⟩
  obtain ⟨x, e1, hx⟩ := h2 k hk
  exact ⟨x, e1, hx.mv Mv.shrink⟩

def po_X2_decided (G : Gm) (A : Nat → Prop) (x y z : Bool) : Option Value → Prop := fun v => v = some (.int (b2i (dec z x y)))
theorem bkX2_decided_0_1 : pb_chk cX2_decided 0 [.iload_n 2] = some 1 := by decide +kernel
theorem dX2_decided_1 : decode cX2_decided 1 = .ok (.ifCond .eq 19, 3) := by decide +kernel
theorem bkX2_decided_20_21 : pb_chk cX2_decided 20 [.iload_n 0] = some 21 := by decide +kernel
theorem dX2_decided_21 : decode cX2_decided 21 = .ok (.ifCond .ne 7, 3) := by decide +kernel
theorem bkX2_decided_28_33 : pb_chk cX2_decided 28 [.iconst 1, .goto 4] = some 33 := by decide +kernel
theorem dX2_decided_33 : decode cX2_decided 33 = .ok (.ireturn, 1) := by decide +kernel
theorem bkX2_decided_24_25 : pb_chk cX2_decided 24 [.iload_n 1] = some 25 := by decide +kernel
theorem dX2_decided_25 : decode cX2_decided 25 = .ok (.ifCond .eq 7, 3) := by decide +kernel
theorem bkX2_decided_32_33 : pb_chk cX2_decided 32 [.iconst 0] = some 33 := by decide +kernel
theorem bkX2_decided_4_5 : pb_chk cX2_decided 4 [.iload_n 0] = some 5 := by decide +kernel
theorem dX2_decided_5 : decode cX2_decided 5 = .ok (.ifCond .eq 11, 3) := by decide +kernel
theorem bkX2_decided_16_33 : pb_chk cX2_decided 16 [.iconst 0, .goto 16] = some 33 := by decide +kernel
theorem bkX2_decided_8_9 : pb_chk cX2_decided 8 [.iload_n 1] = some 9 := by decide +kernel
theorem dX2_decided_9 : decode cX2_decided 9 = .ok (.ifCond .eq 7, 3) := by decide +kernel
theorem bkX2_decided_12_33 : pb_chk cX2_decided 12 [.iconst 1, .goto 20] = some 33 := by decide +kernel
set_option maxHeartbeats 4000000 in
set_option maxRecDepth 100000 in
theorem c_X2_decided (l : Launch) (G : Gm) (A : Nat → Prop) (x y z : Bool) : Mn l yX2_decided cX2_decided 3 (some .boolean) (⟨0, 0, 0, 0⟩ : Room) G [.int (b2i x), .int (b2i y), .int (b2i z)] (fun _ => True) (po_X2_decided G A x y z) := by
  refine of_met (by decide) (Nat.le_of_ble_eq_true rfl) ?_
  intro p e s m below meth c ls B hA _ hl
  refine pb_blk B.hx B.hb (lv' := [(0, .int (b2i x)), (1, .int (b2i y)), (2, .int (b2i z))]) (st' := [.int (b2i z)]) hl bkX2_decided_0_1 rfl (fun ls hl => ?_)
  refine lv_if_eq (tgt := 20) B.hx B.hb dX2_decided_1 (by decide) (fun hz => ?_) (fun hz => ?_)
  · have ez : z = false := (b2i_0 _).mp hz
    refine pb_blk B.hx B.hb (lv' := [(0, .int (b2i x)), (1, .int (b2i y)), (2, .int (b2i z))]) (st' := [.int (b2i x)]) hl bkX2_decided_20_21 rfl (fun ls hl => ?_)
    refine lv_if_ne (tgt := 28) B.hx B.hb dX2_decided_21 (by decide) (fun hx => ?_) (fun hx => ?_)
    · have ex : x = true := ts9 (fun q => hx ((b2i_0 _).mpr q))
      refine pb_blk B.hx B.hb (lv' := [(0, .int (b2i x)), (1, .int (b2i y)), (2, .int (b2i z))]) (st' := [.int 1]) hl bkX2_decided_28_33 rfl (fun ls hl => ?_)
      exact n_zret B dX2_decided_33 rfl (by rw [po_X2_decided, ez, ex]; first | rfl | (cases x <;> rfl) | (cases y <;> rfl)) (Nat.le_refl _) (Nat.le_refl _)
    · have ex : x = false := (b2i_0 _).mp hx
      refine pb_blk B.hx B.hb (lv' := [(0, .int (b2i x)), (1, .int (b2i y)), (2, .int (b2i z))]) (st' := [.int (b2i y)]) hl bkX2_decided_24_25 rfl (fun ls hl => ?_)
      refine lv_if_eq (tgt := 32) B.hx B.hb dX2_decided_25 (by decide) (fun hy => ?_) (fun hy => ?_)
      · have ey : y = false := (b2i_0 _).mp hy
        refine pb_blk B.hx B.hb (lv' := [(0, .int (b2i x)), (1, .int (b2i y)), (2, .int (b2i z))]) (st' := [.int 0]) hl bkX2_decided_32_33 rfl (fun ls hl => ?_)
        exact n_zret B dX2_decided_33 rfl (by rw [po_X2_decided, ez, ex, ey]; first | rfl | (cases x <;> rfl) | (cases y <;> rfl)) (Nat.le_refl _) (Nat.le_refl _)
      · have ey : y = true := ts9 (fun q => hy ((b2i_0 _).mpr q))
        refine pb_blk B.hx B.hb (lv' := [(0, .int (b2i x)), (1, .int (b2i y)), (2, .int (b2i z))]) (st' := [.int 1]) hl bkX2_decided_28_33 rfl (fun ls hl => ?_)
        exact n_zret B dX2_decided_33 rfl (by rw [po_X2_decided, ez, ex, ey]; first | rfl | (cases x <;> rfl) | (cases y <;> rfl)) (Nat.le_refl _) (Nat.le_refl _)
  · have ez : z = true := ts9 (fun q => hz ((b2i_0 _).mpr q))
    refine pb_blk B.hx B.hb (lv' := [(0, .int (b2i x)), (1, .int (b2i y)), (2, .int (b2i z))]) (st' := [.int (b2i x)]) hl bkX2_decided_4_5 rfl (fun ls hl => ?_)
    refine lv_if_eq (tgt := 16) B.hx B.hb dX2_decided_5 (by decide) (fun hx => ?_) (fun hx => ?_)
    · have ex : x = false := (b2i_0 _).mp hx
      refine pb_blk B.hx B.hb (lv' := [(0, .int (b2i x)), (1, .int (b2i y)), (2, .int (b2i z))]) (st' := [.int 0]) hl bkX2_decided_16_33 rfl (fun ls hl => ?_)
      exact n_zret B dX2_decided_33 rfl (by rw [po_X2_decided, ez, ex]; first | rfl | (cases x <;> rfl) | (cases y <;> rfl)) (Nat.le_refl _) (Nat.le_refl _)
    · have ex : x = true := ts9 (fun q => hx ((b2i_0 _).mpr q))
      refine pb_blk B.hx B.hb (lv' := [(0, .int (b2i x)), (1, .int (b2i y)), (2, .int (b2i z))]) (st' := [.int (b2i y)]) hl bkX2_decided_8_9 rfl (fun ls hl => ?_)
      refine lv_if_eq (tgt := 16) B.hx B.hb dX2_decided_9 (by decide) (fun hy => ?_) (fun hy => ?_)
      · have ey : y = false := (b2i_0 _).mp hy
        refine pb_blk B.hx B.hb (lv' := [(0, .int (b2i x)), (1, .int (b2i y)), (2, .int (b2i z))]) (st' := [.int 0]) hl bkX2_decided_16_33 rfl (fun ls hl => ?_)
        exact n_zret B dX2_decided_33 rfl (by rw [po_X2_decided, ez, ex, ey]; first | rfl | (cases x <;> rfl) | (cases y <;> rfl)) (Nat.le_refl _) (Nat.le_refl _)
      · have ey : y = true := ts9 (fun q => hy ((b2i_0 _).mpr q))
        refine pb_blk B.hx B.hb (lv' := [(0, .int (b2i x)), (1, .int (b2i y)), (2, .int (b2i z))]) (st' := [.int 1]) hl bkX2_decided_12_33 rfl (fun ls hl => ?_)
        exact n_zret B dX2_decided_33 rfl (by rw [po_X2_decided, ez, ex, ey]; first | rfl | (cases x <;> rfl) | (cases y <;> rfl)) (Nat.le_refl _) (Nat.le_refl _)

def po_X2_nextPlace (G : Gm) (A : Nat → Prop) (q1 q2 i k n1 n2 : Nat) (p1 p2 : Nat → Rat) (m1 m2 : Nat → Bool) : Option Value → Prop := fun v => v = some (.int (nxt n1 p1 n2 p2 i k))
theorem bkX2_nextPlace_0_2 : pb_chk cX2_nextPlace 0 [.iload_n 1, .aload_n 0] = some 2 := by decide +kernel
theorem dX2_nextPlace_2 : decode cX2_nextPlace 2 = .ok (.getfield 9, 3) := by decide +kernel
theorem dX2_nextPlace_5 : decode cX2_nextPlace 5 = .ok (.arraylength, 1) := by decide +kernel
theorem dX2_nextPlace_6 : decode cX2_nextPlace 6 = .ok (.if_icmp .lt 5, 3) := by decide +kernel
theorem bkX2_nextPlace_11_13 : pb_chk cX2_nextPlace 11 [.iload_n 3, .aload_n 2] = some 13 := by decide +kernel
theorem dX2_nextPlace_13 : decode cX2_nextPlace 13 = .ok (.getfield 9, 3) := by decide +kernel
theorem dX2_nextPlace_16 : decode cX2_nextPlace 16 = .ok (.arraylength, 1) := by decide +kernel
theorem dX2_nextPlace_17 : decode cX2_nextPlace 17 = .ok (.if_icmp .lt 7, 3) := by decide +kernel
theorem bkX2_nextPlace_24_25 : pb_chk cX2_nextPlace 24 [.aload_n 0] = some 25 := by decide +kernel
theorem dX2_nextPlace_25 : decode cX2_nextPlace 25 = .ok (.getfield 9, 3) := by decide +kernel
theorem bkX2_nextPlace_28_29 : pb_chk cX2_nextPlace 28 [.iload_n 1] = some 29 := by decide +kernel
theorem dX2_nextPlace_29 : decode cX2_nextPlace 29 = .ok (.aaload, 1) := by decide +kernel
theorem bkX2_nextPlace_30_31 : pb_chk cX2_nextPlace 30 [.aload_n 2] = some 31 := by decide +kernel
theorem dX2_nextPlace_31 : decode cX2_nextPlace 31 = .ok (.getfield 9, 3) := by decide +kernel
theorem bkX2_nextPlace_34_35 : pb_chk cX2_nextPlace 34 [.iload_n 3] = some 35 := by decide +kernel
theorem dX2_nextPlace_35 : decode cX2_nextPlace 35 = .ok (.aaload, 1) := by decide +kernel
theorem dX2_nextPlace_36 : decode cX2_nextPlace 36 = .ok (.invokevirtual 44, 3) := by decide +kernel
theorem dX2_nextPlace_39 : decode cX2_nextPlace 39 = .ok (.ireturn, 1) := by decide +kernel
theorem bkX2_nextPlace_20_39 : pb_chk cX2_nextPlace 20 [.iconst (-1), .goto 18] = some 39 := by decide +kernel
theorem bkX2_nextPlace_9_10 : pb_chk cX2_nextPlace 9 [.iconst 1] = some 10 := by decide +kernel
theorem dX2_nextPlace_10 : decode cX2_nextPlace 10 = .ok (.ireturn, 1) := by decide +kernel
set_option maxHeartbeats 4000000 in
set_option maxRecDepth 100000 in
theorem c_X2_nextPlace (l : Launch) (G : Gm) (A : Nat → Prop) (q1 q2 i k n1 n2 : Nat) (p1 p2 : Nat → Rat) (m1 m2 : Nat → Bool) (hn1 : n1 < 2 ^ 20) (hn2 : n2 < 2 ^ 20) (hi : i < 2 ^ 20) (hk : k < 2 ^ 20) (hb1 : ∀ j, j < n1 → Bg (p1 j)) (hb2 : ∀ j, j < n2 → Bg (p2 j)) : Mn l yX2_nextPlace cX2_nextPlace 4 (some .int) (⟨2, 0, 0, 44⟩ : Room) G [.ref q1, .int (nI i), .ref q2, .int (nI k)] (fun H => Ls G A H q1 n1 p1 m1 ∧ Ls G A H q2 n2 p2 m2) (po_X2_nextPlace G A q1 q2 i k n1 n2 p1 p2 m1 m2) := by
  refine of_met (by decide) (Nat.le_of_ble_eq_true rfl) ?_
  intro p e s m below meth c ls B hA ⟨⟨pa1, ca1, ob1, ⟨f1, ar1, hf1⟩, hz1⟩, ⟨pa2, ca2, ob2, ⟨f2, ar2, hf2⟩, hz2⟩⟩ hl
  refine pb_blk B.hx B.hb (lv' := [(0, .ref q1), (1, .int (nI i)), (2, .ref q2), (3, .int (nI k))]) (st' := [.ref q1, .int (nI i)]) hl bkX2_nextPlace_0_2 rfl (fun ls hl => ?_)
  refine z_get B ciX2 0 (by decide) ob1 wd_F_X2_9 rfl dX2_nextPlace_2 ?_
  refine z_alen B 3 rfl ar1.2 dX2_nextPlace_5 ?_
  refine lv_icmp_lt (tgt := 11) B.hx B.hb dX2_nextPlace_6 (by decide) (fun h1 => ?_) (fun h1 => ?_)
  · have hi1 : i < n1 := (nI_ltI (by omega) (by omega)).mp h1
    refine pb_blk B.hx B.hb (lv' := [(0, .ref q1), (1, .int (nI i)), (2, .ref q2), (3, .int (nI k))]) (st' := [.ref q2, .int (nI k)]) hl bkX2_nextPlace_11_13 rfl (fun ls hl => ?_)
    refine z_get B ciX2 0 (by decide) ob2 wd_F_X2_9 rfl dX2_nextPlace_13 ?_
    refine z_alen B 3 rfl ar2.2 dX2_nextPlace_16 ?_
    refine lv_icmp_lt (tgt := 24) B.hx B.hb dX2_nextPlace_17 (by decide) (fun h2 => ?_) (fun h2 => ?_)
    · have hk2 : k < n2 := (nI_ltI (by omega) (by omega)).mp h2
      obtain ⟨x1, e1, hx1⟩ := hf1 i hi1
      obtain ⟨x2, e2, hx2⟩ := hf2 k hk2
      refine pb_blk B.hx B.hb (lv' := [(0, .ref q1), (1, .int (nI i)), (2, .ref q2), (3, .int (nI k))]) (st' := [.ref q1]) hl bkX2_nextPlace_24_25 rfl (fun ls hl => ?_)
      refine z_get B ciX2 0 (by decide) ob1 wd_F_X2_9 rfl dX2_nextPlace_25 ?_
      refine pb_blk B.hx B.hb (lv' := [(0, .ref q1), (1, .int (nI i)), (2, .ref q2), (3, .int (nI k))]) (st' := [.int (nI i), .ref pa1]) hl bkX2_nextPlace_28_29 rfl (fun ls hl => ?_)
      refine z_aald B 3 rfl ar1.2 (vp_in_nI hi1 (by omega)) (v := .ref x1) (by rw [nI_clamp (by omega)]; exact e1) dX2_nextPlace_29 ?_
      refine pb_blk B.hx B.hb (lv' := [(0, .ref q1), (1, .int (nI i)), (2, .ref q2), (3, .int (nI k))]) (st' := [.ref q2, .ref x1]) hl bkX2_nextPlace_30_31 rfl (fun ls hl => ?_)
      refine z_get B ciX2 0 (by decide) ob2 wd_F_X2_9 rfl dX2_nextPlace_31 ?_
      refine pb_blk B.hx B.hb (lv' := [(0, .ref q1), (1, .int (nI i)), (2, .ref q2), (3, .int (nI k))]) (st' := [.int (nI k), .ref pa2, .ref x1]) hl bkX2_nextPlace_34_35 rfl (fun ls hl => ?_)
      refine z_aald B 3 rfl ar2.2 (vp_in_nI hk2 (by omega)) (v := .ref x2) (by rw [nI_clamp (by omega)]; exact e2) dX2_nextPlace_35 ?_
      obtain ⟨fs9, ho⟩ := hx1.ob
      have hc := (hb1 i hi1).cmp (hb2 k hk2)
      refine n_callV B (c_X1_against l G A x1 x2 _ _ hc.1 hc.2) cy_X1_against im_X1_against se_X1_against wd_M_X2_44 rfl ho ⟨hx1, hx2⟩ rfl hl.1 rfl (Nat.le_of_ble_eq_true rfl) ⟨by decide, by decide⟩ ⟨Nat.zero_le _, Nat.zero_le _⟩ dX2_nextPlace_36 (fun v hv => ?_)
      rw [po_X1_against] at hv
      subst hv
      exact n_iret B dX2_nextPlace_39 (by rw [po_X2_nextPlace, nxt, if_neg (by omega), if_neg (by omega)]) (Nat.le_refl _) (Nat.le_refl _)
    · have hk2 : n2 ≤ k := nI_nlt_le (by omega) h2
      refine pb_blk B.hx B.hb (lv' := [(0, .ref q1), (1, .int (nI i)), (2, .ref q2), (3, .int (nI k))]) (st' := [.int (-1)]) hl bkX2_nextPlace_20_39 rfl (fun ls hl => ?_)
      exact n_iret B dX2_nextPlace_39 (by rw [po_X2_nextPlace, nxt, if_neg (by omega), if_pos hk2]) (Nat.le_refl _) (Nat.le_refl _)
  · have hi1 : n1 ≤ i := nI_nlt_le (by omega) h1
    refine pb_blk B.hx B.hb (lv' := [(0, .ref q1), (1, .int (nI i)), (2, .ref q2), (3, .int (nI k))]) (st' := [.int 1]) hl bkX2_nextPlace_9_10 rfl (fun ls hl => ?_)
    exact n_iret B dX2_nextPlace_10 (by rw [po_X2_nextPlace, nxt, if_pos hi1]) (Nat.le_refl _) (Nat.le_refl _)

def po_X2_rest (G : Gm) (A : Nat → Prop) (q n : Nat) (pt : Nat → Rat) (mk : Nat → Bool) : Option Value → Heap → Prop := fun v H => ∃ q2, v = some (.ref q2) ∧ Ls G A H q2 n pt (fun j => !mk j)
theorem bkX2_rest_0_1 : pb_chk cX2_rest 0 [.aload_n 0] = some 1 := by decide +kernel
theorem dX2_rest_1 : decode cX2_rest 1 = .ok (.getfield 15, 3) := by decide +kernel
theorem dX2_rest_4 : decode cX2_rest 4 = .ok (.arraylength, 1) := by decide +kernel
theorem dX2_rest_5 : decode cX2_rest 5 = .ok (.newarray .boolean, 2) := by decide +kernel
theorem bkX2_rest_7_10 : pb_chk cX2_rest 7 [.astore_n 1, .iconst 0, .istore_n 2] = some 10 := by decide +kernel
theorem bkX2_rest_10_12 : pb_chk cX2_rest 10 [.iload_n 2, .aload_n 0] = some 12 := by decide +kernel
theorem dX2_rest_12 : decode cX2_rest 12 = .ok (.getfield 15, 3) := by decide +kernel
theorem dX2_rest_15 : decode cX2_rest 15 = .ok (.arraylength, 1) := by decide +kernel
theorem dX2_rest_16 : decode cX2_rest 16 = .ok (.if_icmp .ge 26, 3) := by decide +kernel
theorem dX2_rest_42 : decode cX2_rest 42 = .ok (.new 10, 3) := by decide +kernel
theorem bkX2_rest_45_47 : pb_chk cX2_rest 45 [.dup, .aload_n 0] = some 47 := by decide +kernel
theorem dX2_rest_47 : decode cX2_rest 47 = .ok (.getfield 9, 3) := by decide +kernel
theorem bkX2_rest_50_51 : pb_chk cX2_rest 50 [.aload_n 1] = some 51 := by decide +kernel
theorem dX2_rest_51 : decode cX2_rest 51 = .ok (.invokespecial 21, 3) := by decide +kernel
theorem dX2_rest_54 : decode cX2_rest 54 = .ok (.areturn, 1) := by decide +kernel
theorem bkX2_rest_19_22 : pb_chk cX2_rest 19 [.aload_n 1, .iload_n 2, .aload_n 0] = some 22 := by decide +kernel
theorem dX2_rest_22 : decode cX2_rest 22 = .ok (.getfield 15, 3) := by decide +kernel
theorem bkX2_rest_25_26 : pb_chk cX2_rest 25 [.iload_n 2] = some 26 := by decide +kernel
theorem dX2_rest_26 : decode cX2_rest 26 = .ok (.baload, 1) := by decide +kernel
theorem dX2_rest_27 : decode cX2_rest 27 = .ok (.ifCond .ne 7, 3) := by decide +kernel
theorem bkX2_rest_34_35 : pb_chk cX2_rest 34 [.iconst 0] = some 35 := by decide +kernel
theorem dX2_rest_35 : decode cX2_rest 35 = .ok (.bastore, 1) := by decide +kernel
theorem bkX2_rest_36_10 : pb_chk cX2_rest 36 [.iinc 2 1, .goto (-29)] = some 10 := by decide +kernel
theorem bkX2_rest_30_35 : pb_chk cX2_rest 30 [.iconst 1, .goto 4] = some 35 := by decide +kernel
set_option maxHeartbeats 4000000 in
set_option maxRecDepth 100000 in
theorem c_X2_rest (l : Launch) (G : Gm) (A : Nat → Prop) (q n : Nat) (pt : Nat → Rat) (mk : Nat → Bool) (hn : n ≤ 160) : Mz l yX2_rest cX2_rest 3 (some (.object "FormulaHouse$LineSet")) (⟨3, 2, 323, 54⟩ : Room) G A [.ref q] (fun H => Ls G A H q n pt mk) (po_X2_rest G A q n pt mk) := by
  refine of_met (by decide) (Nat.le_of_ble_eq_true rfl) ?_
  intro p e s m below meth c ls B hA ⟨pa, ca, ob, hr, hz⟩ hl
  obtain ⟨f, ar, hf⟩ := id hz
  have loop : ∀ (n2 k : Nat) (H : Heap) (ls : Array Slot), 2 * n + 2 ≤ k + n2 → k ≤ 2 * n + 1 → Ex s.heap H → ZrM G H s.heap.size (2 * n + 1) k (fun j => !mk j) → lv_has ls 3 [(2, .int (nI k)), (1, .ref s.heap.size), (0, .ref q)] → W p l e (⟨3, 2, 323, 54⟩ : Room) s m ([.ref q] : List Value).toArray below meth c H [] 1 (2 * n + 1) (MQ below (Qz (po_X2_rest G A q n pt mk)) ([.ref q] : List Value).toArray s (⟨3, 2, 323, 54⟩ : Room).cells (⟨3, 2, 323, 54⟩ : Room).slots (fun _ => False)) (F0 m 10 ls []) := by
    intro n2
    induction n2 with
    | zero => intro k H ls h1 h2; omega
    | succ n2 ih =>
      intro k H ls hn2 hk hE hm hl
      have ob1 := ob.mv (hE.mv A)
      have ar1 := ar.mv (hE.mv A)
      obtain ⟨fm, hfm, hfms⟩ := id hm
      refine pb_blk B.hx B.hb (lv' := [(2, .int (nI k)), (1, .ref s.heap.size), (0, .ref q)]) (st' := [.ref q, .int (nI k)]) hl bkX2_rest_10_12 rfl (fun ls hl => ?_)
      refine z_get B ciX2 1 (by decide) ob1 wd_F_X2_15 rfl dX2_rest_12 ?_
      refine z_alen B 2 rfl ar1.2 dX2_rest_15 ?_
      refine lv_icmp_ge (tgt := 42) B.hx B.hb dX2_rest_16 (by decide) (fun h1 => ?_) (fun h1 => ?_)
      · have e4 : k = 2 * n + 1 := by have := nI_nlt_le (show 2 * n + 1 < 2 ^ 31 by omega) (k2_nlt h1); omega
        rw [e4] at hm
        refine z_new B ciX2 wd_C_X2_10 hfs_X2 (by (try dsimp only); omega) (by (try dsimp only); omega) dX2_rest_42 (fun J1 obn y1 p1 => ?_)
        have ej1 := Ex.one y1 p1
        have obq := ob1.mv (ej1.mv A)
        refine pb_blk B.hx B.hb (lv' := [(2, .int (nI k)), (1, .ref s.heap.size), (0, .ref q)]) (st' := [.ref q, .ref H.size, .ref H.size]) hl bkX2_rest_45_47 rfl (fun ls hl => ?_)
        refine z_get B ciX2 0 (by decide) obq wd_F_X2_9 rfl dX2_rest_47 ?_
        refine pb_blk B.hx B.hb (lv' := [(2, .int (nI k)), (1, .ref s.heap.size), (0, .ref q)]) (st' := [.ref s.heap.size, .ref pa, .ref H.size, .ref H.size]) hl bkX2_rest_50_51 rfl (fun ls hl => ?_)
        have hrf : RowF G (Aq A H.size) J1 pa n pt := ((hr.mv (hE.mv A)).mv Mv.grow).mv (ej1.mv _)
        have hzf : ZrP G (Aq A H.size) J1 s.heap.size (2 * n + 1) (2 * n + 1) (fun j => !mk j) := by obtain ⟨f, hf, hfs⟩ := hm.ex ej1; exact ⟨f, ⟨aq_no hA (by omega) (by have := hm.lt; omega), hf⟩, hfs⟩
        refine z_ctor B (c_X2_init l G (fun _ => False) H.size pa s.heap.size) cy_X2_init im_X2_init rfl wd_M_X2_21 hE.1 (fun _ h => h.elim) obn rfl hl.1 rfl (Nat.le_of_ble_eq_true rfl) ⟨by decide, by decide⟩ ⟨(by (try dsimp only); omega), (by (try dsimp only); omega)⟩ dX2_rest_51 (fun J2 y2 p2 ob2 => ?_)
        exact z_aret B (Or.inl ⟨_, rfl⟩) dX2_rest_54 (hE.trans (Ex.new y1 p1 y2 p2)) ⟨_, rfl, ls_post hrf hzf y2 p2 (hA_no hA hE.1) ob2⟩ (by (try dsimp only); omega) (by (try dsimp only); omega)
      · have hk4 : k < 2 * n + 1 := (nI_ltI (by omega) (by omega)).mp (k2_lt h1)
        refine pb_blk B.hx B.hb (lv' := [(2, .int (nI k)), (1, .ref s.heap.size), (0, .ref q)]) (st' := [.ref q, .int (nI k), .ref s.heap.size]) hl bkX2_rest_19_22 rfl (fun ls hl => ?_)
        refine z_get B ciX2 1 (by decide) ob1 wd_F_X2_15 rfl dX2_rest_22 ?_
        refine pb_blk B.hx B.hb (lv' := [(2, .int (nI k)), (1, .ref s.heap.size), (0, .ref q)]) (st' := [.int (nI k), .ref ca, .int (nI k), .ref s.heap.size]) hl bkX2_rest_25_26 rfl (fun ls hl => ?_)
        refine z_zald B ar1.2 (vp_in_nI (show k < 2 * n + 1 by omega) (by omega)) (v := .int (b2i (mk (k)))) (by rw [nI_clamp (by omega)]; exact hf _ (by omega)) dX2_rest_26 ?_
        refine lv_if_ne (tgt := 34) B.hx B.hb dX2_rest_27 (by decide) (fun h2 => ?_) (fun h2 => ?_)
        · have e0 : mk k = true := ts9 (fun q => h2 ((b2i_0 _).mpr q))
          refine pb_blk B.hx B.hb (lv' := [(2, .int (nI k)), (1, .ref s.heap.size), (0, .ref q)]) (st' := [.int 0, .int (nI k), .ref s.heap.size]) hl bkX2_rest_34_35 rfl (fun ls hl => ?_)
          refine z_zast B hfm (vp_in_nI hk4 (by omega)) (x := 0) rfl dX2_rest_35 (fun J1 v1 y1 p1 => ?_)
          rw [nI_clamp (by omega)] at v1
          refine z_forget (Nat.le_refl _) ?_
          have hm1 : ZrM G J1 s.heap.size (2 * n + 1) (k + 1) (fun j => !mk j) := ZrM.put (x := !mk k) hfms (by rw [e0]; exact v1) (fun j g2 g3 => ⟨by omega, rfl⟩) (fun _ => rfl)
          refine pb_blk B.hx B.hb (lv' := [(2, .int ((nI k) + 1)), (1, .ref s.heap.size), (0, .ref q)]) (st' := []) hl bkX2_rest_36_10 rfl (fun ls hl => ?_)
          exact ih (k + 1) J1 ls (by omega) hk4 (hE.put y1 p1 (Nat.le_refl _)) hm1 (by rw [← nI_1]; exact lv_sub hl [0, 1, 2] rfl)
        · have e0 : mk k = false := (b2i_0 _).mp h2
          refine pb_blk B.hx B.hb (lv' := [(2, .int (nI k)), (1, .ref s.heap.size), (0, .ref q)]) (st' := [.int 1, .int (nI k), .ref s.heap.size]) hl bkX2_rest_30_35 rfl (fun ls hl => ?_)
          refine z_zast B hfm (vp_in_nI hk4 (by omega)) (x := 1) rfl dX2_rest_35 (fun J1 v1 y1 p1 => ?_)
          rw [nI_clamp (by omega)] at v1
          refine z_forget (Nat.le_refl _) ?_
          have hm1 : ZrM G J1 s.heap.size (2 * n + 1) (k + 1) (fun j => !mk j) := ZrM.put (x := !mk k) hfms (by rw [e0]; exact v1) (fun j g2 g3 => ⟨by omega, rfl⟩) (fun _ => rfl)
          refine pb_blk B.hx B.hb (lv' := [(2, .int ((nI k) + 1)), (1, .ref s.heap.size), (0, .ref q)]) (st' := []) hl bkX2_rest_36_10 rfl (fun ls hl => ?_)
          exact ih (k + 1) J1 ls (by omega) hk4 (hE.put y1 p1 (Nat.le_refl _)) hm1 (by rw [← nI_1]; exact lv_sub hl [0, 1, 2] rfl)
  refine pb_blk B.hx B.hb (lv' := [(0, .ref q)]) (st' := [.ref q]) hl bkX2_rest_0_1 rfl (fun ls hl => ?_)
  refine z_get B ciX2 1 (by decide) ob wd_F_X2_15 rfl dX2_rest_1 ?_
  refine z_alen B 2 rfl ar.2 dX2_rest_4 ?_
  refine z_newa (atype := .boolean) (ty := .boolean) B 2 rfl rfl id wa_Z (nI_pos (by omega)) (N := 2 * n + 1) (nI_clamp (by omega)) (by show (2 * n + 1) * 1 ≤ _; omega) (by (try dsimp only); omega) (by (try dsimp only); omega) dX2_rest_5 (fun H1 w1 z1 o1 => ?_)
  refine pb_blk B.hx B.hb (lv' := [(2, .int 0), (1, .ref s.heap.size), (0, .ref q)]) (st' := []) hl bkX2_rest_7_10 rfl (fun ls hl => ?_)
  refine W.widen (k := 1) (n := 2 * n + 1) (by omega) (by omega) ?_
  exact loop (2 * n + 2) 0 H1 ls (by omega) (by omega) (Ex.one z1 o1) ⟨_, w1, fun j hj => absurd hj (Nat.not_lt_zero _)⟩ (lv_sub hl [0, 1, 2] rfl)

theorem ixa (a : Nat) {k : Nat} : 2 * nI k + nI a = nI (2 * k + a) := by rw [ix0, nI_add]
theorem ixz (k : Nat) : 2 * nI k + 0 = nI (2 * k + 0) := by rw [ix0]; exact nI_add (2 * k) 0
theorem niz (k : Nat) : nI k + 0 = nI (k + 0) := nI_add k 0
theorem nia (a : Nat) {k : Nat} : nI k + nI a = nI (k + a) := nI_add k a

def po_X2_combined (G : Gm) (A : Nat → Prop) (q1 q2 n1 n2 : Nat) (p1 p2 : Nat → Rat) (m1 m2 : Nat → Bool) (z0 : Bool) : Option Value → Heap → Prop := fun v H => ∃ q J, v = some (.ref q) ∧ MgE n1 p1 n2 p2 J ∧ Ls G A H q (czn (mgb z0 n1 p1 m1 n2 p2 m2) J) (czp (mgp n1 p1 n2 p2) (mgb z0 n1 p1 m1 n2 p2 m2) J) (czm (mgb z0 n1 p1 m1 n2 p2 m2) J)
theorem bkX2_combined_0_1 : pb_chk cX2_combined 0 [.aload_n 0] = some 1 := by decide +kernel
theorem dX2_combined_1 : decode cX2_combined 1 = .ok (.getfield 9, 3) := by decide +kernel
theorem dX2_combined_4 : decode cX2_combined 4 = .ok (.arraylength, 1) := by decide +kernel
theorem bkX2_combined_5_6 : pb_chk cX2_combined 5 [.aload_n 1] = some 6 := by decide +kernel
theorem dX2_combined_6 : decode cX2_combined 6 = .ok (.getfield 9, 3) := by decide +kernel
theorem dX2_combined_9 : decode cX2_combined 9 = .ok (.arraylength, 1) := by decide +kernel
theorem bkX2_combined_10_11 : pb_chk cX2_combined 10 [.iadd] = some 11 := by decide +kernel
theorem bkX2_combined_11_13 : pb_chk cX2_combined 11 [.istore_n 3, .iload_n 3] = some 13 := by decide +kernel
theorem dX2_combined_13 : decode cX2_combined 13 = .ok (.anewarray 19, 3) := by decide +kernel
theorem bkX2_combined_16_23 : pb_chk cX2_combined 16 [.astore 4, .iconst 2, .iload_n 3, .imul, .iconst 1, .iadd] = some 23 := by decide +kernel
theorem dX2_combined_23 : decode cX2_combined 23 = .ok (.newarray .boolean, 2) := by decide +kernel
theorem bkX2_combined_25_31 : pb_chk cX2_combined 25 [.astore 5, .aload 5, .iconst 0, .aload_n 0] = some 31 := by decide +kernel
theorem dX2_combined_31 : decode cX2_combined 31 = .ok (.getfield 15, 3) := by decide +kernel
theorem bkX2_combined_34_35 : pb_chk cX2_combined 34 [.iconst 0] = some 35 := by decide +kernel
theorem dX2_combined_35 : decode cX2_combined 35 = .ok (.baload, 1) := by decide +kernel
theorem bkX2_combined_36_37 : pb_chk cX2_combined 36 [.aload_n 1] = some 37 := by decide +kernel
theorem dX2_combined_37 : decode cX2_combined 37 = .ok (.getfield 15, 3) := by decide +kernel
theorem bkX2_combined_40_41 : pb_chk cX2_combined 40 [.iconst 0] = some 41 := by decide +kernel
theorem dX2_combined_41 : decode cX2_combined 41 = .ok (.baload, 1) := by decide +kernel
theorem bkX2_combined_42_43 : pb_chk cX2_combined 42 [.iload_n 2] = some 43 := by decide +kernel
theorem dX2_combined_43 : decode cX2_combined 43 = .ok (.invokestatic 32, 3) := by decide +kernel
theorem dX2_combined_46 : decode cX2_combined 46 = .ok (.bastore, 1) := by decide +kernel
theorem bkX2_combined_47_59 : pb_chk cX2_combined 47 [.iconst 0, .istore 6, .iconst 0, .istore 7, .iconst 0, .istore 8, .iconst 0, .istore 9] = some 59 := by decide +kernel
theorem bkX2_combined_59_62 : pb_chk cX2_combined 59 [.iload 9, .iload_n 3] = some 62 := by decide +kernel
theorem dX2_combined_62 : decode cX2_combined 62 = .ok (.if_icmp .ge 166, 3) := by decide +kernel
theorem bkX2_combined_65_71 : pb_chk cX2_combined 65 [.iload 6, .iload 7, .iadd, .iload_n 3] = some 71 := by decide +kernel
theorem dX2_combined_71 : decode cX2_combined 71 = .ok (.if_icmp .ge 157, 3) := by decide +kernel
theorem bkX2_combined_74_80 : pb_chk cX2_combined 74 [.aload_n 0, .iload 6, .aload_n 1, .iload 7] = some 80 := by decide +kernel
theorem dX2_combined_80 : decode cX2_combined 80 = .ok (.invokevirtual 36, 3) := by decide +kernel
theorem bkX2_combined_83_87 : pb_chk cX2_combined 83 [.istore 10, .iload 10] = some 87 := by decide +kernel
theorem dX2_combined_87 : decode cX2_combined 87 = .ok (.ifCond .gt 7, 3) := by decide +kernel
theorem bkX2_combined_90_99 : pb_chk cX2_combined 90 [.iconst 1, .goto 4, .istore 11, .iload 10] = some 99 := by decide +kernel
theorem dX2_combined_99 : decode cX2_combined 99 = .ok (.ifCond .lt 7, 3) := by decide +kernel
theorem bkX2_combined_106_116 : pb_chk cX2_combined 106 [.iconst 0, .istore 12, .aload 4, .iload 8, .iload 11, .iconst 1] = some 116 := by decide +kernel
theorem dX2_combined_116 : decode cX2_combined 116 = .ok (.if_icmp .ne 13, 3) := by decide +kernel
theorem bkX2_combined_119_120 : pb_chk cX2_combined 119 [.aload_n 0] = some 120 := by decide +kernel
theorem dX2_combined_120 : decode cX2_combined 120 = .ok (.getfield 9, 3) := by decide +kernel
theorem bkX2_combined_123_125 : pb_chk cX2_combined 123 [.iload 6] = some 125 := by decide +kernel
theorem dX2_combined_125 : decode cX2_combined 125 = .ok (.aaload, 1) := by decide +kernel
theorem bkX2_combined_126_136 : pb_chk cX2_combined 126 [.goto 10] = some 136 := by decide +kernel
theorem dX2_combined_136 : decode cX2_combined 136 = .ok (.aastore, 1) := by decide +kernel
theorem bkX2_combined_137_146 : pb_chk cX2_combined 137 [.aload 5, .iconst 2, .iload 8, .imul, .iconst 1, .iadd, .aload_n 0] = some 146 := by decide +kernel
theorem dX2_combined_146 : decode cX2_combined 146 = .ok (.getfield 15, 3) := by decide +kernel
theorem bkX2_combined_149_156 : pb_chk cX2_combined 149 [.iconst 2, .iload 6, .imul, .iload 11, .iadd] = some 156 := by decide +kernel
theorem dX2_combined_156 : decode cX2_combined 156 = .ok (.baload, 1) := by decide +kernel
theorem bkX2_combined_157_158 : pb_chk cX2_combined 157 [.aload_n 1] = some 158 := by decide +kernel
theorem dX2_combined_158 : decode cX2_combined 158 = .ok (.getfield 15, 3) := by decide +kernel
theorem bkX2_combined_161_168 : pb_chk cX2_combined 161 [.iconst 2, .iload 7, .imul, .iload 12, .iadd] = some 168 := by decide +kernel
theorem dX2_combined_168 : decode cX2_combined 168 = .ok (.baload, 1) := by decide +kernel
theorem bkX2_combined_169_170 : pb_chk cX2_combined 169 [.iload_n 2] = some 170 := by decide +kernel
theorem dX2_combined_170 : decode cX2_combined 170 = .ok (.invokestatic 32, 3) := by decide +kernel
theorem dX2_combined_173 : decode cX2_combined 173 = .ok (.bastore, 1) := by decide +kernel
theorem bkX2_combined_174_188 : pb_chk cX2_combined 174 [.iload 6, .iload 11, .iadd, .istore 6, .iload 7, .iload 12, .iadd, .istore 7] = some 188 := by decide +kernel
theorem bkX2_combined_188_197 : pb_chk cX2_combined 188 [.aload 5, .iconst 2, .iload 8, .imul, .iconst 2, .iadd, .aload_n 0] = some 197 := by decide +kernel
theorem dX2_combined_197 : decode cX2_combined 197 = .ok (.getfield 15, 3) := by decide +kernel
theorem bkX2_combined_200_204 : pb_chk cX2_combined 200 [.iconst 2, .iload 6, .imul] = some 204 := by decide +kernel
theorem dX2_combined_204 : decode cX2_combined 204 = .ok (.baload, 1) := by decide +kernel
theorem bkX2_combined_205_206 : pb_chk cX2_combined 205 [.aload_n 1] = some 206 := by decide +kernel
theorem dX2_combined_206 : decode cX2_combined 206 = .ok (.getfield 15, 3) := by decide +kernel
theorem bkX2_combined_209_213 : pb_chk cX2_combined 209 [.iconst 2, .iload 7, .imul] = some 213 := by decide +kernel
theorem dX2_combined_213 : decode cX2_combined 213 = .ok (.baload, 1) := by decide +kernel
theorem bkX2_combined_214_215 : pb_chk cX2_combined 214 [.iload_n 2] = some 215 := by decide +kernel
theorem dX2_combined_215 : decode cX2_combined 215 = .ok (.invokestatic 32, 3) := by decide +kernel
theorem dX2_combined_218 : decode cX2_combined 218 = .ok (.bastore, 1) := by decide +kernel
theorem bkX2_combined_219_59 : pb_chk cX2_combined 219 [.iinc 8 1, .iinc 9 1, .goto (-166)] = some 59 := by decide +kernel
theorem bkX2_combined_102_116 : pb_chk cX2_combined 102 [.iconst 1, .goto 4, .istore 12, .aload 4, .iload 8, .iload 11, .iconst 1] = some 116 := by decide +kernel
theorem bkX2_combined_94_99 : pb_chk cX2_combined 94 [.iconst 0, .istore 11, .iload 10] = some 99 := by decide +kernel
theorem bkX2_combined_129_130 : pb_chk cX2_combined 129 [.aload_n 1] = some 130 := by decide +kernel
theorem dX2_combined_130 : decode cX2_combined 130 = .ok (.getfield 9, 3) := by decide +kernel
theorem bkX2_combined_133_135 : pb_chk cX2_combined 133 [.iload 7] = some 135 := by decide +kernel
theorem dX2_combined_135 : decode cX2_combined 135 = .ok (.aaload, 1) := by decide +kernel
theorem bkX2_combined_228_234 : pb_chk cX2_combined 228 [.aload 4, .aload 5, .iload 8] = some 234 := by decide +kernel
theorem dX2_combined_234 : decode cX2_combined 234 = .ok (.invokestatic 40, 3) := by decide +kernel
theorem dX2_combined_237 : decode cX2_combined 237 = .ok (.areturn, 1) := by decide +kernel
set_option maxHeartbeats 4000000 in
set_option maxRecDepth 100000 in
theorem c_X2_combined (l : Launch) (G : Gm) (A : Nat → Prop) (q1 q2 n1 n2 : Nat) (p1 p2 : Nat → Rat) (m1 m2 : Nat → Bool) (z0 : Bool) (hn1 : n1 ≤ 160) (hn2 : n2 ≤ 160) (hb1 : ∀ j, j < n1 → Bg (p1 j)) (hb2 : ∀ j, j < n2 → Bg (p2 j)) (hcz : ∀ J, MgE n1 p1 n2 p2 J → czn (mgb z0 n1 p1 m1 n2 p2 m2) J ≤ 160) : Mz l yX2_combined cX2_combined 13 (some (.object "FormulaHouse$LineSet")) (⟨4, 5, 1925, 81⟩ : Room) G A [.ref q1, .ref q2, .int (b2i z0)] (fun H => Ls G A H q1 n1 p1 m1 ∧ Ls G A H q2 n2 p2 m2) (po_X2_combined G A q1 q2 n1 n2 p1 p2 m1 m2 z0) := by
  refine of_met (by decide) (Nat.le_of_ble_eq_true rfl) ?_
  intro p e s m below meth c ls B hA ⟨hs1, hs2⟩ hl
  obtain ⟨pa1, ca1, ob1, ⟨f1, ar1, hf1⟩, ⟨g1, az1, hg1⟩⟩ := id hs1
  obtain ⟨pa2, ca2, ob2, ⟨f2, ar2, hf2⟩, ⟨g2, az2, hg2⟩⟩ := id hs2
  have fin : ∀ (cb : Nat) (hcb : s.heap.size < cb) (j : Nat) (H : Heap) (ls : Array Slot), j ≤ n1 + n2 → n1 + n2 ≤ (mgs n1 p1 n2 p2 j).1 + (mgs n1 p1 n2 p2 j).2 → (mgs n1 p1 n2 p2 j).1 ≤ n1 → (mgs n1 p1 n2 p2 j).2 ≤ n2 → (∀ t, t < j → (mgs n1 p1 n2 p2 t).1 + (mgs n1 p1 n2 p2 t).2 < n1 + n2) → Ex s.heap H → RowM G (Aq A cb) H s.heap.size (n1 + n2) j (mgp n1 p1 n2 p2) → ZrM G H cb (2 * (n1 + n2) + 1) (2 * j + 1) (mgb z0 n1 p1 m1 n2 p2 m2) → lv_has ls 13 [(8, .int (nI j)), (5, .ref cb), (4, .ref s.heap.size)] → W p l e (⟨4, 5, 1925, 81⟩ : Room) s m ([.ref q1, .ref q2, .int (b2i z0)] : List Value).toArray below meth c H [] 2 (3 * (n1 + n2) + 1) (MQ below (Qz (po_X2_combined G A q1 q2 n1 n2 p1 p2 m1 m2 z0)) ([.ref q1, .ref q2, .int (b2i z0)] : List Value).toArray s (⟨4, 5, 1925, 81⟩ : Room).cells (⟨4, 5, 1925, 81⟩ : Room).slots (fun _ => False)) (F0 m 228 ls []) := by
    intro cb hcb j H ls hj hsum hi2 hk2 hmin hE hr hz hl
    have hM : MgE n1 p1 n2 p2 j := ⟨hj, Prod.ext (by show (mgs n1 p1 n2 p2 j).1 = n1; omega) (by show (mgs n1 p1 n2 p2 j).2 = n2; omega), hmin⟩
    have hrp : RowP G A H s.heap.size (n1 + n2) j (mgp n1 p1 n2 p2) := (hr.finP (aq_no hA (Nat.le_refl _) (by omega))).mv Mv.shrink
    have hzp : ZrP G A H cb (2 * (n1 + n2) + 1) (2 * j + 1) (mgb z0 n1 p1 m1 n2 p2 m2) := by obtain ⟨f, hf, hfs⟩ := hz; exact ⟨f, ⟨hA_no hA (by omega), hf⟩, hfs⟩
    refine pb_blk B.hx B.hb (lv' := [(8, .int (nI j)), (5, .ref cb), (4, .ref s.heap.size)]) (st' := [.int (nI j), .ref cb, .ref s.heap.size]) hl bkX2_combined_228_234 rfl (fun ls hl => ?_)
    refine z_callS B (c_X2_ofCells l G A s.heap.size cb (n1 + n2) (2 * (n1 + n2) + 1) j _ _ hj (by omega) (by omega) (by omega) (by omega) (hcz j hM)) cy_X2_ofCells st_X2_ofCells wd_M_X2_40 (hA_up hA hE.1) ⟨hrp, hzp⟩ rfl hl.1 rfl (Nat.le_of_ble_eq_true rfl) ⟨by decide, by decide⟩ ⟨(by (try dsimp only); omega), (by (try dsimp only); omega)⟩ dX2_combined_234 (fun v J1 hE1 hv => ?_)
    obtain ⟨q, rfl, hq⟩ := hv
    exact z_aret B (Or.inl ⟨_, rfl⟩) dX2_combined_237 (hE.trans hE1) ⟨q, j, rfl, hM, hq⟩ (by (try dsimp only); omega) (by (try dsimp only); omega)
  have loop : ∀ (cb : Nat) (hcb0 : s.heap.size < cb) (n j : Nat) (H : Heap) (ls : Array Slot), n1 + n2 + 1 ≤ j + n → j ≤ n1 + n2 → (mgs n1 p1 n2 p2 j).1 ≤ n1 → (mgs n1 p1 n2 p2 j).2 ≤ n2 → j ≤ (mgs n1 p1 n2 p2 j).1 + (mgs n1 p1 n2 p2 j).2 → (∀ t, t < j → (mgs n1 p1 n2 p2 t).1 + (mgs n1 p1 n2 p2 t).2 < n1 + n2) → Ex s.heap H → RowM G (Aq A cb) H s.heap.size (n1 + n2) j (mgp n1 p1 n2 p2) → ZrM G H cb (2 * (n1 + n2) + 1) (2 * j + 1) (mgb z0 n1 p1 m1 n2 p2 m2) → lv_has ls 13 [(9, .int (nI j)), (8, .int (nI j)), (7, .int (nI (mgs n1 p1 n2 p2 j).2)), (6, .int (nI (mgs n1 p1 n2 p2 j).1)), (5, .ref cb), (4, .ref s.heap.size), (3, .int (nI (n1 + n2))), (0, .ref q1), (1, .ref q2), (2, .int (b2i z0))] → W p l e (⟨4, 5, 1925, 81⟩ : Room) s m ([.ref q1, .ref q2, .int (b2i z0)] : List Value).toArray below meth c H [] 2 (3 * (n1 + n2) + 1) (MQ below (Qz (po_X2_combined G A q1 q2 n1 n2 p1 p2 m1 m2 z0)) ([.ref q1, .ref q2, .int (b2i z0)] : List Value).toArray s (⟨4, 5, 1925, 81⟩ : Room).cells (⟨4, 5, 1925, 81⟩ : Room).slots (fun _ => False)) (F0 m 59 ls []) := by
    intro cb hcb0 n
    have hcb : s.heap.size ≤ cb := by omega
    induction n with
    | zero => intro j H ls h1 h2; omega
    | succ n ih =>
      intro j H ls hn hj hi1 hk1 hjs hmin hE hr hz hl
      generalize hI : (mgs n1 p1 n2 p2 j).1 = i at hi1 hjs hl
      generalize hKk : (mgs n1 p1 n2 p2 j).2 = k at hk1 hjs hl
      have hi2 := hi1
      have hk2 := hk1
      refine pb_blk B.hx B.hb (lv' := [(9, .int (nI j)), (8, .int (nI j)), (7, .int (nI k)), (6, .int (nI i)), (5, .ref cb), (4, .ref s.heap.size), (3, .int (nI (n1 + n2))), (0, .ref q1), (1, .ref q2), (2, .int (b2i z0))]) (st' := [.int (nI (n1 + n2)), .int (nI j)]) hl bkX2_combined_59_62 rfl (fun ls hl => ?_)
      refine lv_icmp_ge (tgt := 228) B.hx B.hb dX2_combined_62 (by decide) (fun h1 => ?_) (fun h1 => ?_)
      · have e4 : n1 + n2 ≤ j := nI_nlt_le (by omega) (k2_nlt h1)
        exact fin cb hcb0 j H ls hj (by rw [hI, hKk]; omega) (by rw [hI]; exact hi2) (by rw [hKk]; exact hk2) hmin hE hr hz (lv_sub hl [1, 4, 5] rfl)
      · have hj4 : j < n1 + n2 := (nI_ltI (by omega) (by omega)).mp (k2_lt h1)
        refine pb_blk B.hx B.hb (lv' := [(9, .int (nI j)), (8, .int (nI j)), (7, .int (nI k)), (6, .int (nI i)), (5, .ref cb), (4, .ref s.heap.size), (3, .int (nI (n1 + n2))), (0, .ref q1), (1, .ref q2), (2, .int (b2i z0))]) (st' := [.int (nI (n1 + n2)), .int ((nI i) + (nI k))]) hl bkX2_combined_65_71 rfl (fun ls hl => ?_)
        rw [nI_add]
        refine lv_icmp_ge (tgt := 228) B.hx B.hb dX2_combined_71 (by decide) (fun h2 => ?_) (fun h2 => ?_)
        · have e4 : n1 + n2 ≤ i + k := nI_nlt_le (by omega) (k2_nlt h2)
          exact fin cb hcb0 j H ls hj (by rw [hI, hKk]; omega) (by rw [hI]; exact hi2) (by rw [hKk]; exact hk2) hmin hE hr hz (lv_sub hl [1, 4, 5] rfl)
        · have hik : i + k < n1 + n2 := (nI_ltI (by omega) (by omega)).mp (k2_lt h2)
          have em := hE.mv A
          have hs1b := hs1.mv em
          have hs2b := hs2.mv em
          refine pb_blk B.hx B.hb (lv' := [(9, .int (nI j)), (8, .int (nI j)), (7, .int (nI k)), (6, .int (nI i)), (5, .ref cb), (4, .ref s.heap.size), (3, .int (nI (n1 + n2))), (0, .ref q1), (1, .ref q2), (2, .int (b2i z0))]) (st' := [.int (nI k), .ref q2, .int (nI i), .ref q1]) hl bkX2_combined_74_80 rfl (fun ls hl => ?_)
          obtain ⟨fs9, ho⟩ := hs1b.ob
          refine n_callV B (c_X2_nextPlace l G A q1 q2 i k n1 n2 p1 p2 m1 m2 (by omega) (by omega) (by omega) (by omega) hb1 hb2) cy_X2_nextPlace im_X2_nextPlace se_X2_nextPlace wd_M_X2_36 rfl ho ⟨hs1b, hs2b⟩ rfl hl.1 rfl (Nat.le_of_ble_eq_true rfl) ⟨by decide, by decide⟩ ⟨(by (try dsimp only); omega), (by (try dsimp only); omega)⟩ dX2_combined_80 (fun v hv => ?_)
          rw [po_X2_nextPlace] at hv
          subst hv
          have ho3 : mgo n1 p1 n2 p2 j = nxt n1 p1 n2 p2 i k := by unfold mgo; rw [hI, hKk]
          rcases nxt_3 n1 p1 n2 p2 i k with hO | hO | hO
          · rw [hO] at ho3 ⊢
            have hA1 : (mgs n1 p1 n2 p2 (j + 1)).1 = i + 1 := by show (mgs n1 p1 n2 p2 j).1 + oA (nxt _ _ _ _ _ _) = _; rw [hI, hKk, hO]; rfl
            have hB1 : (mgs n1 p1 n2 p2 (j + 1)).2 = k + 0 := by show (mgs n1 p1 n2 p2 j).2 + oB (nxt _ _ _ _ _ _) = _; rw [hI, hKk, hO]; rfl
            have hi3 : i < n1 := nxt_le (show nxt n1 p1 n2 p2 i k ≤ 0 by rw [hO]; decide)
            refine pb_blk B.hx B.hb (lv' := [(10, .int (-1)), (9, .int (nI j)), (8, .int (nI j)), (7, .int (nI k)), (6, .int (nI i)), (5, .ref cb), (4, .ref s.heap.size), (3, .int (nI (n1 + n2))), (0, .ref q1), (1, .ref q2), (2, .int (b2i z0))]) (st' := [.int (-1)]) hl bkX2_combined_83_87 rfl (fun ls hl => ?_)
            refine lv_if_gt (tgt := 94) B.hx B.hb dX2_combined_87 (by decide) (fun h => absurd h (by decide)) (fun _ => ?_)
            refine pb_blk B.hx B.hb (lv' := [(11, .int 1), (10, .int (-1)), (9, .int (nI j)), (8, .int (nI j)), (7, .int (nI k)), (6, .int (nI i)), (5, .ref cb), (4, .ref s.heap.size), (3, .int (nI (n1 + n2))), (0, .ref q1), (1, .ref q2), (2, .int (b2i z0))]) (st' := [.int (-1)]) hl bkX2_combined_90_99 rfl (fun ls hl => ?_)
            refine lv_if_lt (tgt := 106) B.hx B.hb dX2_combined_99 (by decide) (fun _ => ?_) (fun h => absurd h (by decide))
            refine pb_blk B.hx B.hb (lv' := [(12, .int 0), (11, .int 1), (10, .int (-1)), (9, .int (nI j)), (8, .int (nI j)), (7, .int (nI k)), (6, .int (nI i)), (5, .ref cb), (4, .ref s.heap.size), (3, .int (nI (n1 + n2))), (0, .ref q1), (1, .ref q2), (2, .int (b2i z0))]) (st' := [.int 1, .int 1, .int (nI j), .ref s.heap.size]) hl bkX2_combined_106_116 rfl (fun ls hl => ?_)
            refine lv_icmp_ne (tgt := 129) B.hx B.hb dX2_combined_116 (by decide) (fun h => absurd h (by decide)) (fun _ => ?_)
            obtain ⟨x, ex, hx⟩ := hf1 i hi3
            have obP := ob1.mv em
            have arP := ar1.mv em
            refine pb_blk B.hx B.hb (lv' := [(12, .int 0), (11, .int 1), (10, .int (-1)), (9, .int (nI j)), (8, .int (nI j)), (7, .int (nI k)), (6, .int (nI i)), (5, .ref cb), (4, .ref s.heap.size), (3, .int (nI (n1 + n2))), (0, .ref q1), (1, .ref q2), (2, .int (b2i z0))]) (st' := [.ref q1, .int (nI j), .ref s.heap.size]) hl bkX2_combined_119_120 rfl (fun ls hl => ?_)
            refine z_get B ciX2 0 (by decide) obP wd_F_X2_9 rfl dX2_combined_120 ?_
            refine pb_blk B.hx B.hb (lv' := [(12, .int 0), (11, .int 1), (10, .int (-1)), (9, .int (nI j)), (8, .int (nI j)), (7, .int (nI k)), (6, .int (nI i)), (5, .ref cb), (4, .ref s.heap.size), (3, .int (nI (n1 + n2))), (0, .ref q1), (1, .ref q2), (2, .int (b2i z0))]) (st' := [.int (nI i), .ref pa1, .int (nI j), .ref s.heap.size]) hl bkX2_combined_123_125 rfl (fun ls hl => ?_)
            refine z_aald B 3 rfl arP.2 (vp_in_nI hi3 (by omega)) (v := .ref x) (by rw [nI_clamp (by omega)]; exact ex) dX2_combined_125 ?_
            refine pb_blk B.hx B.hb (lv' := [(12, .int 0), (11, .int 1), (10, .int (-1)), (9, .int (nI j)), (8, .int (nI j)), (7, .int (nI k)), (6, .int (nI i)), (5, .ref cb), (4, .ref s.heap.size), (3, .int (nI (n1 + n2))), (0, .ref q1), (1, .ref q2), (2, .int (b2i z0))]) (st' := [.ref x, .int (nI j), .ref s.heap.size]) hl bkX2_combined_126_136 rfl (fun ls hl => ?_)
            obtain ⟨fr, hfr, hfrs⟩ := id hr
            obtain ⟨fz, hfz, hfzs⟩ := id hz
            have hx1 : Fr G (Aq (Aq A cb) s.heap.size) H x (p1 i) := hx.mv (Mv.up hE (fun z hz => hz.elim (fun hz => hz.elim Or.inl (fun e9 => Or.inr (by omega))) (fun e9 => Or.inr (by omega))))
            obtain ⟨n9, d9, ob9, fx9⟩ := id hx1
            refine z_aastF B hfr ob9 (vp_in_nI hj4 (by omega)) dX2_combined_136 (fun J1 v1 y1 p1a => ?_)
            rw [nI_clamp (by omega)] at v1
            refine z_forget (Nat.le_refl _) ?_
            have hr1 : RowM G (Aq A cb) J1 s.heap.size (n1 + n2) (j + 1) (mgp n1 p1 n2 p2) := RowM.put hfr hfrs hx1 v1 y1 p1a (fun t g2 g3 => ⟨by omega, rfl⟩) (fun _ => by unfold mgp; rw [ho3, if_pos (by decide), hI])
            have hz1 := hz.oth p1a (show cb ≠ s.heap.size by omega)
            obtain ⟨fz, hfz, hfzs⟩ := id hz1
            have hE1 := hE.put y1 p1a (Nat.le_refl _)
            have emhE1 := hE1.mv A
            have oahE1 := ob1.mv emhE1
            have ochE1 := ob2.mv emhE1
            have ac1 := az1.mv emhE1
            have ac2 := az2.mv emhE1
            refine pb_blk B.hx B.hb (lv' := [(12, .int 0), (11, .int 1), (10, .int (-1)), (9, .int (nI j)), (8, .int (nI j)), (7, .int (nI k)), (6, .int (nI i)), (5, .ref cb), (4, .ref s.heap.size), (3, .int (nI (n1 + n2))), (0, .ref q1), (1, .ref q2), (2, .int (b2i z0))]) (st' := [.ref q1, .int ((2 * (nI j)) + 1), .ref cb]) hl bkX2_combined_137_146 rfl (fun ls hl => ?_)
            refine z_get B ciX2 1 (by decide) oahE1 wd_F_X2_15 rfl dX2_combined_146 ?_
            refine pb_blk B.hx B.hb (lv' := [(12, .int 0), (11, .int 1), (10, .int (-1)), (9, .int (nI j)), (8, .int (nI j)), (7, .int (nI k)), (6, .int (nI i)), (5, .ref cb), (4, .ref s.heap.size), (3, .int (nI (n1 + n2))), (0, .ref q1), (1, .ref q2), (2, .int (b2i z0))]) (st' := [.int ((2 * (nI i)) + 1), .ref ca1, .int ((2 * (nI j)) + 1), .ref cb]) hl bkX2_combined_149_156 rfl (fun ls hl => ?_)
            rw [ix1 i]
            refine z_zald B ac1.2 (vp_in_nI (show 2 * i + 1 < 2 * n1 + 1 by omega) (by omega)) (v := .int (b2i (m1 (2 * i + 1)))) (by rw [nI_clamp (by omega)]; exact hg1 _ (by omega)) dX2_combined_156 ?_
            refine pb_blk B.hx B.hb (lv' := [(12, .int 0), (11, .int 1), (10, .int (-1)), (9, .int (nI j)), (8, .int (nI j)), (7, .int (nI k)), (6, .int (nI i)), (5, .ref cb), (4, .ref s.heap.size), (3, .int (nI (n1 + n2))), (0, .ref q1), (1, .ref q2), (2, .int (b2i z0))]) (st' := [.ref q2, .int (b2i (m1 (2 * i + 1))), .int ((2 * (nI j)) + 1), .ref cb]) hl bkX2_combined_157_158 rfl (fun ls hl => ?_)
            refine z_get B ciX2 1 (by decide) ochE1 wd_F_X2_15 rfl dX2_combined_158 ?_
            refine pb_blk B.hx B.hb (lv' := [(12, .int 0), (11, .int 1), (10, .int (-1)), (9, .int (nI j)), (8, .int (nI j)), (7, .int (nI k)), (6, .int (nI i)), (5, .ref cb), (4, .ref s.heap.size), (3, .int (nI (n1 + n2))), (0, .ref q1), (1, .ref q2), (2, .int (b2i z0))]) (st' := [.int ((2 * (nI k)) + 0), .ref ca2, .int (b2i (m1 (2 * i + 1))), .int ((2 * (nI j)) + 1), .ref cb]) hl bkX2_combined_161_168 rfl (fun ls hl => ?_)
            rw [ixz k]
            refine z_zald B ac2.2 (vp_in_nI (show 2 * k + 0 < 2 * n2 + 1 by omega) (by omega)) (v := .int (b2i (m2 (2 * k + 0)))) (by rw [nI_clamp (by omega)]; exact hg2 _ (by omega)) dX2_combined_168 ?_
            refine pb_blk B.hx B.hb (lv' := [(12, .int 0), (11, .int 1), (10, .int (-1)), (9, .int (nI j)), (8, .int (nI j)), (7, .int (nI k)), (6, .int (nI i)), (5, .ref cb), (4, .ref s.heap.size), (3, .int (nI (n1 + n2))), (0, .ref q1), (1, .ref q2), (2, .int (b2i z0))]) (st' := [.int (b2i z0), .int (b2i (m2 (2 * k + 0))), .int (b2i (m1 (2 * i + 1))), .int ((2 * (nI j)) + 1), .ref cb]) hl bkX2_combined_169_170 rfl (fun ls hl => ?_)
            refine n_callS B (c_X2_decided l G A (m1 (2 * i + 1)) (m2 (2 * k + 0)) z0) cy_X2_decided st_X2_decided wd_M_X2_32 trivial rfl hl.1 rfl (Nat.le_of_ble_eq_true rfl) ⟨by decide, by decide⟩ ⟨(by (try dsimp only); omega), (by (try dsimp only); omega)⟩ dX2_combined_170 (fun v hv => ?_)
            rw [po_X2_decided] at hv
            subst hv
            rw [ix1 j]
            refine z_zast B hfz (vp_in_nI (show 2 * j + 1 < 2 * (n1 + n2) + 1 by omega) (by omega)) (b2i_n _) dX2_combined_173 (fun J2 v2 y2 p2a => ?_)
            rw [nI_clamp (by omega)] at v2
            refine z_forget hcb ?_
            have hz2 : ZrM G J2 cb (2 * (n1 + n2) + 1) (2 * j + 2) (mgb z0 n1 p1 m1 n2 p2 m2) := ZrM.put hfzs v2 (fun t g2 g3 => ⟨by omega, rfl⟩) (fun _ => by rw [mgb_o, hI, hKk, ho3]; rfl)
            obtain ⟨fz, hfz, hfzs⟩ := id hz2
            have hr2 := hr1.oth y2 p2a (show s.heap.size ≠ cb by omega) (Or.inr rfl)
            have hE2 := hE1.put y2 p2a hcb
            refine pb_blk B.hx B.hb (lv' := [(7, .int ((nI k) + 0)), (6, .int ((nI i) + 1)), (12, .int 0), (11, .int 1), (10, .int (-1)), (9, .int (nI j)), (8, .int (nI j)), (5, .ref cb), (4, .ref s.heap.size), (3, .int (nI (n1 + n2))), (0, .ref q1), (1, .ref q2), (2, .int (b2i z0))]) (st' := []) hl bkX2_combined_174_188 rfl (fun ls hl => ?_)
            rw [nI_1 i, niz k] at hl
            have emhE2 := hE2.mv A
            have oahE2 := ob1.mv emhE2
            have ochE2 := ob2.mv emhE2
            have ac1 := az1.mv emhE2
            have ac2 := az2.mv emhE2
            refine pb_blk B.hx B.hb (lv' := [(7, .int (nI (k + 0))), (6, .int (nI (i + 1))), (12, .int 0), (11, .int 1), (10, .int (-1)), (9, .int (nI j)), (8, .int (nI j)), (5, .ref cb), (4, .ref s.heap.size), (3, .int (nI (n1 + n2))), (0, .ref q1), (1, .ref q2), (2, .int (b2i z0))]) (st' := [.ref q1, .int ((2 * (nI j)) + 2), .ref cb]) hl bkX2_combined_188_197 rfl (fun ls hl => ?_)
            refine z_get B ciX2 1 (by decide) oahE2 wd_F_X2_15 rfl dX2_combined_197 ?_
            refine pb_blk B.hx B.hb (lv' := [(7, .int (nI (k + 0))), (6, .int (nI (i + 1))), (12, .int 0), (11, .int 1), (10, .int (-1)), (9, .int (nI j)), (8, .int (nI j)), (5, .ref cb), (4, .ref s.heap.size), (3, .int (nI (n1 + n2))), (0, .ref q1), (1, .ref q2), (2, .int (b2i z0))]) (st' := [.int (2 * (nI (i + 1))), .ref ca1, .int ((2 * (nI j)) + 2), .ref cb]) hl bkX2_combined_200_204 rfl (fun ls hl => ?_)
            rw [ix0 (i + 1)]
            refine z_zald B ac1.2 (vp_in_nI (show 2 * (i + 1) < 2 * n1 + 1 by omega) (by omega)) (v := .int (b2i (m1 (2 * (i + 1))))) (by rw [nI_clamp (by omega)]; exact hg1 _ (by omega)) dX2_combined_204 ?_
            refine pb_blk B.hx B.hb (lv' := [(7, .int (nI (k + 0))), (6, .int (nI (i + 1))), (12, .int 0), (11, .int 1), (10, .int (-1)), (9, .int (nI j)), (8, .int (nI j)), (5, .ref cb), (4, .ref s.heap.size), (3, .int (nI (n1 + n2))), (0, .ref q1), (1, .ref q2), (2, .int (b2i z0))]) (st' := [.ref q2, .int (b2i (m1 (2 * (i + 1)))), .int ((2 * (nI j)) + 2), .ref cb]) hl bkX2_combined_205_206 rfl (fun ls hl => ?_)
            refine z_get B ciX2 1 (by decide) ochE2 wd_F_X2_15 rfl dX2_combined_206 ?_
            refine pb_blk B.hx B.hb (lv' := [(7, .int (nI (k + 0))), (6, .int (nI (i + 1))), (12, .int 0), (11, .int 1), (10, .int (-1)), (9, .int (nI j)), (8, .int (nI j)), (5, .ref cb), (4, .ref s.heap.size), (3, .int (nI (n1 + n2))), (0, .ref q1), (1, .ref q2), (2, .int (b2i z0))]) (st' := [.int (2 * (nI (k + 0))), .ref ca2, .int (b2i (m1 (2 * (i + 1)))), .int ((2 * (nI j)) + 2), .ref cb]) hl bkX2_combined_209_213 rfl (fun ls hl => ?_)
            rw [ix0 (k + 0)]
            refine z_zald B ac2.2 (vp_in_nI (show 2 * (k + 0) < 2 * n2 + 1 by omega) (by omega)) (v := .int (b2i (m2 (2 * (k + 0))))) (by rw [nI_clamp (by omega)]; exact hg2 _ (by omega)) dX2_combined_213 ?_
            refine pb_blk B.hx B.hb (lv' := [(7, .int (nI (k + 0))), (6, .int (nI (i + 1))), (12, .int 0), (11, .int 1), (10, .int (-1)), (9, .int (nI j)), (8, .int (nI j)), (5, .ref cb), (4, .ref s.heap.size), (3, .int (nI (n1 + n2))), (0, .ref q1), (1, .ref q2), (2, .int (b2i z0))]) (st' := [.int (b2i z0), .int (b2i (m2 (2 * (k + 0)))), .int (b2i (m1 (2 * (i + 1)))), .int ((2 * (nI j)) + 2), .ref cb]) hl bkX2_combined_214_215 rfl (fun ls hl => ?_)
            refine n_callS B (c_X2_decided l G A (m1 (2 * (i + 1))) (m2 (2 * (k + 0))) z0) cy_X2_decided st_X2_decided wd_M_X2_32 trivial rfl hl.1 rfl (Nat.le_of_ble_eq_true rfl) ⟨by decide, by decide⟩ ⟨(by (try dsimp only); omega), (by (try dsimp only); omega)⟩ dX2_combined_215 (fun v hv => ?_)
            rw [po_X2_decided] at hv
            subst hv
            rw [ix2 j]
            refine z_zast B hfz (vp_in_nI (show 2 * j + 2 < 2 * (n1 + n2) + 1 by omega) (by omega)) (b2i_n _) dX2_combined_218 (fun J3 v3 y3 p3a => ?_)
            rw [nI_clamp (by omega)] at v3
            refine z_forget hcb ?_
            have hz3 : ZrM G J3 cb (2 * (n1 + n2) + 1) (2 * (j + 1) + 1) (mgb z0 n1 p1 m1 n2 p2 m2) := ZrM.put hfzs v3 (fun t g2 g3 => ⟨by omega, rfl⟩) (fun _ => by rw [show 2 * j + 2 = 2 * (j + 1) by omega, mgb_e, hA1, hB1])
            have hr3 := hr2.oth y3 p3a (show s.heap.size ≠ cb by omega) (Or.inr rfl)
            refine pb_blk B.hx B.hb (lv' := [(9, .int ((nI j) + 1)), (8, .int ((nI j) + 1)), (7, .int (nI (k + 0))), (6, .int (nI (i + 1))), (12, .int 0), (11, .int 1), (10, .int (-1)), (5, .ref cb), (4, .ref s.heap.size), (3, .int (nI (n1 + n2))), (0, .ref q1), (1, .ref q2), (2, .int (b2i z0))]) (st' := []) hl bkX2_combined_219_59 rfl (fun ls hl => ?_)
            exact ih (j + 1) J3 ls (by omega) (by omega) (by rw [hA1]; omega) (by rw [hB1]; omega) (by rw [hA1, hB1]; omega) (fun t ht => (Nat.lt_succ_iff_lt_or_eq.mp ht).elim (hmin t) (fun e9 => by rw [e9, hI, hKk]; exact hik)) (hE2.put y3 p3a hcb) hr3 hz3 (by rw [hA1, hB1, ← nI_1]; exact lv_sub hl [0, 1, 2, 3, 7, 8, 9, 10, 11, 12] rfl)
          · rw [hO] at ho3 ⊢
            have hA1 : (mgs n1 p1 n2 p2 (j + 1)).1 = i + 1 := by show (mgs n1 p1 n2 p2 j).1 + oA (nxt _ _ _ _ _ _) = _; rw [hI, hKk, hO]; rfl
            have hB1 : (mgs n1 p1 n2 p2 (j + 1)).2 = k + 1 := by show (mgs n1 p1 n2 p2 j).2 + oB (nxt _ _ _ _ _ _) = _; rw [hI, hKk, hO]; rfl
            have hi3 : i < n1 := nxt_le (show nxt n1 p1 n2 p2 i k ≤ 0 by rw [hO]; decide)
            have hk3 : k < n2 := nxt_ge hik hi2 (show 0 ≤ nxt n1 p1 n2 p2 i k by rw [hO]; decide)
            refine pb_blk B.hx B.hb (lv' := [(10, .int 0), (9, .int (nI j)), (8, .int (nI j)), (7, .int (nI k)), (6, .int (nI i)), (5, .ref cb), (4, .ref s.heap.size), (3, .int (nI (n1 + n2))), (0, .ref q1), (1, .ref q2), (2, .int (b2i z0))]) (st' := [.int 0]) hl bkX2_combined_83_87 rfl (fun ls hl => ?_)
            refine lv_if_gt (tgt := 94) B.hx B.hb dX2_combined_87 (by decide) (fun h => absurd h (by decide)) (fun _ => ?_)
            refine pb_blk B.hx B.hb (lv' := [(11, .int 1), (10, .int 0), (9, .int (nI j)), (8, .int (nI j)), (7, .int (nI k)), (6, .int (nI i)), (5, .ref cb), (4, .ref s.heap.size), (3, .int (nI (n1 + n2))), (0, .ref q1), (1, .ref q2), (2, .int (b2i z0))]) (st' := [.int 0]) hl bkX2_combined_90_99 rfl (fun ls hl => ?_)
            refine lv_if_lt (tgt := 106) B.hx B.hb dX2_combined_99 (by decide) (fun h => absurd h (by decide)) (fun _ => ?_)
            refine pb_blk B.hx B.hb (lv' := [(12, .int 1), (11, .int 1), (10, .int 0), (9, .int (nI j)), (8, .int (nI j)), (7, .int (nI k)), (6, .int (nI i)), (5, .ref cb), (4, .ref s.heap.size), (3, .int (nI (n1 + n2))), (0, .ref q1), (1, .ref q2), (2, .int (b2i z0))]) (st' := [.int 1, .int 1, .int (nI j), .ref s.heap.size]) hl bkX2_combined_102_116 rfl (fun ls hl => ?_)
            refine lv_icmp_ne (tgt := 129) B.hx B.hb dX2_combined_116 (by decide) (fun h => absurd h (by decide)) (fun _ => ?_)
            obtain ⟨x, ex, hx⟩ := hf1 i hi3
            have obP := ob1.mv em
            have arP := ar1.mv em
            refine pb_blk B.hx B.hb (lv' := [(12, .int 1), (11, .int 1), (10, .int 0), (9, .int (nI j)), (8, .int (nI j)), (7, .int (nI k)), (6, .int (nI i)), (5, .ref cb), (4, .ref s.heap.size), (3, .int (nI (n1 + n2))), (0, .ref q1), (1, .ref q2), (2, .int (b2i z0))]) (st' := [.ref q1, .int (nI j), .ref s.heap.size]) hl bkX2_combined_119_120 rfl (fun ls hl => ?_)
            refine z_get B ciX2 0 (by decide) obP wd_F_X2_9 rfl dX2_combined_120 ?_
            refine pb_blk B.hx B.hb (lv' := [(12, .int 1), (11, .int 1), (10, .int 0), (9, .int (nI j)), (8, .int (nI j)), (7, .int (nI k)), (6, .int (nI i)), (5, .ref cb), (4, .ref s.heap.size), (3, .int (nI (n1 + n2))), (0, .ref q1), (1, .ref q2), (2, .int (b2i z0))]) (st' := [.int (nI i), .ref pa1, .int (nI j), .ref s.heap.size]) hl bkX2_combined_123_125 rfl (fun ls hl => ?_)
            refine z_aald B 3 rfl arP.2 (vp_in_nI hi3 (by omega)) (v := .ref x) (by rw [nI_clamp (by omega)]; exact ex) dX2_combined_125 ?_
            refine pb_blk B.hx B.hb (lv' := [(12, .int 1), (11, .int 1), (10, .int 0), (9, .int (nI j)), (8, .int (nI j)), (7, .int (nI k)), (6, .int (nI i)), (5, .ref cb), (4, .ref s.heap.size), (3, .int (nI (n1 + n2))), (0, .ref q1), (1, .ref q2), (2, .int (b2i z0))]) (st' := [.ref x, .int (nI j), .ref s.heap.size]) hl bkX2_combined_126_136 rfl (fun ls hl => ?_)
            obtain ⟨fr, hfr, hfrs⟩ := id hr
            obtain ⟨fz, hfz, hfzs⟩ := id hz
            have hx1 : Fr G (Aq (Aq A cb) s.heap.size) H x (p1 i) := hx.mv (Mv.up hE (fun z hz => hz.elim (fun hz => hz.elim Or.inl (fun e9 => Or.inr (by omega))) (fun e9 => Or.inr (by omega))))
            obtain ⟨n9, d9, ob9, fx9⟩ := id hx1
            refine z_aastF B hfr ob9 (vp_in_nI hj4 (by omega)) dX2_combined_136 (fun J1 v1 y1 p1a => ?_)
            rw [nI_clamp (by omega)] at v1
            refine z_forget (Nat.le_refl _) ?_
            have hr1 : RowM G (Aq A cb) J1 s.heap.size (n1 + n2) (j + 1) (mgp n1 p1 n2 p2) := RowM.put hfr hfrs hx1 v1 y1 p1a (fun t g2 g3 => ⟨by omega, rfl⟩) (fun _ => by unfold mgp; rw [ho3, if_pos (by decide), hI])
            have hz1 := hz.oth p1a (show cb ≠ s.heap.size by omega)
            obtain ⟨fz, hfz, hfzs⟩ := id hz1
            have hE1 := hE.put y1 p1a (Nat.le_refl _)
            have emhE1 := hE1.mv A
            have oahE1 := ob1.mv emhE1
            have ochE1 := ob2.mv emhE1
            have ac1 := az1.mv emhE1
            have ac2 := az2.mv emhE1
            refine pb_blk B.hx B.hb (lv' := [(12, .int 1), (11, .int 1), (10, .int 0), (9, .int (nI j)), (8, .int (nI j)), (7, .int (nI k)), (6, .int (nI i)), (5, .ref cb), (4, .ref s.heap.size), (3, .int (nI (n1 + n2))), (0, .ref q1), (1, .ref q2), (2, .int (b2i z0))]) (st' := [.ref q1, .int ((2 * (nI j)) + 1), .ref cb]) hl bkX2_combined_137_146 rfl (fun ls hl => ?_)
            refine z_get B ciX2 1 (by decide) oahE1 wd_F_X2_15 rfl dX2_combined_146 ?_
            refine pb_blk B.hx B.hb (lv' := [(12, .int 1), (11, .int 1), (10, .int 0), (9, .int (nI j)), (8, .int (nI j)), (7, .int (nI k)), (6, .int (nI i)), (5, .ref cb), (4, .ref s.heap.size), (3, .int (nI (n1 + n2))), (0, .ref q1), (1, .ref q2), (2, .int (b2i z0))]) (st' := [.int ((2 * (nI i)) + 1), .ref ca1, .int ((2 * (nI j)) + 1), .ref cb]) hl bkX2_combined_149_156 rfl (fun ls hl => ?_)
            rw [ix1 i]
            refine z_zald B ac1.2 (vp_in_nI (show 2 * i + 1 < 2 * n1 + 1 by omega) (by omega)) (v := .int (b2i (m1 (2 * i + 1)))) (by rw [nI_clamp (by omega)]; exact hg1 _ (by omega)) dX2_combined_156 ?_
            refine pb_blk B.hx B.hb (lv' := [(12, .int 1), (11, .int 1), (10, .int 0), (9, .int (nI j)), (8, .int (nI j)), (7, .int (nI k)), (6, .int (nI i)), (5, .ref cb), (4, .ref s.heap.size), (3, .int (nI (n1 + n2))), (0, .ref q1), (1, .ref q2), (2, .int (b2i z0))]) (st' := [.ref q2, .int (b2i (m1 (2 * i + 1))), .int ((2 * (nI j)) + 1), .ref cb]) hl bkX2_combined_157_158 rfl (fun ls hl => ?_)
            refine z_get B ciX2 1 (by decide) ochE1 wd_F_X2_15 rfl dX2_combined_158 ?_
            refine pb_blk B.hx B.hb (lv' := [(12, .int 1), (11, .int 1), (10, .int 0), (9, .int (nI j)), (8, .int (nI j)), (7, .int (nI k)), (6, .int (nI i)), (5, .ref cb), (4, .ref s.heap.size), (3, .int (nI (n1 + n2))), (0, .ref q1), (1, .ref q2), (2, .int (b2i z0))]) (st' := [.int ((2 * (nI k)) + 1), .ref ca2, .int (b2i (m1 (2 * i + 1))), .int ((2 * (nI j)) + 1), .ref cb]) hl bkX2_combined_161_168 rfl (fun ls hl => ?_)
            rw [ix1 k]
            refine z_zald B ac2.2 (vp_in_nI (show 2 * k + 1 < 2 * n2 + 1 by omega) (by omega)) (v := .int (b2i (m2 (2 * k + 1)))) (by rw [nI_clamp (by omega)]; exact hg2 _ (by omega)) dX2_combined_168 ?_
            refine pb_blk B.hx B.hb (lv' := [(12, .int 1), (11, .int 1), (10, .int 0), (9, .int (nI j)), (8, .int (nI j)), (7, .int (nI k)), (6, .int (nI i)), (5, .ref cb), (4, .ref s.heap.size), (3, .int (nI (n1 + n2))), (0, .ref q1), (1, .ref q2), (2, .int (b2i z0))]) (st' := [.int (b2i z0), .int (b2i (m2 (2 * k + 1))), .int (b2i (m1 (2 * i + 1))), .int ((2 * (nI j)) + 1), .ref cb]) hl bkX2_combined_169_170 rfl (fun ls hl => ?_)
            refine n_callS B (c_X2_decided l G A (m1 (2 * i + 1)) (m2 (2 * k + 1)) z0) cy_X2_decided st_X2_decided wd_M_X2_32 trivial rfl hl.1 rfl (Nat.le_of_ble_eq_true rfl) ⟨by decide, by decide⟩ ⟨(by (try dsimp only); omega), (by (try dsimp only); omega)⟩ dX2_combined_170 (fun v hv => ?_)
            rw [po_X2_decided] at hv
            subst hv
            rw [ix1 j]
            refine z_zast B hfz (vp_in_nI (show 2 * j + 1 < 2 * (n1 + n2) + 1 by omega) (by omega)) (b2i_n _) dX2_combined_173 (fun J2 v2 y2 p2a => ?_)
            rw [nI_clamp (by omega)] at v2
            refine z_forget hcb ?_
            have hz2 : ZrM G J2 cb (2 * (n1 + n2) + 1) (2 * j + 2) (mgb z0 n1 p1 m1 n2 p2 m2) := ZrM.put hfzs v2 (fun t g2 g3 => ⟨by omega, rfl⟩) (fun _ => by rw [mgb_o, hI, hKk, ho3]; rfl)
            obtain ⟨fz, hfz, hfzs⟩ := id hz2
            have hr2 := hr1.oth y2 p2a (show s.heap.size ≠ cb by omega) (Or.inr rfl)
            have hE2 := hE1.put y2 p2a hcb
            refine pb_blk B.hx B.hb (lv' := [(7, .int ((nI k) + 1)), (6, .int ((nI i) + 1)), (12, .int 1), (11, .int 1), (10, .int 0), (9, .int (nI j)), (8, .int (nI j)), (5, .ref cb), (4, .ref s.heap.size), (3, .int (nI (n1 + n2))), (0, .ref q1), (1, .ref q2), (2, .int (b2i z0))]) (st' := []) hl bkX2_combined_174_188 rfl (fun ls hl => ?_)
            rw [nI_1 i, nI_1 k] at hl
            have emhE2 := hE2.mv A
            have oahE2 := ob1.mv emhE2
            have ochE2 := ob2.mv emhE2
            have ac1 := az1.mv emhE2
            have ac2 := az2.mv emhE2
            refine pb_blk B.hx B.hb (lv' := [(7, .int (nI (k + 1))), (6, .int (nI (i + 1))), (12, .int 1), (11, .int 1), (10, .int 0), (9, .int (nI j)), (8, .int (nI j)), (5, .ref cb), (4, .ref s.heap.size), (3, .int (nI (n1 + n2))), (0, .ref q1), (1, .ref q2), (2, .int (b2i z0))]) (st' := [.ref q1, .int ((2 * (nI j)) + 2), .ref cb]) hl bkX2_combined_188_197 rfl (fun ls hl => ?_)
            refine z_get B ciX2 1 (by decide) oahE2 wd_F_X2_15 rfl dX2_combined_197 ?_
            refine pb_blk B.hx B.hb (lv' := [(7, .int (nI (k + 1))), (6, .int (nI (i + 1))), (12, .int 1), (11, .int 1), (10, .int 0), (9, .int (nI j)), (8, .int (nI j)), (5, .ref cb), (4, .ref s.heap.size), (3, .int (nI (n1 + n2))), (0, .ref q1), (1, .ref q2), (2, .int (b2i z0))]) (st' := [.int (2 * (nI (i + 1))), .ref ca1, .int ((2 * (nI j)) + 2), .ref cb]) hl bkX2_combined_200_204 rfl (fun ls hl => ?_)
            rw [ix0 (i + 1)]
            refine z_zald B ac1.2 (vp_in_nI (show 2 * (i + 1) < 2 * n1 + 1 by omega) (by omega)) (v := .int (b2i (m1 (2 * (i + 1))))) (by rw [nI_clamp (by omega)]; exact hg1 _ (by omega)) dX2_combined_204 ?_
            refine pb_blk B.hx B.hb (lv' := [(7, .int (nI (k + 1))), (6, .int (nI (i + 1))), (12, .int 1), (11, .int 1), (10, .int 0), (9, .int (nI j)), (8, .int (nI j)), (5, .ref cb), (4, .ref s.heap.size), (3, .int (nI (n1 + n2))), (0, .ref q1), (1, .ref q2), (2, .int (b2i z0))]) (st' := [.ref q2, .int (b2i (m1 (2 * (i + 1)))), .int ((2 * (nI j)) + 2), .ref cb]) hl bkX2_combined_205_206 rfl (fun ls hl => ?_)
            refine z_get B ciX2 1 (by decide) ochE2 wd_F_X2_15 rfl dX2_combined_206 ?_
            refine pb_blk B.hx B.hb (lv' := [(7, .int (nI (k + 1))), (6, .int (nI (i + 1))), (12, .int 1), (11, .int 1), (10, .int 0), (9, .int (nI j)), (8, .int (nI j)), (5, .ref cb), (4, .ref s.heap.size), (3, .int (nI (n1 + n2))), (0, .ref q1), (1, .ref q2), (2, .int (b2i z0))]) (st' := [.int (2 * (nI (k + 1))), .ref ca2, .int (b2i (m1 (2 * (i + 1)))), .int ((2 * (nI j)) + 2), .ref cb]) hl bkX2_combined_209_213 rfl (fun ls hl => ?_)
            rw [ix0 (k + 1)]
            refine z_zald B ac2.2 (vp_in_nI (show 2 * (k + 1) < 2 * n2 + 1 by omega) (by omega)) (v := .int (b2i (m2 (2 * (k + 1))))) (by rw [nI_clamp (by omega)]; exact hg2 _ (by omega)) dX2_combined_213 ?_
            refine pb_blk B.hx B.hb (lv' := [(7, .int (nI (k + 1))), (6, .int (nI (i + 1))), (12, .int 1), (11, .int 1), (10, .int 0), (9, .int (nI j)), (8, .int (nI j)), (5, .ref cb), (4, .ref s.heap.size), (3, .int (nI (n1 + n2))), (0, .ref q1), (1, .ref q2), (2, .int (b2i z0))]) (st' := [.int (b2i z0), .int (b2i (m2 (2 * (k + 1)))), .int (b2i (m1 (2 * (i + 1)))), .int ((2 * (nI j)) + 2), .ref cb]) hl bkX2_combined_214_215 rfl (fun ls hl => ?_)
            refine n_callS B (c_X2_decided l G A (m1 (2 * (i + 1))) (m2 (2 * (k + 1))) z0) cy_X2_decided st_X2_decided wd_M_X2_32 trivial rfl hl.1 rfl (Nat.le_of_ble_eq_true rfl) ⟨by decide, by decide⟩ ⟨(by (try dsimp only); omega), (by (try dsimp only); omega)⟩ dX2_combined_215 (fun v hv => ?_)
            rw [po_X2_decided] at hv
            subst hv
            rw [ix2 j]
            refine z_zast B hfz (vp_in_nI (show 2 * j + 2 < 2 * (n1 + n2) + 1 by omega) (by omega)) (b2i_n _) dX2_combined_218 (fun J3 v3 y3 p3a => ?_)
            rw [nI_clamp (by omega)] at v3
            refine z_forget hcb ?_
            have hz3 : ZrM G J3 cb (2 * (n1 + n2) + 1) (2 * (j + 1) + 1) (mgb z0 n1 p1 m1 n2 p2 m2) := ZrM.put hfzs v3 (fun t g2 g3 => ⟨by omega, rfl⟩) (fun _ => by rw [show 2 * j + 2 = 2 * (j + 1) by omega, mgb_e, hA1, hB1])
            have hr3 := hr2.oth y3 p3a (show s.heap.size ≠ cb by omega) (Or.inr rfl)
            refine pb_blk B.hx B.hb (lv' := [(9, .int ((nI j) + 1)), (8, .int ((nI j) + 1)), (7, .int (nI (k + 1))), (6, .int (nI (i + 1))), (12, .int 1), (11, .int 1), (10, .int 0), (5, .ref cb), (4, .ref s.heap.size), (3, .int (nI (n1 + n2))), (0, .ref q1), (1, .ref q2), (2, .int (b2i z0))]) (st' := []) hl bkX2_combined_219_59 rfl (fun ls hl => ?_)
            exact ih (j + 1) J3 ls (by omega) (by omega) (by rw [hA1]; omega) (by rw [hB1]; omega) (by rw [hA1, hB1]; omega) (fun t ht => (Nat.lt_succ_iff_lt_or_eq.mp ht).elim (hmin t) (fun e9 => by rw [e9, hI, hKk]; exact hik)) (hE2.put y3 p3a hcb) hr3 hz3 (by rw [hA1, hB1, ← nI_1]; exact lv_sub hl [0, 1, 2, 3, 7, 8, 9, 10, 11, 12] rfl)
          · rw [hO] at ho3 ⊢
            have hA1 : (mgs n1 p1 n2 p2 (j + 1)).1 = i + 0 := by show (mgs n1 p1 n2 p2 j).1 + oA (nxt _ _ _ _ _ _) = _; rw [hI, hKk, hO]; rfl
            have hB1 : (mgs n1 p1 n2 p2 (j + 1)).2 = k + 1 := by show (mgs n1 p1 n2 p2 j).2 + oB (nxt _ _ _ _ _ _) = _; rw [hI, hKk, hO]; rfl
            have hk3 : k < n2 := nxt_ge hik hi2 (show 0 ≤ nxt n1 p1 n2 p2 i k by rw [hO]; decide)
            refine pb_blk B.hx B.hb (lv' := [(10, .int 1), (9, .int (nI j)), (8, .int (nI j)), (7, .int (nI k)), (6, .int (nI i)), (5, .ref cb), (4, .ref s.heap.size), (3, .int (nI (n1 + n2))), (0, .ref q1), (1, .ref q2), (2, .int (b2i z0))]) (st' := [.int 1]) hl bkX2_combined_83_87 rfl (fun ls hl => ?_)
            refine lv_if_gt (tgt := 94) B.hx B.hb dX2_combined_87 (by decide) (fun _ => ?_) (fun h => absurd h (by decide))
            refine pb_blk B.hx B.hb (lv' := [(11, .int 0), (10, .int 1), (9, .int (nI j)), (8, .int (nI j)), (7, .int (nI k)), (6, .int (nI i)), (5, .ref cb), (4, .ref s.heap.size), (3, .int (nI (n1 + n2))), (0, .ref q1), (1, .ref q2), (2, .int (b2i z0))]) (st' := [.int 1]) hl bkX2_combined_94_99 rfl (fun ls hl => ?_)
            refine lv_if_lt (tgt := 106) B.hx B.hb dX2_combined_99 (by decide) (fun h => absurd h (by decide)) (fun _ => ?_)
            refine pb_blk B.hx B.hb (lv' := [(12, .int 1), (11, .int 0), (10, .int 1), (9, .int (nI j)), (8, .int (nI j)), (7, .int (nI k)), (6, .int (nI i)), (5, .ref cb), (4, .ref s.heap.size), (3, .int (nI (n1 + n2))), (0, .ref q1), (1, .ref q2), (2, .int (b2i z0))]) (st' := [.int 1, .int 0, .int (nI j), .ref s.heap.size]) hl bkX2_combined_102_116 rfl (fun ls hl => ?_)
            refine lv_icmp_ne (tgt := 129) B.hx B.hb dX2_combined_116 (by decide) (fun _ => ?_) (fun h => absurd h (by decide))
            obtain ⟨x, ex, hx⟩ := hf2 k hk3
            have obP := ob2.mv em
            have arP := ar2.mv em
            refine pb_blk B.hx B.hb (lv' := [(12, .int 1), (11, .int 0), (10, .int 1), (9, .int (nI j)), (8, .int (nI j)), (7, .int (nI k)), (6, .int (nI i)), (5, .ref cb), (4, .ref s.heap.size), (3, .int (nI (n1 + n2))), (0, .ref q1), (1, .ref q2), (2, .int (b2i z0))]) (st' := [.ref q2, .int (nI j), .ref s.heap.size]) hl bkX2_combined_129_130 rfl (fun ls hl => ?_)
            refine z_get B ciX2 0 (by decide) obP wd_F_X2_9 rfl dX2_combined_130 ?_
            refine pb_blk B.hx B.hb (lv' := [(12, .int 1), (11, .int 0), (10, .int 1), (9, .int (nI j)), (8, .int (nI j)), (7, .int (nI k)), (6, .int (nI i)), (5, .ref cb), (4, .ref s.heap.size), (3, .int (nI (n1 + n2))), (0, .ref q1), (1, .ref q2), (2, .int (b2i z0))]) (st' := [.int (nI k), .ref pa2, .int (nI j), .ref s.heap.size]) hl bkX2_combined_133_135 rfl (fun ls hl => ?_)
            refine z_aald B 3 rfl arP.2 (vp_in_nI hk3 (by omega)) (v := .ref x) (by rw [nI_clamp (by omega)]; exact ex) dX2_combined_135 ?_
            obtain ⟨fr, hfr, hfrs⟩ := id hr
            obtain ⟨fz, hfz, hfzs⟩ := id hz
            have hx1 : Fr G (Aq (Aq A cb) s.heap.size) H x (p2 k) := hx.mv (Mv.up hE (fun z hz => hz.elim (fun hz => hz.elim Or.inl (fun e9 => Or.inr (by omega))) (fun e9 => Or.inr (by omega))))
            obtain ⟨n9, d9, ob9, fx9⟩ := id hx1
            refine z_aastF B hfr ob9 (vp_in_nI hj4 (by omega)) dX2_combined_136 (fun J1 v1 y1 p1a => ?_)
            rw [nI_clamp (by omega)] at v1
            refine z_forget (Nat.le_refl _) ?_
            have hr1 : RowM G (Aq A cb) J1 s.heap.size (n1 + n2) (j + 1) (mgp n1 p1 n2 p2) := RowM.put hfr hfrs hx1 v1 y1 p1a (fun t g2 g3 => ⟨by omega, rfl⟩) (fun _ => by unfold mgp; rw [ho3, if_neg (by decide), hKk])
            have hz1 := hz.oth p1a (show cb ≠ s.heap.size by omega)
            obtain ⟨fz, hfz, hfzs⟩ := id hz1
            have hE1 := hE.put y1 p1a (Nat.le_refl _)
            have emhE1 := hE1.mv A
            have oahE1 := ob1.mv emhE1
            have ochE1 := ob2.mv emhE1
            have ac1 := az1.mv emhE1
            have ac2 := az2.mv emhE1
            refine pb_blk B.hx B.hb (lv' := [(12, .int 1), (11, .int 0), (10, .int 1), (9, .int (nI j)), (8, .int (nI j)), (7, .int (nI k)), (6, .int (nI i)), (5, .ref cb), (4, .ref s.heap.size), (3, .int (nI (n1 + n2))), (0, .ref q1), (1, .ref q2), (2, .int (b2i z0))]) (st' := [.ref q1, .int ((2 * (nI j)) + 1), .ref cb]) hl bkX2_combined_137_146 rfl (fun ls hl => ?_)
            refine z_get B ciX2 1 (by decide) oahE1 wd_F_X2_15 rfl dX2_combined_146 ?_
            refine pb_blk B.hx B.hb (lv' := [(12, .int 1), (11, .int 0), (10, .int 1), (9, .int (nI j)), (8, .int (nI j)), (7, .int (nI k)), (6, .int (nI i)), (5, .ref cb), (4, .ref s.heap.size), (3, .int (nI (n1 + n2))), (0, .ref q1), (1, .ref q2), (2, .int (b2i z0))]) (st' := [.int ((2 * (nI i)) + 0), .ref ca1, .int ((2 * (nI j)) + 1), .ref cb]) hl bkX2_combined_149_156 rfl (fun ls hl => ?_)
            rw [ixz i]
            refine z_zald B ac1.2 (vp_in_nI (show 2 * i + 0 < 2 * n1 + 1 by omega) (by omega)) (v := .int (b2i (m1 (2 * i + 0)))) (by rw [nI_clamp (by omega)]; exact hg1 _ (by omega)) dX2_combined_156 ?_
            refine pb_blk B.hx B.hb (lv' := [(12, .int 1), (11, .int 0), (10, .int 1), (9, .int (nI j)), (8, .int (nI j)), (7, .int (nI k)), (6, .int (nI i)), (5, .ref cb), (4, .ref s.heap.size), (3, .int (nI (n1 + n2))), (0, .ref q1), (1, .ref q2), (2, .int (b2i z0))]) (st' := [.ref q2, .int (b2i (m1 (2 * i + 0))), .int ((2 * (nI j)) + 1), .ref cb]) hl bkX2_combined_157_158 rfl (fun ls hl => ?_)
            refine z_get B ciX2 1 (by decide) ochE1 wd_F_X2_15 rfl dX2_combined_158 ?_
            refine pb_blk B.hx B.hb (lv' := [(12, .int 1), (11, .int 0), (10, .int 1), (9, .int (nI j)), (8, .int (nI j)), (7, .int (nI k)), (6, .int (nI i)), (5, .ref cb), (4, .ref s.heap.size), (3, .int (nI (n1 + n2))), (0, .ref q1), (1, .ref q2), (2, .int (b2i z0))]) (st' := [.int ((2 * (nI k)) + 1), .ref ca2, .int (b2i (m1 (2 * i + 0))), .int ((2 * (nI j)) + 1), .ref cb]) hl bkX2_combined_161_168 rfl (fun ls hl => ?_)
            rw [ix1 k]
            refine z_zald B ac2.2 (vp_in_nI (show 2 * k + 1 < 2 * n2 + 1 by omega) (by omega)) (v := .int (b2i (m2 (2 * k + 1)))) (by rw [nI_clamp (by omega)]; exact hg2 _ (by omega)) dX2_combined_168 ?_
            refine pb_blk B.hx B.hb (lv' := [(12, .int 1), (11, .int 0), (10, .int 1), (9, .int (nI j)), (8, .int (nI j)), (7, .int (nI k)), (6, .int (nI i)), (5, .ref cb), (4, .ref s.heap.size), (3, .int (nI (n1 + n2))), (0, .ref q1), (1, .ref q2), (2, .int (b2i z0))]) (st' := [.int (b2i z0), .int (b2i (m2 (2 * k + 1))), .int (b2i (m1 (2 * i + 0))), .int ((2 * (nI j)) + 1), .ref cb]) hl bkX2_combined_169_170 rfl (fun ls hl => ?_)
            refine n_callS B (c_X2_decided l G A (m1 (2 * i + 0)) (m2 (2 * k + 1)) z0) cy_X2_decided st_X2_decided wd_M_X2_32 trivial rfl hl.1 rfl (Nat.le_of_ble_eq_true rfl) ⟨by decide, by decide⟩ ⟨(by (try dsimp only); omega), (by (try dsimp only); omega)⟩ dX2_combined_170 (fun v hv => ?_)
            rw [po_X2_decided] at hv
            subst hv
            rw [ix1 j]
            refine z_zast B hfz (vp_in_nI (show 2 * j + 1 < 2 * (n1 + n2) + 1 by omega) (by omega)) (b2i_n _) dX2_combined_173 (fun J2 v2 y2 p2a => ?_)
            rw [nI_clamp (by omega)] at v2
            refine z_forget hcb ?_
            have hz2 : ZrM G J2 cb (2 * (n1 + n2) + 1) (2 * j + 2) (mgb z0 n1 p1 m1 n2 p2 m2) := ZrM.put hfzs v2 (fun t g2 g3 => ⟨by omega, rfl⟩) (fun _ => by rw [mgb_o, hI, hKk, ho3]; rfl)
            obtain ⟨fz, hfz, hfzs⟩ := id hz2
            have hr2 := hr1.oth y2 p2a (show s.heap.size ≠ cb by omega) (Or.inr rfl)
            have hE2 := hE1.put y2 p2a hcb
            refine pb_blk B.hx B.hb (lv' := [(7, .int ((nI k) + 1)), (6, .int ((nI i) + 0)), (12, .int 1), (11, .int 0), (10, .int 1), (9, .int (nI j)), (8, .int (nI j)), (5, .ref cb), (4, .ref s.heap.size), (3, .int (nI (n1 + n2))), (0, .ref q1), (1, .ref q2), (2, .int (b2i z0))]) (st' := []) hl bkX2_combined_174_188 rfl (fun ls hl => ?_)
            rw [niz i, nI_1 k] at hl
            have emhE2 := hE2.mv A
            have oahE2 := ob1.mv emhE2
            have ochE2 := ob2.mv emhE2
            have ac1 := az1.mv emhE2
            have ac2 := az2.mv emhE2
            refine pb_blk B.hx B.hb (lv' := [(7, .int (nI (k + 1))), (6, .int (nI (i + 0))), (12, .int 1), (11, .int 0), (10, .int 1), (9, .int (nI j)), (8, .int (nI j)), (5, .ref cb), (4, .ref s.heap.size), (3, .int (nI (n1 + n2))), (0, .ref q1), (1, .ref q2), (2, .int (b2i z0))]) (st' := [.ref q1, .int ((2 * (nI j)) + 2), .ref cb]) hl bkX2_combined_188_197 rfl (fun ls hl => ?_)
            refine z_get B ciX2 1 (by decide) oahE2 wd_F_X2_15 rfl dX2_combined_197 ?_
            refine pb_blk B.hx B.hb (lv' := [(7, .int (nI (k + 1))), (6, .int (nI (i + 0))), (12, .int 1), (11, .int 0), (10, .int 1), (9, .int (nI j)), (8, .int (nI j)), (5, .ref cb), (4, .ref s.heap.size), (3, .int (nI (n1 + n2))), (0, .ref q1), (1, .ref q2), (2, .int (b2i z0))]) (st' := [.int (2 * (nI (i + 0))), .ref ca1, .int ((2 * (nI j)) + 2), .ref cb]) hl bkX2_combined_200_204 rfl (fun ls hl => ?_)
            rw [ix0 (i + 0)]
            refine z_zald B ac1.2 (vp_in_nI (show 2 * (i + 0) < 2 * n1 + 1 by omega) (by omega)) (v := .int (b2i (m1 (2 * (i + 0))))) (by rw [nI_clamp (by omega)]; exact hg1 _ (by omega)) dX2_combined_204 ?_
            refine pb_blk B.hx B.hb (lv' := [(7, .int (nI (k + 1))), (6, .int (nI (i + 0))), (12, .int 1), (11, .int 0), (10, .int 1), (9, .int (nI j)), (8, .int (nI j)), (5, .ref cb), (4, .ref s.heap.size), (3, .int (nI (n1 + n2))), (0, .ref q1), (1, .ref q2), (2, .int (b2i z0))]) (st' := [.ref q2, .int (b2i (m1 (2 * (i + 0)))), .int ((2 * (nI j)) + 2), .ref cb]) hl bkX2_combined_205_206 rfl (fun ls hl => ?_)
            refine z_get B ciX2 1 (by decide) ochE2 wd_F_X2_15 rfl dX2_combined_206 ?_
            refine pb_blk B.hx B.hb (lv' := [(7, .int (nI (k + 1))), (6, .int (nI (i + 0))), (12, .int 1), (11, .int 0), (10, .int 1), (9, .int (nI j)), (8, .int (nI j)), (5, .ref cb), (4, .ref s.heap.size), (3, .int (nI (n1 + n2))), (0, .ref q1), (1, .ref q2), (2, .int (b2i z0))]) (st' := [.int (2 * (nI (k + 1))), .ref ca2, .int (b2i (m1 (2 * (i + 0)))), .int ((2 * (nI j)) + 2), .ref cb]) hl bkX2_combined_209_213 rfl (fun ls hl => ?_)
            rw [ix0 (k + 1)]
            refine z_zald B ac2.2 (vp_in_nI (show 2 * (k + 1) < 2 * n2 + 1 by omega) (by omega)) (v := .int (b2i (m2 (2 * (k + 1))))) (by rw [nI_clamp (by omega)]; exact hg2 _ (by omega)) dX2_combined_213 ?_
            refine pb_blk B.hx B.hb (lv' := [(7, .int (nI (k + 1))), (6, .int (nI (i + 0))), (12, .int 1), (11, .int 0), (10, .int 1), (9, .int (nI j)), (8, .int (nI j)), (5, .ref cb), (4, .ref s.heap.size), (3, .int (nI (n1 + n2))), (0, .ref q1), (1, .ref q2), (2, .int (b2i z0))]) (st' := [.int (b2i z0), .int (b2i (m2 (2 * (k + 1)))), .int (b2i (m1 (2 * (i + 0)))), .int ((2 * (nI j)) + 2), .ref cb]) hl bkX2_combined_214_215 rfl (fun ls hl => ?_)
            refine n_callS B (c_X2_decided l G A (m1 (2 * (i + 0))) (m2 (2 * (k + 1))) z0) cy_X2_decided st_X2_decided wd_M_X2_32 trivial rfl hl.1 rfl (Nat.le_of_ble_eq_true rfl) ⟨by decide, by decide⟩ ⟨(by (try dsimp only); omega), (by (try dsimp only); omega)⟩ dX2_combined_215 (fun v hv => ?_)
            rw [po_X2_decided] at hv
            subst hv
            rw [ix2 j]
            refine z_zast B hfz (vp_in_nI (show 2 * j + 2 < 2 * (n1 + n2) + 1 by omega) (by omega)) (b2i_n _) dX2_combined_218 (fun J3 v3 y3 p3a => ?_)
            rw [nI_clamp (by omega)] at v3
            refine z_forget hcb ?_
            have hz3 : ZrM G J3 cb (2 * (n1 + n2) + 1) (2 * (j + 1) + 1) (mgb z0 n1 p1 m1 n2 p2 m2) := ZrM.put hfzs v3 (fun t g2 g3 => ⟨by omega, rfl⟩) (fun _ => by rw [show 2 * j + 2 = 2 * (j + 1) by omega, mgb_e, hA1, hB1])
            have hr3 := hr2.oth y3 p3a (show s.heap.size ≠ cb by omega) (Or.inr rfl)
            refine pb_blk B.hx B.hb (lv' := [(9, .int ((nI j) + 1)), (8, .int ((nI j) + 1)), (7, .int (nI (k + 1))), (6, .int (nI (i + 0))), (12, .int 1), (11, .int 0), (10, .int 1), (5, .ref cb), (4, .ref s.heap.size), (3, .int (nI (n1 + n2))), (0, .ref q1), (1, .ref q2), (2, .int (b2i z0))]) (st' := []) hl bkX2_combined_219_59 rfl (fun ls hl => ?_)
            exact ih (j + 1) J3 ls (by omega) (by omega) (by rw [hA1]; omega) (by rw [hB1]; omega) (by rw [hA1, hB1]; omega) (fun t ht => (Nat.lt_succ_iff_lt_or_eq.mp ht).elim (hmin t) (fun e9 => by rw [e9, hI, hKk]; exact hik)) (hE2.put y3 p3a hcb) hr3 hz3 (by rw [hA1, hB1, ← nI_1]; exact lv_sub hl [0, 1, 2, 3, 7, 8, 9, 10, 11, 12] rfl)
  refine pb_blk B.hx B.hb (lv' := [(0, .ref q1), (1, .ref q2), (2, .int (b2i z0))]) (st' := [.ref q1]) hl bkX2_combined_0_1 rfl (fun ls hl => ?_)
  refine z_get B ciX2 0 (by decide) ob1 wd_F_X2_9 rfl dX2_combined_1 ?_
  refine z_alen B 3 rfl ar1.2 dX2_combined_4 ?_
  refine pb_blk B.hx B.hb (lv' := [(0, .ref q1), (1, .ref q2), (2, .int (b2i z0))]) (st' := [.ref q2, .int (nI n1)]) hl bkX2_combined_5_6 rfl (fun ls hl => ?_)
  refine z_get B ciX2 0 (by decide) ob2 wd_F_X2_9 rfl dX2_combined_6 ?_
  refine z_alen B 3 rfl ar2.2 dX2_combined_9 ?_
  refine pb_blk B.hx B.hb (lv' := [(0, .ref q1), (1, .ref q2), (2, .int (b2i z0))]) (st' := [.int ((nI n1) + (nI n2))]) hl bkX2_combined_10_11 rfl (fun ls hl => ?_)
  rw [nI_add]
  refine pb_blk B.hx B.hb (lv' := [(3, .int (nI (n1 + n2))), (0, .ref q1), (1, .ref q2), (2, .int (b2i z0))]) (st' := [.int (nI (n1 + n2))]) hl bkX2_combined_11_13 rfl (fun ls hl => ?_)
  refine z_newq B 3 rfl wd_C_X2_19 B.hK.2.ao1 (nI_pos (by omega)) (N := n1 + n2) (nI_clamp (by omega)) (by omega) (by (try dsimp only); omega) (by (try dsimp only); omega) dX2_combined_13 (fun H1 w1 z1 o1 => ?_)
  refine pb_blk B.hx B.hb (lv' := [(4, .ref s.heap.size), (3, .int (nI (n1 + n2))), (0, .ref q1), (1, .ref q2), (2, .int (b2i z0))]) (st' := [.int ((2 * (nI (n1 + n2))) + 1)]) hl bkX2_combined_16_23 rfl (fun ls hl => ?_)
  rw [ix1]
  refine z_newa (atype := .boolean) (ty := .boolean) B 2 rfl rfl id wa_Z (nI_pos (by omega)) (N := 2 * (n1 + n2) + 1) (nI_clamp (by omega)) (by show (2 * (n1 + n2) + 1) * 1 ≤ _; omega) (by (try dsimp only); omega) (by (try dsimp only); omega) dX2_combined_23 (fun H2 w2 z2 o2 => ?_)
  have e12 : Ex s.heap H2 := (Ex.one z1 o1).trans (Ex.one z2 o2)
  have em := e12.mv A
  have ob1b := ob1.mv em
  have ob2b := ob2.mv em
  have az1b := az1.mv em
  have az2b := az2.mv em
  refine pb_blk B.hx B.hb (lv' := [(5, .ref H1.size), (4, .ref s.heap.size), (3, .int (nI (n1 + n2))), (0, .ref q1), (1, .ref q2), (2, .int (b2i z0))]) (st' := [.ref q1, .int 0, .ref H1.size]) hl bkX2_combined_25_31 rfl (fun ls hl => ?_)
  refine z_get B ciX2 1 (by decide) ob1b wd_F_X2_15 rfl dX2_combined_31 ?_
  refine pb_blk B.hx B.hb (lv' := [(5, .ref H1.size), (4, .ref s.heap.size), (3, .int (nI (n1 + n2))), (0, .ref q1), (1, .ref q2), (2, .int (b2i z0))]) (st' := [.int 0, .ref ca1, .int 0, .ref H1.size]) hl bkX2_combined_34_35 rfl (fun ls hl => ?_)
  refine z_zald B az1b.2 (vp_in_nI (show 0 < 2 * n1 + 1 by omega) (by omega)) (v := .int (b2i (m1 0))) (by exact hg1 0 (by omega)) dX2_combined_35 ?_
  refine pb_blk B.hx B.hb (lv' := [(5, .ref H1.size), (4, .ref s.heap.size), (3, .int (nI (n1 + n2))), (0, .ref q1), (1, .ref q2), (2, .int (b2i z0))]) (st' := [.ref q2, .int (b2i (m1 0)), .int 0, .ref H1.size]) hl bkX2_combined_36_37 rfl (fun ls hl => ?_)
  refine z_get B ciX2 1 (by decide) ob2b wd_F_X2_15 rfl dX2_combined_37 ?_
  refine pb_blk B.hx B.hb (lv' := [(5, .ref H1.size), (4, .ref s.heap.size), (3, .int (nI (n1 + n2))), (0, .ref q1), (1, .ref q2), (2, .int (b2i z0))]) (st' := [.int 0, .ref ca2, .int (b2i (m1 0)), .int 0, .ref H1.size]) hl bkX2_combined_40_41 rfl (fun ls hl => ?_)
  refine z_zald B az2b.2 (vp_in_nI (show 0 < 2 * n2 + 1 by omega) (by omega)) (v := .int (b2i (m2 0))) (by exact hg2 0 (by omega)) dX2_combined_41 ?_
  refine pb_blk B.hx B.hb (lv' := [(5, .ref H1.size), (4, .ref s.heap.size), (3, .int (nI (n1 + n2))), (0, .ref q1), (1, .ref q2), (2, .int (b2i z0))]) (st' := [.int (b2i z0), .int (b2i (m2 0)), .int (b2i (m1 0)), .int 0, .ref H1.size]) hl bkX2_combined_42_43 rfl (fun ls hl => ?_)
  refine n_callS B (c_X2_decided l G A (m1 0) (m2 0) z0) cy_X2_decided st_X2_decided wd_M_X2_32 trivial rfl hl.1 rfl (Nat.le_of_ble_eq_true rfl) ⟨by decide, by decide⟩ ⟨(by (try dsimp only); omega), (by (try dsimp only); omega)⟩ dX2_combined_43 (fun v hv => ?_)
  rw [po_X2_decided] at hv
  subst hv
  refine z_zast B w2 (vp_in_nI (show 0 < 2 * (n1 + n2) + 1 by omega) (by omega)) (b2i_n _) dX2_combined_46 (fun H3 w3 z3 o3 => ?_)
  refine z_forget (by show s.heap.size ≤ H1.size; omega) ?_
  refine pb_blk B.hx B.hb (lv' := [(9, .int 0), (8, .int 0), (7, .int 0), (6, .int 0), (5, .ref H1.size), (4, .ref s.heap.size), (3, .int (nI (n1 + n2))), (0, .ref q1), (1, .ref q2), (2, .int (b2i z0))]) (st' := []) hl bkX2_combined_47_59 rfl (fun ls hl => ?_)
  have hE3 : Ex s.heap H3 := e12.put z3 o3 (by omega)
  have hr : RowM G (Aq A H1.size) H3 s.heap.size (n1 + n2) 0 (mgp n1 p1 n2 p2) := ⟨_, (o3 _ (by omega)).trans ((o2 _ (by omega)).trans w1), fun j hj => absurd hj (Nat.not_lt_zero _)⟩
  have hz : ZrM G H3 H1.size (2 * (n1 + n2) + 1) (2 * 0 + 1) (mgb z0 n1 p1 m1 n2 p2 m2) := ⟨_, w3, fun j hj => by rw [show j = 0 from Nat.lt_one_iff.mp hj]; exact updV_at⟩
  refine W.widen (k := 2) (n := 3 * (n1 + n2) + 1) (by (try dsimp only); omega) (by (try dsimp only); omega) ?_
  exact loop H1.size (by omega) (n1 + n2 + 1) 0 H3 ls (by omega) (by omega) (by show 0 ≤ n1; omega) (by show 0 ≤ n2; omega) (by show 0 ≤ 0 + 0; omega) (fun i hi => absurd hi (Nat.not_lt_zero _)) hE3 hr hz (lv_sub hl [0, 1, 2, 3, 4, 5, 6, 7, 8, 9] rfl)

