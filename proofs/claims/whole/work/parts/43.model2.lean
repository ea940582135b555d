def hgN (u : Nat → Rat) : Nat → Int32
  | 0 => -1
  | k + 1 => if u k ≠ 0 then nI k else hgN u k
def jm : Nat → Int32
  | 0 => -1
  | k + 1 => nI k
theorem jm_dec (k : Nat) : nI k + (-1) = jm k := by
  cases k with
  | zero => rfl
  | succ k => rw [← nI_1, Int32.add_assoc]; show nI k + (1 + -1) = nI k; rw [show (1 : Int32) + -1 = 0 from rfl, Int32.add_zero]
theorem frx0 {p d : Int64} {r : Rat} (h : Frx p d r) : p = 0 ↔ r = 0 := by
  constructor
  · intro e; exact Rat.num_eq_zero.mp (by rw [← h.1, e]; rfl)
  · intro e; exact i64_eq (by rw [h.1, e]; rfl)

def po_X6_high (G : Gm) (A : Nat → Prop) (mo a0 y0 : Nat) (S : Sc) (ct : Ct) (u : Nat → Rat) : Option Value → Prop := fun v => v = some (.int (hgN u 10))
theorem bkX6_high_0_3 : pb_chk cX6_high 0 [.bipush 9, .istore_n 1] = some 3 := by decide +kernel
theorem bkX6_high_3_4 : pb_chk cX6_high 3 [.iload_n 1] = some 4 := by decide +kernel
theorem dX6_high_4 : decode cX6_high 4 = .ok (.ifCond .lt 17, 3) := by decide +kernel
theorem bkX6_high_21_22 : pb_chk cX6_high 21 [.iload_n 1] = some 22 := by decide +kernel
theorem dX6_high_22 : decode cX6_high 22 = .ok (.ireturn, 1) := by decide +kernel
theorem bkX6_high_7_9 : pb_chk cX6_high 7 [.aload_n 0, .iload_n 1] = some 9 := by decide +kernel
theorem dX6_high_9 : decode cX6_high 9 = .ok (.laload, 1) := by decide +kernel
theorem bkX6_high_10_12 : pb_chk cX6_high 10 [.lconst 0, .lcmp] = some 12 := by decide +kernel
theorem dX6_high_12 : decode cX6_high 12 = .ok (.ifCond .ne 9, 3) := by decide +kernel
theorem bkX6_high_15_3 : pb_chk cX6_high 15 [.iinc 1 (-1), .goto (-15)] = some 3 := by decide +kernel
set_option maxHeartbeats 4000000 in
set_option maxRecDepth 100000 in
theorem c_X6_high (l : Launch) (G : Gm) (A : Nat → Prop) (mo a0 y0 : Nat) (S : Sc) (ct : Ct) (u : Nat → Rat) (ha1 : 1 ≤ a0) (ha2 : a0 ≤ 17) (hat : tyA a0 = 1) (hal : lenA a0 = 10) (hr : RwL ct a0 y0 10 u) : Mn l yX6_high cX6_high 2 (some .int) (⟨0, 0, 0, 0⟩ : Room) G [.ref (mo + a0)] (fun H => MS G H mo S ct) (po_X6_high G A mo a0 y0 S ct u) := by
  refine of_met (by decide) (Nat.le_of_ble_eq_true rfl) ?_
  intro p e s m below meth c ls B hA hM0 hl
  have hw := Mw.start hM0
  have loop : ∀ (j : Nat) (ls : Array Slot), j ≤ 10 → hgN u 10 = hgN u j → lv_has ls 2 [(1, .int (jm j)), (0, .ref (mo + a0))] → W p l e (⟨0, 0, 0, 0⟩ : Room) s m ([.ref (mo + a0)] : List Value).toArray below meth c s.heap [] 0 0 (MQ below (Qn (po_X6_high G A mo a0 y0 S ct u)) ([.ref (mo + a0)] : List Value).toArray s (⟨0, 0, 0, 0⟩ : Room).cells (⟨0, 0, 0, 0⟩ : Room).slots (fun _ => False)) (F0 m 3 ls []) := by
    intro j
    induction j with
    | zero =>
      intro ls hj he hl
      refine pb_blk B.hx B.hb (lv' := [(1, .int (-1)), (0, .ref (mo + a0))]) (st' := [.int (-1)]) hl bkX6_high_3_4 rfl (fun ls hl => ?_)
      refine lv_if_lt (tgt := 21) B.hx B.hb dX6_high_4 (by decide) (fun h1 => ?_) (fun h1 => ?_)
      · refine pb_blk B.hx B.hb (lv' := [(1, .int (-1)), (0, .ref (mo + a0))]) (st' := [.int (-1)]) hl bkX6_high_21_22 rfl (fun ls hl => ?_)
        exact n_iret B dX6_high_22 (by rw [po_X6_high, he]; rfl) (Nat.le_refl _) (Nat.le_refl _)
      · exact absurd (show (-1 : Int32) < 0 by decide) h1
    | succ j ih =>
      intro ls hj he hl
      obtain ⟨p0, d0, e1, e2, e3⟩ := hr j (by omega)
      refine pb_blk B.hx B.hb (lv' := [(1, .int (nI j)), (0, .ref (mo + a0))]) (st' := [.int (nI j)]) hl bkX6_high_3_4 rfl (fun ls hl => ?_)
      refine lv_if_lt (tgt := 21) B.hx B.hb dX6_high_4 (by decide) (fun h1 => ?_) (fun h1 => ?_)
      · exact absurd h1 (nI_pos (by omega))
      · refine pb_blk B.hx B.hb (lv' := [(1, .int (nI j)), (0, .ref (mo + a0))]) (st' := [.int (nI j), .ref (mo + a0)]) hl bkX6_high_7_9 rfl (fun ls hl => ?_)
        refine m_lald B hw a0 ha1 ha2 hat (by rw [hal]; exact vp_in_nI (by omega) (by decide)) (v := .long p0) (by rw [nI_clamp (by omega)]; exact e1) dX6_high_9 ?_
        refine pb_blk B.hx B.hb (lv' := [(1, .int (nI j)), (0, .ref (mo + a0))]) (st' := [.int (lg_cmp p0 0)]) hl bkX6_high_10_12 rfl (fun ls hl => ?_)
        refine lv_if_ne (tgt := 21) B.hx B.hb dX6_high_12 (by decide) (fun h2 => ?_) (fun h2 => ?_)
        · have g : u j ≠ 0 := fun q => h2 ((lg_cmp_eq _ _).mpr ((frx0 e3).mpr q))
          refine pb_blk B.hx B.hb (lv' := [(1, .int (nI j)), (0, .ref (mo + a0))]) (st' := [.int (nI j)]) hl bkX6_high_21_22 rfl (fun ls hl => ?_)
          exact n_iret B dX6_high_22 (by rw [po_X6_high, he]; show _ = some (Value.int (if u j ≠ 0 then nI j else hgN u j)); rw [if_pos g]) (Nat.le_refl _) (Nat.le_refl _)
        · have g : u j = 0 := (frx0 e3).mp ((lg_cmp_eq _ _).mp h2)
          refine pb_blk B.hx B.hb (lv' := [(1, .int ((nI j) + (-1))), (0, .ref (mo + a0))]) (st' := []) hl bkX6_high_15_3 rfl (fun ls hl => ?_)
          exact ih ls (by omega) (by rw [he]; show (if u j ≠ 0 then nI j else hgN u j) = _; rw [if_neg (by simp [g])]) (by have h9 := lv_sub hl [0, 1] rfl; rw [jm_dec] at h9; exact h9)
  refine pb_blk B.hx B.hb (lv' := [(1, .int 9), (0, .ref (mo + a0))]) (st' := []) hl bkX6_high_0_3 rfl (fun ls hl => ?_)
  exact loop 10 ls (Nat.le_refl _) rfl (lv_sub hl [0, 1] rfl)

def ext (u : Nat → Rat) : Nat → Rat := fun i => if i < 4 then u i else 0
theorem ax_ty {x : Nat} (h1 : 8 ≤ x) (h2 : x ≤ 15) (h3 : x ≠ 12) (h4 : x ≠ 13) : tyA x = 1 ∧ lenA x = 10 := by
  rcases (show x = 8 ∨ x = 9 ∨ x = 10 ∨ x = 11 ∨ x = 14 ∨ x = 15 by omega) with rfl | rfl | rfl | rfl | rfl | rfl <;> exact ⟨rfl, rfl⟩
theorem RwL.put2 {ct : Ct} {x y k : Nat} {u : Nat → Rat} {p d : Int64} (h : RwL ct x y k u) (hxy : x ≠ y) (hf : Frx p d (u k)) : RwL (va_up (va_up ct x (updV (ct x) k (.long p))) y (updV ((va_up ct x (updV (ct x) k (.long p))) y) k (.long d))) x y (k + 1) u := by
  intro i hi
  rw [va_up_ne _ _ hxy, va_up_self, va_up_self, va_up_ne _ _ hxy.symm]
  by_cases e : i = k
  · subst e; exact ⟨p, d, updV_at, updV_at, hf⟩
  · obtain ⟨p1, d1, e1, e2, e3⟩ := h i (by omega)
    exact ⟨p1, d1, by simp [updV, e, e1], by simp [updV, e, e2], e3⟩
theorem oth2 {ct : Ct} {x y : Nat} {f g : Nat → Value} {a : Nat} (h1 : a ≠ x) (h2 : a ≠ y) : va_up (va_up ct x f) y g a = ct a := by rw [va_up_ne _ _ h2, va_up_ne _ _ h1]
theorem RwL.cg {ct ct' : Ct} {x y n : Nat} {u : Nat → Rat} (h : RwL ct x y n u) (h1 : ct' x = ct x) (h2 : ct' y = ct y) : RwL ct' x y n u := fun i hi => by rw [h1, h2]; exact h i hi
theorem RwL.eq {ct : Ct} {x y n : Nat} {u v : Nat → Rat} (h : RwL ct x y n u) (e : ∀ i, i < n → u i = v i) : RwL ct x y n v := fun i hi => by rw [← e i hi]; exact h i hi
theorem ix4 (a b : Nat) : 4 * nI a + nI b = nI (4 * a + b) := by rw [show (4 : Int32) * nI a = nI (4 * a) from pk_mul 4 a, nI_add]
theorem ix160 (a b : Nat) : 160 * nI a + nI b = nI (160 * a + b) := by rw [show (160 : Int32) * nI a = nI (160 * a) from pk_mul 160 a, nI_add]
theorem ix321 (a b : Nat) : 321 * nI a + nI b = nI (321 * a + b) := by rw [show (321 : Int32) * nI a = nI (321 * a) from pk_mul 321 a, nI_add]

def po_X6_load (mo : Nat) (S : Sc) (ct : Ct) (x y k : Nat) (u : Nat → Rat) : Option Value → Sc → Ct → Prop := fun v S2 ct2 => v = none ∧ S2 = S ∧ RwL ct2 x y 10 (ext u) ∧ ∀ a, a ≠ x → a ≠ y → ct2 a = ct a
theorem bkX6_load_0_3 : pb_chk cX6_load 0 [.iconst 0, .istore 4] = some 3 := by decide +kernel
theorem bkX6_load_3_7 : pb_chk cX6_load 3 [.iload 4, .bipush 10] = some 7 := by decide +kernel
theorem dX6_load_7 : decode cX6_load 7 = .ok (.if_icmp .ge 59, 3) := by decide +kernel
theorem dX6_load_66 : decode cX6_load 66 = .ok (.return_, 1) := by decide +kernel
theorem bkX6_load_10_16 : pb_chk cX6_load 10 [.aload_n 1, .iload 4, .iload 4, .iconst 4] = some 16 := by decide +kernel
theorem dX6_load_16 : decode cX6_load 16 = .ok (.if_icmp .ge 17, 3) := by decide +kernel
theorem bkX6_load_33_34 : pb_chk cX6_load 33 [.lconst 0] = some 34 := by decide +kernel
theorem dX6_load_34 : decode cX6_load 34 = .ok (.lastore, 1) := by decide +kernel
theorem bkX6_load_35_41 : pb_chk cX6_load 35 [.aload_n 2, .iload 4, .iload 4, .iconst 4] = some 41 := by decide +kernel
theorem dX6_load_41 : decode cX6_load 41 = .ok (.if_icmp .ge 17, 3) := by decide +kernel
theorem bkX6_load_58_59 : pb_chk cX6_load 58 [.lconst 1] = some 59 := by decide +kernel
theorem dX6_load_59 : decode cX6_load 59 = .ok (.lastore, 1) := by decide +kernel
theorem bkX6_load_60_3 : pb_chk cX6_load 60 [.iinc 4 1, .goto (-60)] = some 3 := by decide +kernel
theorem bkX6_load_19_20 : pb_chk cX6_load 19 [.aload_n 0] = some 20 := by decide +kernel
theorem dX6_load_20 : decode cX6_load 20 = .ok (.getfield 13, 3) := by decide +kernel
theorem bkX6_load_23_29 : pb_chk cX6_load 23 [.iconst 4, .iload_n 3, .imul, .iload 4, .iadd] = some 29 := by decide +kernel
theorem dX6_load_29 : decode cX6_load 29 = .ok (.laload, 1) := by decide +kernel
theorem bkX6_load_30_34 : pb_chk cX6_load 30 [.goto 4] = some 34 := by decide +kernel
theorem bkX6_load_44_45 : pb_chk cX6_load 44 [.aload_n 0] = some 45 := by decide +kernel
theorem dX6_load_45 : decode cX6_load 45 = .ok (.getfield 17, 3) := by decide +kernel
theorem bkX6_load_48_54 : pb_chk cX6_load 48 [.iconst 4, .iload_n 3, .imul, .iload 4, .iadd] = some 54 := by decide +kernel
theorem dX6_load_54 : decode cX6_load 54 = .ok (.laload, 1) := by decide +kernel
theorem bkX6_load_55_59 : pb_chk cX6_load 55 [.goto 4] = some 59 := by decide +kernel
set_option maxHeartbeats 4000000 in
set_option maxRecDepth 100000 in
theorem c_X6_load (l : Launch) (G : Gm) (mo : Nat) (S : Sc) (ct : Ct) (x y k : Nat) (u : Nat → Rat) (hx1 : 8 ≤ x) (hx2 : x ≤ 11) (hy1 : 8 ≤ y) (hy2 : y ≤ 11) (hxy : x ≠ y) (hk : k < 80) (hf : FoA ct k u) : Mm l yX6_load cX6_load 5 none (⟨0, 0, 0, 0⟩ : Room) G mo S ct [.ref mo, .ref (mo + x), .ref (mo + y), .int (nI k)] (po_X6_load mo S ct x y k u) := by
  refine of_met (by decide) (Nat.le_of_ble_eq_true rfl) ?_
  intro p e s m below meth c ls B hA hM0 hl
  have hw := Mw.start hM0
  have tx := ax_ty hx1 (by omega) (by omega) (by omega)
  have ty := ax_ty hy1 (by omega) (by omega) (by omega)
  have loop : ∀ (n i : Nat) (H : Heap) (locs : List Loc) (ct1 : Ct) (ls : Array Slot), 11 ≤ i + n → i ≤ 10 → Mw G mo s.heap H locs S ct1 → RwL ct1 x y i (ext u) → (∀ a, a ≠ x → a ≠ y → ct1 a = ct a) → lv_has ls 5 [(4, .int (nI i)), (0, .ref mo), (1, .ref (mo + x)), (2, .ref (mo + y)), (3, .int (nI k))] → W p l e (⟨0, 0, 0, 0⟩ : Room) s m ([.ref mo, .ref (mo + x), .ref (mo + y), .int (nI k)] : List Value).toArray below meth c H locs 0 0 (MQ below (Qm G mo (po_X6_load mo S ct x y k u)) ([.ref mo, .ref (mo + x), .ref (mo + y), .int (nI k)] : List Value).toArray s (⟨0, 0, 0, 0⟩ : Room).cells (⟨0, 0, 0, 0⟩ : Room).slots (FM mo)) (F0 m 3 ls []) := by
    intro n
    induction n with
    | zero => intro i H locs ct1 ls h1 h2; omega
    | succ n ih =>
      intro i H locs ct1 ls hn hi hw hr ho hl
      refine pb_blk B.hx B.hb (lv' := [(4, .int (nI i)), (0, .ref mo), (1, .ref (mo + x)), (2, .ref (mo + y)), (3, .int (nI k))]) (st' := [.int 10, .int (nI i)]) hl bkX6_load_3_7 rfl (fun ls hl => ?_)
      refine lv_icmp_ge (tgt := 66) B.hx B.hb dX6_load_7 (by decide) (fun h1 => ?_) (fun h1 => ?_)
      · have e4 : i = 10 := by have := nI_nlt_le (show 10 < 2 ^ 31 by decide) (k2_nlt h1); omega
        exact m_vret B hw dX6_load_66 (by exact ⟨rfl, rfl, by rw [← e4]; exact hr, ho⟩) (Nat.le_of_ble_eq_true rfl) (Nat.le_of_ble_eq_true rfl)
      · have hi4 : i < 10 := (nI_ltI (by omega) (by decide)).mp (k2_lt h1)
        refine pb_blk B.hx B.hb (lv' := [(4, .int (nI i)), (0, .ref mo), (1, .ref (mo + x)), (2, .ref (mo + y)), (3, .int (nI k))]) (st' := [.int 4, .int (nI i), .int (nI i), .ref (mo + x)]) hl bkX6_load_10_16 rfl (fun ls hl => ?_)
        refine lv_icmp_ge (tgt := 33) B.hx B.hb dX6_load_16 (by decide) (fun h2 => ?_) (fun h2 => ?_)
        · have g4 : 4 ≤ i := nI_nlt_le (show 4 < 2 ^ 31 by decide) (k2_nlt h2)
          refine pb_blk B.hx B.hb (lv' := [(4, .int (nI i)), (0, .ref mo), (1, .ref (mo + x)), (2, .ref (mo + y)), (3, .int (nI k))]) (st' := [.long 0, .int (nI i), .ref (mo + x)]) hl bkX6_load_33_34 rfl (fun ls hl => ?_)
          refine m_last B hw x (by omega) (by omega) tx.1 (by rw [tx.2]; exact vp_in_nI (show i < 10 by omega) (by decide)) dX6_load_34 (fun H locs hw => ?_)
          rw [nI_clamp (show i < 2 ^ 31 by omega)] at hw
          refine pb_blk B.hx B.hb (lv' := [(4, .int (nI i)), (0, .ref mo), (1, .ref (mo + x)), (2, .ref (mo + y)), (3, .int (nI k))]) (st' := [.int 4, .int (nI i), .int (nI i), .ref (mo + y)]) hl bkX6_load_35_41 rfl (fun ls hl => ?_)
          refine lv_icmp_ge (tgt := 58) B.hx B.hb dX6_load_41 (by decide) (fun h3 => ?_) (fun h3 => ?_)
          · refine pb_blk B.hx B.hb (lv' := [(4, .int (nI i)), (0, .ref mo), (1, .ref (mo + x)), (2, .ref (mo + y)), (3, .int (nI k))]) (st' := [.long 1, .int (nI i), .ref (mo + y)]) hl bkX6_load_58_59 rfl (fun ls hl => ?_)
            refine m_last B hw y (by omega) (by omega) ty.1 (by rw [ty.2]; exact vp_in_nI (show i < 10 by omega) (by decide)) dX6_load_59 (fun H locs hw => ?_)
            rw [nI_clamp (show i < 2 ^ 31 by omega)] at hw
            refine pb_blk B.hx B.hb (lv' := [(4, .int ((nI i) + 1)), (0, .ref mo), (1, .ref (mo + x)), (2, .ref (mo + y)), (3, .int (nI k))]) (st' := []) hl bkX6_load_60_3 rfl (fun ls hl => ?_)
            exact ih (i + 1) _ _ _ ls (by omega) hi4 hw (hr.put2 hxy (by rw [ext, if_neg (by omega)]; exact frx01)) (fun a g1 g2 => (oth2 g1 g2).trans (ho a g1 g2)) (by rw [← nI_1]; exact lv_sub hl [0, 1, 2, 3, 4] rfl)
          · exact absurd h2 h3
        · have g4 : i < 4 := (nI_ltI (by omega) (by decide)).mp (k2_lt h2)
          obtain ⟨p0, d0, e1, e2, e3⟩ := hf.2 i g4
          refine pb_blk B.hx B.hb (lv' := [(4, .int (nI i)), (0, .ref mo), (1, .ref (mo + x)), (2, .ref (mo + y)), (3, .int (nI k))]) (st' := [.ref mo, .int (nI i), .ref (mo + x)]) hl bkX6_load_19_20 rfl (fun ls hl => ?_)
          refine m_get B hw 3 (by decide) wd_F_X6_13 rfl dX6_load_20 ?_
          refine pb_blk B.hx B.hb (lv' := [(4, .int (nI i)), (0, .ref mo), (1, .ref (mo + x)), (2, .ref (mo + y)), (3, .int (nI k))]) (st' := [.int ((4 * (nI k)) + (nI i)), .ref (mo + 2), .int (nI i), .ref (mo + x)]) hl bkX6_load_23_29 rfl (fun ls hl => ?_)
          rw [ix4]
          refine m_lald B hw 2 (by decide) (by decide) rfl (vp_in_nI (show 4 * k + i < 320 by omega) (by decide)) (v := .long p0) (by rw [nI_clamp (by omega), ho 2 (by omega) (by omega)]; exact e1) dX6_load_29 ?_
          refine pb_blk B.hx B.hb (lv' := [(4, .int (nI i)), (0, .ref mo), (1, .ref (mo + x)), (2, .ref (mo + y)), (3, .int (nI k))]) (st' := [.long p0, .int (nI i), .ref (mo + x)]) hl bkX6_load_30_34 rfl (fun ls hl => ?_)
          refine m_last B hw x (by omega) (by omega) tx.1 (by rw [tx.2]; exact vp_in_nI (show i < 10 by omega) (by decide)) dX6_load_34 (fun H locs hw => ?_)
          rw [nI_clamp (show i < 2 ^ 31 by omega)] at hw
          refine pb_blk B.hx B.hb (lv' := [(4, .int (nI i)), (0, .ref mo), (1, .ref (mo + x)), (2, .ref (mo + y)), (3, .int (nI k))]) (st' := [.int 4, .int (nI i), .int (nI i), .ref (mo + y)]) hl bkX6_load_35_41 rfl (fun ls hl => ?_)
          refine lv_icmp_ge (tgt := 58) B.hx B.hb dX6_load_41 (by decide) (fun h3 => ?_) (fun h3 => ?_)
          · exact absurd h3 h2
          · refine pb_blk B.hx B.hb (lv' := [(4, .int (nI i)), (0, .ref mo), (1, .ref (mo + x)), (2, .ref (mo + y)), (3, .int (nI k))]) (st' := [.ref mo, .int (nI i), .ref (mo + y)]) hl bkX6_load_44_45 rfl (fun ls hl => ?_)
            refine m_get B hw 4 (by decide) wd_F_X6_17 rfl dX6_load_45 ?_
            refine pb_blk B.hx B.hb (lv' := [(4, .int (nI i)), (0, .ref mo), (1, .ref (mo + x)), (2, .ref (mo + y)), (3, .int (nI k))]) (st' := [.int ((4 * (nI k)) + (nI i)), .ref (mo + 3), .int (nI i), .ref (mo + y)]) hl bkX6_load_48_54 rfl (fun ls hl => ?_)
            rw [ix4]
            refine m_lald B hw 3 (by decide) (by decide) rfl (vp_in_nI (show 4 * k + i < 320 by omega) (by decide)) (v := .long d0) (by rw [nI_clamp (by omega), va_up_ne _ _ (show 3 ≠ x by omega), ho 3 (by omega) (by omega)]; exact e2) dX6_load_54 ?_
            refine pb_blk B.hx B.hb (lv' := [(4, .int (nI i)), (0, .ref mo), (1, .ref (mo + x)), (2, .ref (mo + y)), (3, .int (nI k))]) (st' := [.long d0, .int (nI i), .ref (mo + y)]) hl bkX6_load_55_59 rfl (fun ls hl => ?_)
            refine m_last B hw y (by omega) (by omega) ty.1 (by rw [ty.2]; exact vp_in_nI (show i < 10 by omega) (by decide)) dX6_load_59 (fun H locs hw => ?_)
            rw [nI_clamp (show i < 2 ^ 31 by omega)] at hw
            refine pb_blk B.hx B.hb (lv' := [(4, .int ((nI i) + 1)), (0, .ref mo), (1, .ref (mo + x)), (2, .ref (mo + y)), (3, .int (nI k))]) (st' := []) hl bkX6_load_60_3 rfl (fun ls hl => ?_)
            exact ih (i + 1) _ _ _ ls (by omega) hi4 hw (hr.put2 hxy (by rw [ext, if_pos g4]; exact e3)) (fun a g1 g2 => (oth2 g1 g2).trans (ho a g1 g2)) (by rw [← nI_1]; exact lv_sub hl [0, 1, 2, 3, 4] rfl)
  refine pb_blk B.hx B.hb (lv' := [(4, .int 0), (0, .ref mo), (1, .ref (mo + x)), (2, .ref (mo + y)), (3, .int (nI k))]) (st' := []) hl bkX6_load_0_3 rfl (fun ls hl => ?_)
  exact loop 11 0 s.heap [] ct ls (by omega) (by omega) hw (fun i hi => absurd hi (Nat.not_lt_zero _)) (fun _ _ _ => rfl) (lv_sub hl [0, 1, 2, 3, 4] rfl)

def po_X6_clear (mo : Nat) (S : Sc) (ct : Ct)  : Option Value → Sc → Ct → Prop := fun v S2 ct2 => v = none ∧ S2 = S ∧ RwL ct2 8 9 10 (fun _ => 0) ∧ ∀ a, a ≠ 8 → a ≠ 9 → ct2 a = ct a
theorem bkX6_clear_0_2 : pb_chk cX6_clear 0 [.iconst 0, .istore_n 1] = some 2 := by decide +kernel
theorem bkX6_clear_2_5 : pb_chk cX6_clear 2 [.iload_n 1, .bipush 10] = some 5 := by decide +kernel
theorem dX6_clear_5 : decode cX6_clear 5 = .ok (.if_icmp .ge 23, 3) := by decide +kernel
theorem dX6_clear_28 : decode cX6_clear 28 = .ok (.return_, 1) := by decide +kernel
theorem bkX6_clear_8_9 : pb_chk cX6_clear 8 [.aload_n 0] = some 9 := by decide +kernel
theorem dX6_clear_9 : decode cX6_clear 9 = .ok (.getfield 33, 3) := by decide +kernel
theorem bkX6_clear_12_14 : pb_chk cX6_clear 12 [.iload_n 1, .lconst 0] = some 14 := by decide +kernel
theorem dX6_clear_14 : decode cX6_clear 14 = .ok (.lastore, 1) := by decide +kernel
theorem bkX6_clear_15_16 : pb_chk cX6_clear 15 [.aload_n 0] = some 16 := by decide +kernel
theorem dX6_clear_16 : decode cX6_clear 16 = .ok (.getfield 36, 3) := by decide +kernel
theorem bkX6_clear_19_21 : pb_chk cX6_clear 19 [.iload_n 1, .lconst 1] = some 21 := by decide +kernel
theorem dX6_clear_21 : decode cX6_clear 21 = .ok (.lastore, 1) := by decide +kernel
theorem bkX6_clear_22_2 : pb_chk cX6_clear 22 [.iinc 1 1, .goto (-23)] = some 2 := by decide +kernel
set_option maxHeartbeats 4000000 in
set_option maxRecDepth 100000 in
theorem c_X6_clear (l : Launch) (G : Gm) (mo : Nat) (S : Sc) (ct : Ct)  : Mm l yX6_clear cX6_clear 2 none (⟨0, 0, 0, 0⟩ : Room) G mo S ct [.ref mo] (po_X6_clear mo S ct) := by
  refine of_met (by decide) (Nat.le_of_ble_eq_true rfl) ?_
  intro p e s m below meth c ls B hA hM0 hl
  have hw := Mw.start hM0
  have loop : ∀ (n i : Nat) (H : Heap) (locs : List Loc) (ct1 : Ct) (ls : Array Slot), 11 ≤ i + n → i ≤ 10 → Mw G mo s.heap H locs S ct1 → RwL ct1 8 9 i (fun _ => 0) → (∀ a, a ≠ 8 → a ≠ 9 → ct1 a = ct a) → lv_has ls 2 [(1, .int (nI i)), (0, .ref mo)] → W p l e (⟨0, 0, 0, 0⟩ : Room) s m ([.ref mo] : List Value).toArray below meth c H locs 0 0 (MQ below (Qm G mo (po_X6_clear mo S ct)) ([.ref mo] : List Value).toArray s (⟨0, 0, 0, 0⟩ : Room).cells (⟨0, 0, 0, 0⟩ : Room).slots (FM mo)) (F0 m 2 ls []) := by
    intro n
    induction n with
    | zero => intro i H locs ct1 ls h1 h2; omega
    | succ n ih =>
      intro i H locs ct1 ls hn hi hw hr ho hl
      refine pb_blk B.hx B.hb (lv' := [(1, .int (nI i)), (0, .ref mo)]) (st' := [.int 10, .int (nI i)]) hl bkX6_clear_2_5 rfl (fun ls hl => ?_)
      refine lv_icmp_ge (tgt := 28) B.hx B.hb dX6_clear_5 (by decide) (fun h1 => ?_) (fun h1 => ?_)
      · have e4 : i = 10 := by have := nI_nlt_le (show 10 < 2 ^ 31 by decide) (k2_nlt h1); omega
        exact m_vret B hw dX6_clear_28 (by exact ⟨rfl, rfl, by rw [← e4]; exact hr, ho⟩) (Nat.le_of_ble_eq_true rfl) (Nat.le_of_ble_eq_true rfl)
      · have hi4 : i < 10 := (nI_ltI (by omega) (by decide)).mp (k2_lt h1)
        refine pb_blk B.hx B.hb (lv' := [(1, .int (nI i)), (0, .ref mo)]) (st' := [.ref mo]) hl bkX6_clear_8_9 rfl (fun ls hl => ?_)
        refine m_get B hw 9 (by decide) wd_F_X6_33 rfl dX6_clear_9 ?_
        refine pb_blk B.hx B.hb (lv' := [(1, .int (nI i)), (0, .ref mo)]) (st' := [.long 0, .int (nI i), .ref (mo + 8)]) hl bkX6_clear_12_14 rfl (fun ls hl => ?_)
        refine m_last B hw 8 (by decide) (by decide) rfl (vp_in_nI (show i < 10 by omega) (by decide)) dX6_clear_14 (fun H locs hw => ?_)
        rw [nI_clamp (show i < 2 ^ 31 by omega)] at hw
        refine pb_blk B.hx B.hb (lv' := [(1, .int (nI i)), (0, .ref mo)]) (st' := [.ref mo]) hl bkX6_clear_15_16 rfl (fun ls hl => ?_)
        refine m_get B hw 10 (by decide) wd_F_X6_36 rfl dX6_clear_16 ?_
        refine pb_blk B.hx B.hb (lv' := [(1, .int (nI i)), (0, .ref mo)]) (st' := [.long 1, .int (nI i), .ref (mo + 9)]) hl bkX6_clear_19_21 rfl (fun ls hl => ?_)
        refine m_last B hw 9 (by decide) (by decide) rfl (vp_in_nI (show i < 10 by omega) (by decide)) dX6_clear_21 (fun H locs hw => ?_)
        rw [nI_clamp (show i < 2 ^ 31 by omega)] at hw
        refine pb_blk B.hx B.hb (lv' := [(1, .int ((nI i) + 1)), (0, .ref mo)]) (st' := []) hl bkX6_clear_22_2 rfl (fun ls hl => ?_)
        exact ih (i + 1) _ _ _ ls (by omega) hi4 hw (hr.put2 (by decide) frx01) (fun a g1 g2 => (oth2 g1 g2).trans (ho a g1 g2)) (by rw [← nI_1]; exact lv_sub hl [0, 1] rfl)
  refine pb_blk B.hx B.hb (lv' := [(1, .int 0), (0, .ref mo)]) (st' := []) hl bkX6_clear_0_2 rfl (fun ls hl => ?_)
  exact loop 11 0 s.heap [] ct ls (by omega) (by omega) hw (fun i hi => absurd hi (Nat.not_lt_zero _)) (fun _ _ _ => rfl) (lv_sub hl [0, 1] rfl)

def po_X6_mark (G : Gm) (A : Nat → Prop) (mo : Nat) (S : Sc) (ct : Ct) (s0 k0 : Nat) (b : Bool) : Option Value → Prop := fun v => v = some (.int (b2i b))
theorem bkX6_mark_0_1 : pb_chk cX6_mark 0 [.aload_n 0] = some 1 := by decide +kernel
theorem dX6_mark_1 : decode cX6_mark 1 = .ok (.getfield 29, 3) := by decide +kernel
theorem bkX6_mark_4_11 : pb_chk cX6_mark 4 [.sipush 321, .iload_n 1, .imul, .iload_n 2, .iadd] = some 11 := by decide +kernel
theorem dX6_mark_11 : decode cX6_mark 11 = .ok (.baload, 1) := by decide +kernel
theorem dX6_mark_12 : decode cX6_mark 12 = .ok (.ireturn, 1) := by decide +kernel
set_option maxHeartbeats 4000000 in
set_option maxRecDepth 100000 in
theorem c_X6_mark (l : Launch) (G : Gm) (A : Nat → Prop) (mo : Nat) (S : Sc) (ct : Ct) (s0 k0 : Nat) (b : Bool) (hk : 321 * s0 + k0 < 26322) (hb : ct 7 (321 * s0 + k0) = .int (b2i b)) : Mn l yX6_mark cX6_mark 3 (some .boolean) (⟨0, 0, 0, 0⟩ : Room) G [.ref mo, .int (nI s0), .int (nI k0)] (fun H => MS G H mo S ct) (po_X6_mark G A mo S ct s0 k0 b) := by
  refine of_met (by decide) (Nat.le_of_ble_eq_true rfl) ?_
  intro p e s m below meth c ls B hA hM0 hl
  have hw := Mw.start hM0
  refine pb_blk B.hx B.hb (lv' := [(0, .ref mo), (1, .int (nI s0)), (2, .int (nI k0))]) (st' := [.ref mo]) hl bkX6_mark_0_1 rfl (fun ls hl => ?_)
  refine m_get B hw 8 (by decide) wd_F_X6_29 rfl dX6_mark_1 ?_
  refine pb_blk B.hx B.hb (lv' := [(0, .ref mo), (1, .int (nI s0)), (2, .int (nI k0))]) (st' := [.int ((321 * (nI s0)) + (nI k0)), .ref (mo + 7)]) hl bkX6_mark_4_11 rfl (fun ls hl => ?_)
  rw [ix321]
  refine m_zald B hw 7 (by decide) (by decide) rfl (vp_in_nI (show 321 * s0 + k0 < 26322 by omega) (by decide)) (v := .int (b2i b)) (by rw [nI_clamp (by omega)]; exact hb) dX6_mark_11 ?_
  exact n_zret B dX6_mark_12 (b2i_n _) rfl (Nat.le_refl _) (Nat.le_refl _)

def po_X6_signBefore (G : Gm) (A : Nat → Prop) (mo : Nat) (S : Sc) (ct : Ct) (r : Nat) (be : Int32) : Option Value → Prop := fun v => v = some (.int (if r % 2 = 0 then be else -be))
theorem bkX6_signBefore_0_2 : pb_chk cX6_signBefore 0 [.iload_n 1, .iconst 2] = some 2 := by decide +kernel
theorem dX6_signBefore_2 : decode cX6_signBefore 2 = .ok (.irem, 1) := by decide +kernel
theorem dX6_signBefore_3 : decode cX6_signBefore 3 = .ok (.ifCond .ne 10, 3) := by decide +kernel
theorem bkX6_signBefore_13_14 : pb_chk cX6_signBefore 13 [.aload_n 0] = some 14 := by decide +kernel
theorem dX6_signBefore_14 : decode cX6_signBefore 14 = .ok (.getfield 145, 3) := by decide +kernel
theorem bkX6_signBefore_17_18 : pb_chk cX6_signBefore 17 [.ineg] = some 18 := by decide +kernel
theorem dX6_signBefore_18 : decode cX6_signBefore 18 = .ok (.ireturn, 1) := by decide +kernel
theorem bkX6_signBefore_6_7 : pb_chk cX6_signBefore 6 [.aload_n 0] = some 7 := by decide +kernel
theorem dX6_signBefore_7 : decode cX6_signBefore 7 = .ok (.getfield 145, 3) := by decide +kernel
theorem bkX6_signBefore_10_18 : pb_chk cX6_signBefore 10 [.goto 8] = some 18 := by decide +kernel
set_option maxHeartbeats 4000000 in
set_option maxRecDepth 100000 in
theorem c_X6_signBefore (l : Launch) (G : Gm) (A : Nat → Prop) (mo : Nat) (S : Sc) (ct : Ct) (r : Nat) (be : Int32) (hr : r < 100) (hS8 : S 18 = .int be) : Mn l yX6_signBefore cX6_signBefore 2 (some .int) (⟨0, 0, 0, 0⟩ : Room) G [.ref mo, .int (nI r)] (fun H => MS G H mo S ct) (po_X6_signBefore G A mo S ct r be) := by
  refine of_met (by decide) (Nat.le_of_ble_eq_true rfl) ?_
  intro p e s m below meth c ls B hA hM0 hl
  have hw := Mw.start hM0
  refine pb_blk B.hx B.hb (lv' := [(0, .ref mo), (1, .int (nI r))]) (st' := [.int 2, .int (nI r)]) hl bkX6_signBefore_0_2 rfl (fun ls hl => ?_)
  refine lv_irem B.hx B.hb dX6_signBefore_2 (by decide) ?_
  rw [show nI r - nI r / 2 * 2 = nI (r % 2) from pk_rem (a := r) (d := 2) (by omega) (by decide) (by decide)]
  refine lv_if_ne (tgt := 13) B.hx B.hb dX6_signBefore_3 (by decide) (fun h1 => ?_) (fun h1 => ?_)
  · have e : ¬ r % 2 = 0 := fun q => h1 (by rw [q]; rfl)
    refine pb_blk B.hx B.hb (lv' := [(0, .ref mo), (1, .int (nI r))]) (st' := [.ref mo]) hl bkX6_signBefore_13_14 rfl (fun ls hl => ?_)
    refine m_get B hw 18 (by decide) wd_F_X6_145 (congrArg some hS8) dX6_signBefore_14 ?_
    refine pb_blk B.hx B.hb (lv' := [(0, .ref mo), (1, .int (nI r))]) (st' := [.int (-be)]) hl bkX6_signBefore_17_18 rfl (fun ls hl => ?_)
    exact n_iret B dX6_signBefore_18 (by rw [po_X6_signBefore, if_neg e]) (Nat.le_refl _) (Nat.le_refl _)
  · have e : r % 2 = 0 := (nI_eq (by omega) (by decide)).mp h1
    refine pb_blk B.hx B.hb (lv' := [(0, .ref mo), (1, .int (nI r))]) (st' := [.ref mo]) hl bkX6_signBefore_6_7 rfl (fun ls hl => ?_)
    refine m_get B hw 18 (by decide) wd_F_X6_145 (congrArg some hS8) dX6_signBefore_7 ?_
    refine pb_blk B.hx B.hb (lv' := [(0, .ref mo), (1, .int (nI r))]) (st' := [.int be]) hl bkX6_signBefore_10_18 rfl (fun ls hl => ?_)
    exact n_iret B dX6_signBefore_18 (by rw [po_X6_signBefore, if_pos e]) (Nat.le_refl _) (Nat.le_refl _)

def po_X6_is (G : Gm) (A : Nat → Prop) (sg op : Int32) : Option Value → Prop := fun v => v = some (.int (b2i (chB op sg)))
theorem bkX6_is_0_1 : pb_chk cX6_is 0 [.iload_n 1] = some 1 := by decide +kernel
theorem dX6_is_1 : decode cX6_is 1 = .ok (.ifCond .ne 15, 3) := by decide +kernel
theorem bkX6_is_16_18 : pb_chk cX6_is 16 [.iload_n 1, .iconst 1] = some 18 := by decide +kernel
theorem dX6_is_18 : decode cX6_is 18 = .ok (.if_icmp .ne 15, 3) := by decide +kernel
theorem bkX6_is_33_34 : pb_chk cX6_is 33 [.iload_n 0] = some 34 := by decide +kernel
theorem dX6_is_34 : decode cX6_is 34 = .ok (.ifCond .gt 7, 3) := by decide +kernel
theorem bkX6_is_41_42 : pb_chk cX6_is 41 [.iconst 0] = some 42 := by decide +kernel
theorem dX6_is_42 : decode cX6_is 42 = .ok (.ireturn, 1) := by decide +kernel
theorem bkX6_is_37_42 : pb_chk cX6_is 37 [.iconst 1, .goto 4] = some 42 := by decide +kernel
theorem bkX6_is_21_22 : pb_chk cX6_is 21 [.iload_n 0] = some 22 := by decide +kernel
theorem dX6_is_22 : decode cX6_is 22 = .ok (.ifCond .ge 7, 3) := by decide +kernel
theorem bkX6_is_29_42 : pb_chk cX6_is 29 [.iconst 0, .goto 12] = some 42 := by decide +kernel
theorem bkX6_is_25_42 : pb_chk cX6_is 25 [.iconst 1, .goto 16] = some 42 := by decide +kernel
theorem bkX6_is_4_5 : pb_chk cX6_is 4 [.iload_n 0] = some 5 := by decide +kernel
theorem dX6_is_5 : decode cX6_is 5 = .ok (.ifCond .ne 7, 3) := by decide +kernel
theorem bkX6_is_12_42 : pb_chk cX6_is 12 [.iconst 0, .goto 29] = some 42 := by decide +kernel
theorem bkX6_is_8_42 : pb_chk cX6_is 8 [.iconst 1, .goto 33] = some 42 := by decide +kernel
set_option maxHeartbeats 4000000 in
set_option maxRecDepth 100000 in
theorem c_X6_is (l : Launch) (G : Gm) (A : Nat → Prop) (sg op : Int32) : Mn l yX6_is cX6_is 2 (some .boolean) (⟨0, 0, 0, 0⟩ : Room) G [.int sg, .int op] (fun _ => True) (po_X6_is G A sg op) := by
  refine of_met (by decide) (Nat.le_of_ble_eq_true rfl) ?_
  intro p e s m below meth c ls B hA _ hl
  refine pb_blk B.hx B.hb (lv' := [(0, .int sg), (1, .int op)]) (st' := [.int op]) hl bkX6_is_0_1 rfl (fun ls hl => ?_)
  refine lv_if_ne (tgt := 16) B.hx B.hb dX6_is_1 (by decide) (fun h2 => ?_) (fun h2 => ?_)
  · refine pb_blk B.hx B.hb (lv' := [(0, .int sg), (1, .int op)]) (st' := [.int 1, .int op]) hl bkX6_is_16_18 rfl (fun ls hl => ?_)
    refine lv_icmp_ne (tgt := 33) B.hx B.hb dX6_is_18 (by decide) (fun h4 => ?_) (fun h4 => ?_)
    · refine pb_blk B.hx B.hb (lv' := [(0, .int sg), (1, .int op)]) (st' := [.int sg]) hl bkX6_is_33_34 rfl (fun ls hl => ?_)
      refine lv_if_gt (tgt := 41) B.hx B.hb dX6_is_34 (by decide) (fun h3 => ?_) (fun h3 => ?_)
      · have e0 : chB op sg = false := by rw [chB, if_neg h2, if_neg h4, decide_eq_false (k4_nle h3)]
        refine pb_blk B.hx B.hb (lv' := [(0, .int sg), (1, .int op)]) (st' := [.int 0]) hl bkX6_is_41_42 rfl (fun ls hl => ?_)
        exact n_zret B dX6_is_42 rfl (by rw [po_X6_is, e0]; rfl) (Nat.le_refl _) (Nat.le_refl _)
      · have e0 : chB op sg = true := by rw [chB, if_neg h2, if_neg h4, decide_eq_true (k4_le h3)]
        refine pb_blk B.hx B.hb (lv' := [(0, .int sg), (1, .int op)]) (st' := [.int 1]) hl bkX6_is_37_42 rfl (fun ls hl => ?_)
        exact n_zret B dX6_is_42 rfl (by rw [po_X6_is, e0]; rfl) (Nat.le_refl _) (Nat.le_refl _)
    · refine pb_blk B.hx B.hb (lv' := [(0, .int sg), (1, .int op)]) (st' := [.int sg]) hl bkX6_is_21_22 rfl (fun ls hl => ?_)
      refine lv_if_ge (tgt := 29) B.hx B.hb dX6_is_22 (by decide) (fun h3 => ?_) (fun h3 => ?_)
      · have e0 : chB op sg = false := by rw [chB, if_neg h2, if_pos h4, decide_eq_false (k2_nlt h3)]
        refine pb_blk B.hx B.hb (lv' := [(0, .int sg), (1, .int op)]) (st' := [.int 0]) hl bkX6_is_29_42 rfl (fun ls hl => ?_)
        exact n_zret B dX6_is_42 rfl (by rw [po_X6_is, e0]; rfl) (Nat.le_refl _) (Nat.le_refl _)
      · have e0 : chB op sg = true := by rw [chB, if_neg h2, if_pos h4, decide_eq_true (k2_lt h3)]
        refine pb_blk B.hx B.hb (lv' := [(0, .int sg), (1, .int op)]) (st' := [.int 1]) hl bkX6_is_25_42 rfl (fun ls hl => ?_)
        exact n_zret B dX6_is_42 rfl (by rw [po_X6_is, e0]; rfl) (Nat.le_refl _) (Nat.le_refl _)
  · refine pb_blk B.hx B.hb (lv' := [(0, .int sg), (1, .int op)]) (st' := [.int sg]) hl bkX6_is_4_5 rfl (fun ls hl => ?_)
    refine lv_if_ne (tgt := 12) B.hx B.hb dX6_is_5 (by decide) (fun h3 => ?_) (fun h3 => ?_)
    · have e0 : chB op sg = false := by rw [chB, if_pos h2, decide_eq_false h3]
      refine pb_blk B.hx B.hb (lv' := [(0, .int sg), (1, .int op)]) (st' := [.int 0]) hl bkX6_is_12_42 rfl (fun ls hl => ?_)
      exact n_zret B dX6_is_42 rfl (by rw [po_X6_is, e0]; rfl) (Nat.le_refl _) (Nat.le_refl _)
    · have e0 : chB op sg = true := by rw [chB, if_pos h2, decide_eq_true h3]
      refine pb_blk B.hx B.hb (lv' := [(0, .int sg), (1, .int op)]) (st' := [.int 1]) hl bkX6_is_8_42 rfl (fun ls hl => ?_)
      exact n_zret B dX6_is_42 rfl (by rw [po_X6_is, e0]; rfl) (Nat.le_refl _) (Nat.le_refl _)

def jnB (how : Nat) (x y : Bool) : Bool := if how = 0 then x && y else if how = 1 then x || y else !x

def po_X6_joined (G : Gm) (A : Nat → Prop) (x y : Bool) (how : Nat) : Option Value → Prop := fun v => v = some (.int (b2i (jnB how x y)))
theorem bkX6_joined_0_1 : pb_chk cX6_joined 0 [.iload_n 2] = some 1 := by decide +kernel
theorem dX6_joined_1 : decode cX6_joined 1 = .ok (.ifCond .ne 19, 3) := by decide +kernel
theorem bkX6_joined_20_22 : pb_chk cX6_joined 20 [.iload_n 2, .iconst 1] = some 22 := by decide +kernel
theorem dX6_joined_22 : decode cX6_joined 22 = .ok (.if_icmp .ne 19, 3) := by decide +kernel
theorem bkX6_joined_41_42 : pb_chk cX6_joined 41 [.iload_n 0] = some 42 := by decide +kernel
theorem dX6_joined_42 : decode cX6_joined 42 = .ok (.ifCond .ne 7, 3) := by decide +kernel
theorem bkX6_joined_49_50 : pb_chk cX6_joined 49 [.iconst 0] = some 50 := by decide +kernel
theorem dX6_joined_50 : decode cX6_joined 50 = .ok (.ireturn, 1) := by decide +kernel
theorem bkX6_joined_45_50 : pb_chk cX6_joined 45 [.iconst 1, .goto 4] = some 50 := by decide +kernel
theorem bkX6_joined_25_26 : pb_chk cX6_joined 25 [.iload_n 0] = some 26 := by decide +kernel
theorem dX6_joined_26 : decode cX6_joined 26 = .ok (.ifCond .ne 7, 3) := by decide +kernel
theorem bkX6_joined_33_50 : pb_chk cX6_joined 33 [.iconst 1, .goto 16] = some 50 := by decide +kernel
theorem bkX6_joined_29_30 : pb_chk cX6_joined 29 [.iload_n 1] = some 30 := by decide +kernel
theorem dX6_joined_30 : decode cX6_joined 30 = .ok (.ifCond .eq 7, 3) := by decide +kernel
theorem bkX6_joined_37_50 : pb_chk cX6_joined 37 [.iconst 0, .goto 12] = some 50 := by decide +kernel
theorem bkX6_joined_4_5 : pb_chk cX6_joined 4 [.iload_n 0] = some 5 := by decide +kernel
theorem dX6_joined_5 : decode cX6_joined 5 = .ok (.ifCond .eq 11, 3) := by decide +kernel
theorem bkX6_joined_16_50 : pb_chk cX6_joined 16 [.iconst 0, .goto 33] = some 50 := by decide +kernel
theorem bkX6_joined_8_9 : pb_chk cX6_joined 8 [.iload_n 1] = some 9 := by decide +kernel
theorem dX6_joined_9 : decode cX6_joined 9 = .ok (.ifCond .eq 7, 3) := by decide +kernel
theorem bkX6_joined_12_50 : pb_chk cX6_joined 12 [.iconst 1, .goto 37] = some 50 := by decide +kernel
set_option maxHeartbeats 4000000 in
set_option maxRecDepth 100000 in
theorem c_X6_joined (l : Launch) (G : Gm) (A : Nat → Prop) (x y : Bool) (how : Nat) (hh : how < 3) : Mn l yX6_joined cX6_joined 3 (some .boolean) (⟨0, 0, 0, 0⟩ : Room) G [.int (b2i x), .int (b2i y), .int (nI how)] (fun _ => True) (po_X6_joined G A x y how) := by
  refine of_met (by decide) (Nat.le_of_ble_eq_true rfl) ?_
  intro p e s m below meth c ls B hA _ hl
  refine pb_blk B.hx B.hb (lv' := [(0, .int (b2i x)), (1, .int (b2i y)), (2, .int (nI how))]) (st' := [.int (nI how)]) hl bkX6_joined_0_1 rfl (fun ls hl => ?_)
  refine lv_if_ne (tgt := 20) B.hx B.hb dX6_joined_1 (by decide) (fun hw0 => ?_) (fun hw0 => ?_)
  · have k0 : ¬ how = 0 := fun q => hw0 (by rw [q]; rfl)
    refine pb_blk B.hx B.hb (lv' := [(0, .int (b2i x)), (1, .int (b2i y)), (2, .int (nI how))]) (st' := [.int 1, .int (nI how)]) hl bkX6_joined_20_22 rfl (fun ls hl => ?_)
    refine lv_icmp_ne (tgt := 41) B.hx B.hb dX6_joined_22 (by decide) (fun hw1 => ?_) (fun hw1 => ?_)
    · have k1 : ¬ how = 1 := fun q => hw1 (by rw [q]; rfl)
      refine pb_blk B.hx B.hb (lv' := [(0, .int (b2i x)), (1, .int (b2i y)), (2, .int (nI how))]) (st' := [.int (b2i x)]) hl bkX6_joined_41_42 rfl (fun ls hl => ?_)
      refine lv_if_ne (tgt := 49) B.hx B.hb dX6_joined_42 (by decide) (fun hx => ?_) (fun hx => ?_)
      · have ex : x = true := ts9 (fun q => hx ((b2i_0 _).mpr q))
        refine pb_blk B.hx B.hb (lv' := [(0, .int (b2i x)), (1, .int (b2i y)), (2, .int (nI how))]) (st' := [.int 0]) hl bkX6_joined_49_50 rfl (fun ls hl => ?_)
        exact n_zret B dX6_joined_50 rfl (by rw [po_X6_joined, jnB, if_neg k0, if_neg k1, ex]; first | rfl | (cases x <;> rfl) | (cases y <;> rfl)) (Nat.le_refl _) (Nat.le_refl _)
      · have ex : x = false := (b2i_0 _).mp hx
        refine pb_blk B.hx B.hb (lv' := [(0, .int (b2i x)), (1, .int (b2i y)), (2, .int (nI how))]) (st' := [.int 1]) hl bkX6_joined_45_50 rfl (fun ls hl => ?_)
        exact n_zret B dX6_joined_50 rfl (by rw [po_X6_joined, jnB, if_neg k0, if_neg k1, ex]; first | rfl | (cases x <;> rfl) | (cases y <;> rfl)) (Nat.le_refl _) (Nat.le_refl _)
    · have k1 : how = 1 := (nI_eq (by omega) (by decide)).mp hw1
      refine pb_blk B.hx B.hb (lv' := [(0, .int (b2i x)), (1, .int (b2i y)), (2, .int (nI how))]) (st' := [.int (b2i x)]) hl bkX6_joined_25_26 rfl (fun ls hl => ?_)
      refine lv_if_ne (tgt := 33) B.hx B.hb dX6_joined_26 (by decide) (fun hx => ?_) (fun hx => ?_)
      · have ex : x = true := ts9 (fun q => hx ((b2i_0 _).mpr q))
        refine pb_blk B.hx B.hb (lv' := [(0, .int (b2i x)), (1, .int (b2i y)), (2, .int (nI how))]) (st' := [.int 1]) hl bkX6_joined_33_50 rfl (fun ls hl => ?_)
        exact n_zret B dX6_joined_50 rfl (by rw [po_X6_joined, jnB, if_neg k0, if_pos k1, ex]; first | rfl | (cases x <;> rfl) | (cases y <;> rfl)) (Nat.le_refl _) (Nat.le_refl _)
      · have ex : x = false := (b2i_0 _).mp hx
        refine pb_blk B.hx B.hb (lv' := [(0, .int (b2i x)), (1, .int (b2i y)), (2, .int (nI how))]) (st' := [.int (b2i y)]) hl bkX6_joined_29_30 rfl (fun ls hl => ?_)
        refine lv_if_eq (tgt := 37) B.hx B.hb dX6_joined_30 (by decide) (fun hy => ?_) (fun hy => ?_)
        · have ey : y = false := (b2i_0 _).mp hy
          refine pb_blk B.hx B.hb (lv' := [(0, .int (b2i x)), (1, .int (b2i y)), (2, .int (nI how))]) (st' := [.int 0]) hl bkX6_joined_37_50 rfl (fun ls hl => ?_)
          exact n_zret B dX6_joined_50 rfl (by rw [po_X6_joined, jnB, if_neg k0, if_pos k1, ex, ey]; first | rfl | (cases x <;> rfl) | (cases y <;> rfl)) (Nat.le_refl _) (Nat.le_refl _)
        · have ey : y = true := ts9 (fun q => hy ((b2i_0 _).mpr q))
          refine pb_blk B.hx B.hb (lv' := [(0, .int (b2i x)), (1, .int (b2i y)), (2, .int (nI how))]) (st' := [.int 1]) hl bkX6_joined_33_50 rfl (fun ls hl => ?_)
          exact n_zret B dX6_joined_50 rfl (by rw [po_X6_joined, jnB, if_neg k0, if_pos k1, ex, ey]; first | rfl | (cases x <;> rfl) | (cases y <;> rfl)) (Nat.le_refl _) (Nat.le_refl _)
  · have k0 : how = 0 := (nI_eq (by omega) (by decide)).mp hw0
    refine pb_blk B.hx B.hb (lv' := [(0, .int (b2i x)), (1, .int (b2i y)), (2, .int (nI how))]) (st' := [.int (b2i x)]) hl bkX6_joined_4_5 rfl (fun ls hl => ?_)
    refine lv_if_eq (tgt := 16) B.hx B.hb dX6_joined_5 (by decide) (fun hx => ?_) (fun hx => ?_)
    · have ex : x = false := (b2i_0 _).mp hx
      refine pb_blk B.hx B.hb (lv' := [(0, .int (b2i x)), (1, .int (b2i y)), (2, .int (nI how))]) (st' := [.int 0]) hl bkX6_joined_16_50 rfl (fun ls hl => ?_)
      exact n_zret B dX6_joined_50 rfl (by rw [po_X6_joined, jnB, if_pos k0, ex]; first | rfl | (cases x <;> rfl) | (cases y <;> rfl)) (Nat.le_refl _) (Nat.le_refl _)
    · have ex : x = true := ts9 (fun q => hx ((b2i_0 _).mpr q))
      refine pb_blk B.hx B.hb (lv' := [(0, .int (b2i x)), (1, .int (b2i y)), (2, .int (nI how))]) (st' := [.int (b2i y)]) hl bkX6_joined_8_9 rfl (fun ls hl => ?_)
      refine lv_if_eq (tgt := 16) B.hx B.hb dX6_joined_9 (by decide) (fun hy => ?_) (fun hy => ?_)
      · have ey : y = false := (b2i_0 _).mp hy
        refine pb_blk B.hx B.hb (lv' := [(0, .int (b2i x)), (1, .int (b2i y)), (2, .int (nI how))]) (st' := [.int 0]) hl bkX6_joined_16_50 rfl (fun ls hl => ?_)
        exact n_zret B dX6_joined_50 rfl (by rw [po_X6_joined, jnB, if_pos k0, ex, ey]; first | rfl | (cases x <;> rfl) | (cases y <;> rfl)) (Nat.le_refl _) (Nat.le_refl _)
      · have ey : y = true := ts9 (fun q => hy ((b2i_0 _).mpr q))
        refine pb_blk B.hx B.hb (lv' := [(0, .int (b2i x)), (1, .int (b2i y)), (2, .int (nI how))]) (st' := [.int 1]) hl bkX6_joined_12_50 rfl (fun ls hl => ?_)
        exact n_zret B dX6_joined_50 rfl (by rw [po_X6_joined, jnB, if_pos k0, ex, ey]; first | rfl | (cases x <;> rfl) | (cases y <;> rfl)) (Nat.le_refl _) (Nat.le_refl _)

def po_X6_rootOf (G : Gm) (A : Nat → Prop) (sq : Nat) : Option Value → Prop := fun v => ∃ r : Nat, v = some (.long (lN r)) ∧ r * r ≤ sq ∧ sq < (r + 1) * (r + 1)
theorem bkX6_rootOf_0_2 : pb_chk cX6_rootOf 0 [.lconst 0, .lstore_n 2] = some 2 := by decide +kernel
theorem dX6_rootOf_2 : decode cX6_rootOf 2 = .ok (.ldc2_w 159, 3) := by decide +kernel
theorem bkX6_rootOf_5_7 : pb_chk cX6_rootOf 5 [.lstore 4] = some 7 := by decide +kernel
theorem bkX6_rootOf_7_13 : pb_chk cX6_rootOf 7 [.lload 4, .lload_n 2, .lsub, .lconst 1, .lcmp] = some 13 := by decide +kernel
theorem dX6_rootOf_13 : decode cX6_rootOf 13 = .ok (.ifCond .le 36, 3) := by decide +kernel
theorem bkX6_rootOf_49_50 : pb_chk cX6_rootOf 49 [.lload_n 2] = some 50 := by decide +kernel
theorem dX6_rootOf_50 : decode cX6_rootOf 50 = .ok (.lreturn, 1) := by decide +kernel
theorem bkX6_rootOf_16_20 : pb_chk cX6_rootOf 16 [.lload_n 2, .lload 4, .ladd] = some 20 := by decide +kernel
theorem dX6_rootOf_20 : decode cX6_rootOf 20 = .ok (.ldc2_w 157, 3) := by decide +kernel
theorem dX6_rootOf_23 : decode cX6_rootOf 23 = .ok (.ldiv, 1) := by decide +kernel
theorem bkX6_rootOf_24_33 : pb_chk cX6_rootOf 24 [.lstore 6, .lload 6, .lload 6, .lmul, .lload_n 0, .lcmp] = some 33 := by decide +kernel
theorem dX6_rootOf_33 : decode cX6_rootOf 33 = .ok (.ifCond .gt 9, 3) := by decide +kernel
theorem bkX6_rootOf_42_7 : pb_chk cX6_rootOf 42 [.lload 6, .lstore 4, .goto (-39)] = some 7 := by decide +kernel
theorem bkX6_rootOf_36_7 : pb_chk cX6_rootOf 36 [.lload 6, .lstore_n 2, .goto 7, .goto (-39)] = some 7 := by decide +kernel
set_option maxHeartbeats 4000000 in
set_option maxRecDepth 100000 in
theorem c_X6_rootOf (l : Launch) (G : Gm) (A : Nat → Prop) (sq : Nat) (hq : sq < 2 ^ 62) : Mn l yX6_rootOf cX6_rootOf 8 (some .long) (⟨0, 0, 0, 0⟩ : Room) G [.long (lN sq)] (fun _ => True) (po_X6_rootOf G A sq) := by
  refine of_met (by decide) (Nat.le_of_ble_eq_true rfl) ?_
  intro p e s m below meth c ls B hA _ hl
  have loop : ∀ (n a b : Nat) (ls : Array Slot), b - a ≤ n → a < b → a * a ≤ sq → sq < b * b → b ≤ 3000000000 → lv_has ls 8 [(4, .long (lN b)), (2, .long (lN a)), (0, .long (lN sq))] → W p l e (⟨0, 0, 0, 0⟩ : Room) s m ([.long (lN sq)] : List Value).toArray below meth c s.heap [] 0 0 (MQ below (Qn (po_X6_rootOf G A sq)) ([.long (lN sq)] : List Value).toArray s (⟨0, 0, 0, 0⟩ : Room).cells (⟨0, 0, 0, 0⟩ : Room).slots (fun _ => False)) (F0 m 7 ls []) := by
    intro n
    induction n with
    | zero => intro a b ls h1 h2; omega
    | succ n ih =>
      intro a b ls hn hab h1 h2 h3 hl
      refine pb_blk B.hx B.hb (lv' := [(4, .long (lN b)), (2, .long (lN a)), (0, .long (lN sq))]) (st' := [.int (lg_cmp ((lN b) - (lN a)) 1)]) hl bkX6_rootOf_7_13 rfl (fun ls hl => ?_)
      rw [lN_sub (by omega)]
      refine lv_if_le (tgt := 49) B.hx B.hb dX6_rootOf_13 (by decide) (fun h => ?_) (fun h => ?_)
      · have g : b - a ≤ 1 := (pk_lLE (by omega) (by decide)).mp (show lN (b - a) ≤ lN 1 from (lg_cmp_le _ _).mp h)
        have e : b = a + 1 := by omega
        refine pb_blk B.hx B.hb (lv' := [(4, .long (lN b)), (2, .long (lN a)), (0, .long (lN sq))]) (st' := [.long (lN a)]) hl bkX6_rootOf_49_50 rfl (fun ls hl => ?_)
        exact n_lret B dX6_rootOf_50 ⟨a, rfl, h1, by rw [← e]; exact h2⟩ (Nat.le_refl _) (Nat.le_refl _)
      · have g : 1 < b - a := Nat.not_le.mp (fun q => h ((lg_cmp_le _ _).mpr ((pk_lLE (by omega) (by decide)).mpr q)))
        refine pb_blk B.hx B.hb (lv' := [(4, .long (lN b)), (2, .long (lN a)), (0, .long (lN sq))]) (st' := [.long ((lN a) + (lN b))]) hl bkX6_rootOf_16_20 rfl (fun ls hl => ?_)
        refine z_ldc2 B wd_L_X6_157 dX6_rootOf_20 ?_
        rw [lN_add]
        refine lv_ldiv B.hx B.hb dX6_rootOf_23 (by decide) ?_
        rw [show lN (a + b) / 2 = lN ((a + b) / 2) from pk_lDiv (b := 2) (by omega) (by decide) (by decide)]
        obtain ⟨md, hmd⟩ : ∃ z, z = (a + b) / 2 := ⟨_, rfl⟩
        rw [← hmd]
        have hm : md * md ≤ 3000000000 * 3000000000 := Nat.mul_le_mul (by omega) (by omega)
        refine pb_blk B.hx B.hb (lv' := [(6, .long (lN md)), (4, .long (lN b)), (2, .long (lN a)), (0, .long (lN sq))]) (st' := [.int (lg_cmp ((lN md) * (lN md)) (lN sq))]) hl bkX6_rootOf_24_33 rfl (fun ls hl => ?_)
        rw [lN_mul]
        refine lv_if_gt (tgt := 42) B.hx B.hb dX6_rootOf_33 (by decide) (fun h4 => ?_) (fun h4 => ?_)
        · have g2 := (pk_lLT (by omega) (by omega)).mp ((lg_cmp_gt _ _).mp h4)
          refine pb_blk B.hx B.hb (lv' := [(4, .long (lN md)), (6, .long (lN md)), (2, .long (lN a)), (0, .long (lN sq))]) (st' := []) hl bkX6_rootOf_42_7 rfl (fun ls hl => ?_)
          exact ih a md ls (by omega) (by omega) h1 g2 (by omega) (lv_sub hl [0, 2, 3] rfl)
        · have g2 : md * md ≤ sq := Nat.not_lt.mp (fun q => h4 ((lg_cmp_gt _ _).mpr ((pk_lLT (by omega) (by omega)).mpr q)))
          refine pb_blk B.hx B.hb (lv' := [(2, .long (lN md)), (6, .long (lN md)), (4, .long (lN b)), (0, .long (lN sq))]) (st' := []) hl bkX6_rootOf_36_7 rfl (fun ls hl => ?_)
          exact ih md b ls (by omega) (by omega) g2 h2 h3 (lv_sub hl [2, 0, 3] rfl)
  refine pb_blk B.hx B.hb (lv' := [(2, .long 0), (0, .long (lN sq))]) (st' := []) hl bkX6_rootOf_0_2 rfl (fun ls hl => ?_)
  refine z_ldc2 B wd_L_X6_159 dX6_rootOf_2 ?_
  refine pb_blk B.hx B.hb (lv' := [(4, .long 3000000000), (2, .long 0), (0, .long (lN sq))]) (st' := []) hl bkX6_rootOf_5_7 rfl (fun ls hl => ?_)
  exact loop 3000000000 0 3000000000 ls (by omega) (by omega) (by omega) (by omega) (by omega) (lv_sub hl [0, 1, 2] rfl)

def po_X6_start (mo : Nat) (S : Sc) (ct : Ct) (b : Bool) : Option Value → Sc → Ct → Prop := fun v S2 ct2 => v = none ∧ S2 = S ∧ ct2 = va_up (va_up ct 4 (updV (ct 4) 81 (.int 0))) 7 (updV (ct 7) 26001 (.int (b2i b)))
theorem bkX6_start_0_1 : pb_chk cX6_start 0 [.aload_n 0] = some 1 := by decide +kernel
theorem dX6_start_1 : decode cX6_start 1 = .ok (.getfield 20, 3) := by decide +kernel
theorem bkX6_start_4_7 : pb_chk cX6_start 4 [.bipush 81, .iconst 0] = some 7 := by decide +kernel
theorem dX6_start_7 : decode cX6_start 7 = .ok (.iastore, 1) := by decide +kernel
theorem bkX6_start_8_9 : pb_chk cX6_start 8 [.aload_n 0] = some 9 := by decide +kernel
theorem dX6_start_9 : decode cX6_start 9 = .ok (.getfield 29, 3) := by decide +kernel
theorem bkX6_start_12_16 : pb_chk cX6_start 12 [.sipush 26001, .iload_n 1] = some 16 := by decide +kernel
theorem dX6_start_16 : decode cX6_start 16 = .ok (.bastore, 1) := by decide +kernel
theorem dX6_start_17 : decode cX6_start 17 = .ok (.return_, 1) := by decide +kernel
set_option maxHeartbeats 4000000 in
set_option maxRecDepth 100000 in
theorem c_X6_start (l : Launch) (G : Gm) (mo : Nat) (S : Sc) (ct : Ct) (b : Bool) : Mm l yX6_start cX6_start 2 none (⟨0, 0, 0, 0⟩ : Room) G mo S ct [.ref mo, .int (b2i b)] (po_X6_start mo S ct b) := by
  refine of_met (by decide) (Nat.le_of_ble_eq_true rfl) ?_
  intro p e s m below meth c ls B hA hM0 hl
  have hw := Mw.start hM0
  refine pb_blk B.hx B.hb (lv' := [(0, .ref mo), (1, .int (b2i b))]) (st' := [.ref mo]) hl bkX6_start_0_1 rfl (fun ls hl => ?_)
  refine m_get B hw 5 (by decide) wd_F_X6_20 rfl dX6_start_1 ?_
  refine pb_blk B.hx B.hb (lv' := [(0, .ref mo), (1, .int (b2i b))]) (st' := [.int 0, .int 81, .ref (mo + 4)]) hl bkX6_start_4_7 rfl (fun ls hl => ?_)
  rw [show (81 : Int32) = nI 81 from rfl]
  refine m_iast B hw 4 (by decide) (by decide) rfl (vp_in_nI (show 81 < 82 by omega) (by decide)) dX6_start_7 (fun H locs hw => ?_)
  rw [nI_clamp (show 81 < 2 ^ 31 by omega)] at hw
  refine pb_blk B.hx B.hb (lv' := [(0, .ref mo), (1, .int (b2i b))]) (st' := [.ref mo]) hl bkX6_start_8_9 rfl (fun ls hl => ?_)
  refine m_get B hw 8 (by decide) wd_F_X6_29 rfl dX6_start_9 ?_
  refine pb_blk B.hx B.hb (lv' := [(0, .ref mo), (1, .int (b2i b))]) (st' := [.int (b2i b), .int 26001, .ref (mo + 7)]) hl bkX6_start_12_16 rfl (fun ls hl => ?_)
  rw [show (26001 : Int32) = nI 26001 from rfl]
  refine m_zast B hw 7 (by decide) (by decide) rfl (vp_in_nI (show 26001 < 26322 by omega) (by decide)) (b2i_n _) dX6_start_16 (fun H locs hw => ?_)
  rw [nI_clamp (show 26001 < 2 ^ 31 by omega)] at hw
  exact m_vret B hw dX6_start_17 (by exact ⟨rfl, rfl, rfl⟩) (Nat.le_of_ble_eq_true rfl) (Nat.le_of_ble_eq_true rfl)

def po_X6_answer (mo : Nat) (S : Sc) (ct : Ct) (a b : Int64) (j : Nat) : Option Value → Sc → Ct → Prop := fun v S2 ct2 => v = none ∧ ∃ n d : Int64, Frx n d (Rat.divInt a.toInt b.toInt) ∧ S2 = va_up (va_up (va_up S 13 (.long n)) 14 (.long d)) 15 (.int (nI (j + 1))) ∧ ct2 = va_up (va_up ct 12 (updV (ct 12) j (.long n))) 13 (updV (ct 13) j (.long d))
theorem bkX6_answer_0_3 : pb_chk cX6_answer 0 [.aload_n 0, .lload_n 1, .lload_n 3] = some 3 := by decide +kernel
theorem dX6_answer_3 : decode cX6_answer 3 = .ok (.invokevirtual 78, 3) := by decide +kernel
theorem bkX6_answer_6_7 : pb_chk cX6_answer 6 [.aload_n 0] = some 7 := by decide +kernel
theorem dX6_answer_7 : decode cX6_answer 7 = .ok (.getfield 45, 3) := by decide +kernel
theorem bkX6_answer_10_11 : pb_chk cX6_answer 10 [.aload_n 0] = some 11 := by decide +kernel
theorem dX6_answer_11 : decode cX6_answer 11 = .ok (.getfield 138, 3) := by decide +kernel
theorem bkX6_answer_14_15 : pb_chk cX6_answer 14 [.aload_n 0] = some 15 := by decide +kernel
theorem dX6_answer_15 : decode cX6_answer 15 = .ok (.getfield 71, 3) := by decide +kernel
theorem dX6_answer_18 : decode cX6_answer 18 = .ok (.lastore, 1) := by decide +kernel
theorem bkX6_answer_19_20 : pb_chk cX6_answer 19 [.aload_n 0] = some 20 := by decide +kernel
theorem dX6_answer_20 : decode cX6_answer 20 = .ok (.getfield 48, 3) := by decide +kernel
theorem bkX6_answer_23_24 : pb_chk cX6_answer 23 [.aload_n 0] = some 24 := by decide +kernel
theorem dX6_answer_24 : decode cX6_answer 24 = .ok (.getfield 138, 3) := by decide +kernel
theorem bkX6_answer_27_28 : pb_chk cX6_answer 27 [.aload_n 0] = some 28 := by decide +kernel
theorem dX6_answer_28 : decode cX6_answer 28 = .ok (.getfield 75, 3) := by decide +kernel
theorem dX6_answer_31 : decode cX6_answer 31 = .ok (.lastore, 1) := by decide +kernel
theorem bkX6_answer_32_34 : pb_chk cX6_answer 32 [.aload_n 0, .dup] = some 34 := by decide +kernel
theorem dX6_answer_34 : decode cX6_answer 34 = .ok (.getfield 138, 3) := by decide +kernel
theorem bkX6_answer_37_39 : pb_chk cX6_answer 37 [.iconst 1, .iadd] = some 39 := by decide +kernel
theorem dX6_answer_39 : decode cX6_answer 39 = .ok (.putfield 138, 3) := by decide +kernel
theorem dX6_answer_42 : decode cX6_answer 42 = .ok (.return_, 1) := by decide +kernel
set_option maxHeartbeats 4000000 in
set_option maxRecDepth 100000 in
theorem c_X6_answer (l : Launch) (G : Gm) (mo : Nat) (S : Sc) (ct : Ct) (a b : Int64) (j : Nat) (ha : a.toInt ≠ -2 ^ 63) (hb : b.toInt ≠ 0) (hb2 : b.toInt.natAbs < 2 ^ 48) (hj : j < 2) (hS5 : S 15 = .int (nI j)) : Mm l yX6_answer cX6_answer 5 none (⟨2, 0, 0, 55⟩ : Room) G mo S ct [.ref mo, .long a, .long b] (po_X6_answer mo S ct a b j) := by
  refine of_met (by decide) (Nat.le_of_ble_eq_true rfl) ?_
  intro p e s m below meth c ls B hA hM0 hl
  have hw := Mw.start hM0
  refine pb_blk B.hx B.hb (lv' := [(0, .ref mo), (1, .long a), (3, .long b)]) (st' := [.long b, .long a, .ref mo]) hl bkX6_answer_0_3 rfl (fun ls hl => ?_)
  refine m_callV B hw (c_X6_lowest l G mo S ct a b ha hb hb2) cy_X6_lowest im_X6_lowest se_X6_lowest wd_M_X6_78 rfl hl.1 rfl (Nat.le_of_ble_eq_true rfl) ⟨by decide, by decide⟩ ⟨rfl, rfl⟩ ⟨Nat.le_refl _, Nat.le_refl _⟩ dX6_answer_3 (fun v H locs S1 ct1 hw_3 hv => ?_)
  obtain ⟨rfl, rfl, n, d, rfl, hf⟩ := hv
  have hw := hw_3
  refine pb_blk B.hx B.hb (lv' := [(0, .ref mo), (1, .long a), (3, .long b)]) (st' := [.ref mo]) hl bkX6_answer_6_7 rfl (fun ls hl => ?_)
  refine m_get B hw 16 (by decide) wd_F_X6_45 rfl dX6_answer_7 ?_
  refine pb_blk B.hx B.hb (lv' := [(0, .ref mo), (1, .long a), (3, .long b)]) (st' := [.ref mo, .ref (mo + 12)]) hl bkX6_answer_10_11 rfl (fun ls hl => ?_)
  refine m_get B hw 15 (by decide) wd_F_X6_138 (congrArg some hS5) dX6_answer_11 ?_
  refine pb_blk B.hx B.hb (lv' := [(0, .ref mo), (1, .long a), (3, .long b)]) (st' := [.ref mo, .int (nI j), .ref (mo + 12)]) hl bkX6_answer_14_15 rfl (fun ls hl => ?_)
  refine m_get B hw 13 (by decide) wd_F_X6_71 (congrArg some (show _ = Value.long n from rfl)) dX6_answer_15 ?_
  refine m_last B hw 12 (by decide) (by decide) rfl (vp_in_nI (show j < 2 by omega) (by decide)) dX6_answer_18 (fun H locs hw => ?_)
  rw [nI_clamp (show j < 2 ^ 31 by omega)] at hw
  refine pb_blk B.hx B.hb (lv' := [(0, .ref mo), (1, .long a), (3, .long b)]) (st' := [.ref mo]) hl bkX6_answer_19_20 rfl (fun ls hl => ?_)
  refine m_get B hw 17 (by decide) wd_F_X6_48 rfl dX6_answer_20 ?_
  refine pb_blk B.hx B.hb (lv' := [(0, .ref mo), (1, .long a), (3, .long b)]) (st' := [.ref mo, .ref (mo + 13)]) hl bkX6_answer_23_24 rfl (fun ls hl => ?_)
  refine m_get B hw 15 (by decide) wd_F_X6_138 (congrArg some hS5) dX6_answer_24 ?_
  refine pb_blk B.hx B.hb (lv' := [(0, .ref mo), (1, .long a), (3, .long b)]) (st' := [.ref mo, .int (nI j), .ref (mo + 13)]) hl bkX6_answer_27_28 rfl (fun ls hl => ?_)
  refine m_get B hw 14 (by decide) wd_F_X6_75 (congrArg some (show _ = Value.long d from rfl)) dX6_answer_28 ?_
  refine m_last B hw 13 (by decide) (by decide) rfl (vp_in_nI (show j < 2 by omega) (by decide)) dX6_answer_31 (fun H locs hw => ?_)
  rw [nI_clamp (show j < 2 ^ 31 by omega)] at hw
  refine pb_blk B.hx B.hb (lv' := [(0, .ref mo), (1, .long a), (3, .long b)]) (st' := [.ref mo, .ref mo]) hl bkX6_answer_32_34 rfl (fun ls hl => ?_)
  refine m_get B hw 15 (by decide) wd_F_X6_138 (congrArg some hS5) dX6_answer_34 ?_
  refine pb_blk B.hx B.hb (lv' := [(0, .ref mo), (1, .long a), (3, .long b)]) (st' := [.int ((nI j) + 1), .ref mo]) hl bkX6_answer_37_39 rfl (fun ls hl => ?_)
  rw [nI_1]
  refine m_put B hw 15 (by decide) wd_F_X6_138 rfl rfl rfl rfl dX6_answer_39 (fun H locs hw => ?_)
  exact m_vret B hw dX6_answer_42 (by exact ⟨rfl, n, d, hf, rfl, rfl⟩) (Nat.le_of_ble_eq_true rfl) (Nat.le_of_ble_eq_true rfl)

