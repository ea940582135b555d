theorem of_metF {l : Launch} {y : MethodName} {cc : ByteArray} {n : Nat} {r : Option FieldType} {rm : Room} {G : Gm} {A : Nat → Prop} {av : List Value} {P : Heap → Prop} {Qc : Array Value → State → Outcome → State → Prop} {mc ms : Nat} {free : Addr → Prop}
    (hy : plainFor y = true) (hsz : (lg_sl av).length ≤ n)
    (body : ∀ p e s m below meth c ls, Bd p s m av.toArray meth c G y cc n r → (∀ q, A q → q < s.heap.size) → P s.heap → lv_has ls n (lv_args 0 av) → W p l e rm s m av.toArray below meth c s.heap [] 0 0 (MQ below Qc av.toArray s mc ms free) (F0 m 0 ls [])) :
    Met l y (mws y cc n r) rm (Pz G A av P) Qc mc ms free := by
  refine va_MetF (cc := cc) (maxL := n) (ret := r) hy rfl ?_
  intro p e s m args below meth c s₁ B hml hv
  obtain ⟨rfl, hK, hA, hP⟩ := hv
  have hts := atoms_spec (ws := mws y cc n r) B.pre
  have hl := lv_entry av hsz
  rw [lg_entry_eq]
  exact body p e s m below meth c _ ⟨B.exec, B.bytes, hml, findClass_of_methodNamed B.named, fun w hw => hts w (List.mem_cons_of_mem _ hw), hK, B.returns, B.notSynchronized, (name_of_methodNamed B.named B.method).1⟩ hA hP hl
theorem nx_xor (a b : Nat) : nI a ^^^ nI b = nI (a ^^^ b) := by
  apply Int32.toBitVec_inj.1
  show BitVec.ofNat 32 a ^^^ BitVec.ofNat 32 b = BitVec.ofNat 32 (a ^^^ b)
  apply BitVec.eq_of_getLsbD_eq
  intro i hi
  simp [hi]
/-- the cell t in which the fraction r lies -/
def IsPos (n : Nat) (pt : Nat → Rat) (r : Rat) (t : Nat) : Prop := ∃ k, k ≤ n ∧ (∀ j, j < k → pt j < r) ∧ ((k < n ∧ r = pt k ∧ t = 2 * k + 1) ∨ ((k < n → r < pt k) ∧ t = 2 * k))
def sp (mk : Nat → Bool) (c : Nat) : Bool := mk c && (c == 0 || !mk (c - 1))
def pcn (mk : Nat → Bool) : Nat → Nat
  | 0 => 0
  | c + 1 => if sp mk c = true then pcn mk c + 1 else pcn mk c
theorem pcn_le (mk : Nat → Bool) (c : Nat) : pcn mk c ≤ c := by
  induction c with
  | zero => exact Nat.le_refl _
  | succ c ih => unfold pcn; split <;> omega
def anyN (f : Nat → Bool) : Nat → Bool
  | 0 => false
  | n + 1 => anyN f n || f n
theorem anyN_no {f : Nat → Bool} {n : Nat} (h : ∀ j, j < n → f j = false) : anyN f n = false := by
  induction n with
  | zero => rfl
  | succ n ih => unfold anyN; rw [ih (fun j hj => h j (by omega)), h n (by omega)]; rfl
theorem anyN_yes {f : Nat → Bool} {n k : Nat} (hk : k < n) (h : f k = true) : anyN f n = true := by
  induction n with
  | zero => omega
  | succ n ih =>
    unfold anyN
    rcases Nat.lt_or_ge k n with q | q
    · rw [ih q]; rfl
    · rw [show n = k by omega, h, Bool.or_true]
def tgS (n : Nat) (pt : Nat → Rat) : Bool := anyN (fun k => tgR (pt k)) n
def SameS (n1 : Nat) (p1 : Nat → Rat) (m1 : Nat → Bool) (n2 : Nat) (p2 : Nat → Rat) (m2 : Nat → Bool) : Prop := n1 = n2 ∧ (∀ k, k < n1 → p1 k = p2 k) ∧ ∀ j, j < 2 * n1 + 1 → m1 j = m2 j
/-- the place that ends a piece whose outermost cell is c -/
def epl (n c : Nat) (side : Int32) : Int32 := if side = 0 then (if c = 0 then -1 else nI ((c - 1) / 2)) else if c / 2 < n then nI (c / 2) else -1
def eplN (n c : Nat) (side : Int32) : Nat := if side = 0 then (c - 1) / 2 else c / 2
theorem epl_neg {n c : Nat} {side : Int32} (hc : c < 2 ^ 20) : epl n c side < 0 ↔ (side = 0 ∧ c = 0) ∨ (side ≠ 0 ∧ n ≤ c / 2) := by
  unfold epl
  by_cases h1 : side = 0
  · rw [if_pos h1]
    by_cases h2 : c = 0
    · rw [if_pos h2]; exact ⟨fun _ => Or.inl ⟨h1, h2⟩, fun _ => by decide⟩
    · rw [if_neg h2]; exact ⟨fun q => absurd q (nI_pos (by omega)), fun q => q.elim (fun q => absurd q.2 h2) (fun q => absurd h1 q.1)⟩
  · rw [if_neg h1]
    by_cases h2 : c / 2 < n
    · rw [if_pos h2]; exact ⟨fun q => absurd q (nI_pos (by omega)), fun q => q.elim (fun q => absurd q.1 h1) (fun q => by omega)⟩
    · rw [if_neg h2]; exact ⟨fun _ => Or.inr ⟨h1, by omega⟩, fun _ => by decide⟩
theorem epl_pos {n c : Nat} {side : Int32} (hc : c < 2 ^ 20) (h : ¬ epl n c side < 0) : epl n c side = nI (eplN n c side) ∧ (side = 0 → 0 < c) ∧ (side ≠ 0 → c / 2 < n) := by
  have h9 := fun q => h ((epl_neg hc).mpr q)
  unfold epl eplN
  by_cases h1 : side = 0
  · rw [if_pos h1, if_pos h1, if_neg (fun q => h9 (Or.inl ⟨h1, q⟩))]
    exact ⟨rfl, fun _ => by rcases Nat.eq_zero_or_pos c with q | q; exact absurd (Or.inl ⟨h1, q⟩) h9; exact q, fun q => absurd h1 q⟩
  · have h2 : c / 2 < n := by
      rcases Nat.lt_or_ge (c / 2) n with q | q
      · exact q
      · exact absurd (Or.inr ⟨h1, q⟩) h9
    rw [if_neg h1, if_neg h1, if_pos h2]
    exact ⟨rfl, fun q => absurd q h1, fun _ => h2⟩

def po_X2_met (G : Gm) (A : Nat → Prop) (q1 q2 n1 n2 : Nat) (p1 p2 : Nat → Rat) (m1 m2 : Nat → Bool) : Option Value → Heap → Prop := fun v H => ∃ q J, v = some (.ref q) ∧ MgE n1 p1 n2 p2 J ∧ Ls G A H q (czn (mgb true n1 p1 m1 n2 p2 m2) J) (czp (mgp n1 p1 n2 p2) (mgb true n1 p1 m1 n2 p2 m2) J) (czm (mgb true n1 p1 m1 n2 p2 m2) J)
theorem bkX2_met_0_3 : pb_chk cX2_met 0 [.aload_n 0, .aload_n 1, .iconst 1] = some 3 := by decide +kernel
theorem dX2_met_3 : decode cX2_met 3 = .ok (.invokevirtual 28, 3) := by decide +kernel
theorem dX2_met_6 : decode cX2_met 6 = .ok (.areturn, 1) := by decide +kernel
set_option maxHeartbeats 4000000 in
set_option maxRecDepth 100000 in
theorem c_X2_met (l : Launch) (G : Gm) (A : Nat → Prop) (q1 q2 n1 n2 : Nat) (p1 p2 : Nat → Rat) (m1 m2 : Nat → Bool) (hn1 : n1 ≤ 160) (hn2 : n2 ≤ 160) (hb1 : ∀ j, j < n1 → Bg (p1 j)) (hb2 : ∀ j, j < n2 → Bg (p2 j)) (hcz : ∀ J, MgE n1 p1 n2 p2 J → czn (mgb true n1 p1 m1 n2 p2 m2) J ≤ 160) : Mz l yX2_met cX2_met 2 (some (.object "FormulaHouse$LineSet")) (⟨5, 5, 1925, 113⟩ : Room) G A [.ref q1, .ref q2] (fun H => Ls G A H q1 n1 p1 m1 ∧ Ls G A H q2 n2 p2 m2) (po_X2_met G A q1 q2 n1 n2 p1 p2 m1 m2) := by
  refine of_met (by decide) (Nat.le_of_ble_eq_true rfl) ?_
  intro p e s m below meth c ls B hA ⟨hs1, hs2⟩ hl
  refine pb_blk B.hx B.hb (lv' := [(0, .ref q1), (1, .ref q2)]) (st' := [.int 1, .ref q2, .ref q1]) hl bkX2_met_0_3 rfl (fun ls hl => ?_)
  obtain ⟨fs9, ho⟩ := hs1.ob
  refine z_callV B (c_X2_combined l G A q1 q2 n1 n2 p1 p2 m1 m2 true hn1 hn2 hb1 hb2 hcz) cy_X2_combined im_X2_combined se_X2_combined wd_M_X2_28 rfl ho hA ⟨hs1, hs2⟩ rfl hl.1 rfl (Nat.le_of_ble_eq_true rfl) ⟨by decide, by decide⟩ ⟨by decide, by decide⟩ dX2_met_3 (fun v H1 hE hv => ?_)
  obtain ⟨q, J, rfl, hJ, hq⟩ := hv
  exact z_aret B (Or.inl ⟨_, rfl⟩) dX2_met_6 hE ⟨q, J, rfl, hJ, hq⟩ (Nat.le_of_ble_eq_true rfl) (Nat.le_of_ble_eq_true rfl)

def po_X2_joined (G : Gm) (A : Nat → Prop) (q1 q2 n1 n2 : Nat) (p1 p2 : Nat → Rat) (m1 m2 : Nat → Bool) : Option Value → Heap → Prop := fun v H => ∃ q J, v = some (.ref q) ∧ MgE n1 p1 n2 p2 J ∧ Ls G A H q (czn (mgb false n1 p1 m1 n2 p2 m2) J) (czp (mgp n1 p1 n2 p2) (mgb false n1 p1 m1 n2 p2 m2) J) (czm (mgb false n1 p1 m1 n2 p2 m2) J)
theorem bkX2_joined_0_3 : pb_chk cX2_joined 0 [.aload_n 0, .aload_n 1, .iconst 0] = some 3 := by decide +kernel
theorem dX2_joined_3 : decode cX2_joined 3 = .ok (.invokevirtual 28, 3) := by decide +kernel
theorem dX2_joined_6 : decode cX2_joined 6 = .ok (.areturn, 1) := by decide +kernel
set_option maxHeartbeats 4000000 in
set_option maxRecDepth 100000 in
theorem c_X2_joined (l : Launch) (G : Gm) (A : Nat → Prop) (q1 q2 n1 n2 : Nat) (p1 p2 : Nat → Rat) (m1 m2 : Nat → Bool) (hn1 : n1 ≤ 160) (hn2 : n2 ≤ 160) (hb1 : ∀ j, j < n1 → Bg (p1 j)) (hb2 : ∀ j, j < n2 → Bg (p2 j)) (hcz : ∀ J, MgE n1 p1 n2 p2 J → czn (mgb false n1 p1 m1 n2 p2 m2) J ≤ 160) : Mz l yX2_joined cX2_joined 2 (some (.object "FormulaHouse$LineSet")) (⟨5, 5, 1925, 113⟩ : Room) G A [.ref q1, .ref q2] (fun H => Ls G A H q1 n1 p1 m1 ∧ Ls G A H q2 n2 p2 m2) (po_X2_joined G A q1 q2 n1 n2 p1 p2 m1 m2) := by
  refine of_met (by decide) (Nat.le_of_ble_eq_true rfl) ?_
  intro p e s m below meth c ls B hA ⟨hs1, hs2⟩ hl
  refine pb_blk B.hx B.hb (lv' := [(0, .ref q1), (1, .ref q2)]) (st' := [.int 0, .ref q2, .ref q1]) hl bkX2_joined_0_3 rfl (fun ls hl => ?_)
  obtain ⟨fs9, ho⟩ := hs1.ob
  refine z_callV B (c_X2_combined l G A q1 q2 n1 n2 p1 p2 m1 m2 false hn1 hn2 hb1 hb2 hcz) cy_X2_combined im_X2_combined se_X2_combined wd_M_X2_28 rfl ho hA ⟨hs1, hs2⟩ rfl hl.1 rfl (Nat.le_of_ble_eq_true rfl) ⟨by decide, by decide⟩ ⟨by decide, by decide⟩ dX2_joined_3 (fun v H1 hE hv => ?_)
  obtain ⟨q, J, rfl, hJ, hq⟩ := hv
  exact z_aret B (Or.inl ⟨_, rfl⟩) dX2_joined_6 hE ⟨q, J, rfl, hJ, hq⟩ (Nat.le_of_ble_eq_true rfl) (Nat.le_of_ble_eq_true rfl)

theorem cmpR_lt {a b : Rat} : cmpR a b = -1 ↔ a < b := by
  unfold cmpR
  by_cases h : a < b
  · rw [if_pos h]; exact ⟨fun _ => h, fun _ => rfl⟩
  · rw [if_neg h]
    by_cases h' : a = b
    · rw [if_pos h']; exact ⟨fun q => absurd q (by decide), fun q => absurd q h⟩
    · rw [if_neg h']; exact ⟨fun q => absurd q (by decide), fun q => absurd q h⟩
theorem cmpR_gt {a b : Rat} : cmpR a b = 1 ↔ b < a := by
  unfold cmpR
  by_cases h : a < b
  · rw [if_pos h]; exact ⟨fun q => absurd q (by decide), fun q => absurd (Rat.le_of_lt h) (Rat.not_le.mpr q)⟩
  · rw [if_neg h]
    by_cases h' : a = b
    · rw [if_pos h']; exact ⟨fun q => absurd q (by decide), fun q => absurd q (by rw [h']; exact Rat.lt_irrefl)⟩
    · rw [if_neg h']; exact ⟨fun _ => Rat.lt_of_le_of_ne (Rat.not_lt.mp h) (fun e => h' e.symm), fun _ => rfl⟩

def po_X2_contains (G : Gm) (A : Nat → Prop) (q x n : Nat) (pt : Nat → Rat) (mk : Nat → Bool) (r : Rat) : Option Value → Prop := fun v => ∃ t, IsPos n pt r t ∧ v = some (.int (b2i (mk t)))
theorem bkX2_contains_0_2 : pb_chk cX2_contains 0 [.iconst 0, .istore_n 2] = some 2 := by decide +kernel
theorem bkX2_contains_2_4 : pb_chk cX2_contains 2 [.iload_n 2, .aload_n 0] = some 4 := by decide +kernel
theorem dX2_contains_4 : decode cX2_contains 4 = .ok (.getfield 9, 3) := by decide +kernel
theorem dX2_contains_7 : decode cX2_contains 7 = .ok (.arraylength, 1) := by decide +kernel
theorem dX2_contains_8 : decode cX2_contains 8 = .ok (.if_icmp .ge 43, 3) := by decide +kernel
theorem bkX2_contains_51_52 : pb_chk cX2_contains 51 [.aload_n 0] = some 52 := by decide +kernel
theorem dX2_contains_52 : decode cX2_contains 52 = .ok (.getfield 15, 3) := by decide +kernel
theorem bkX2_contains_55_56 : pb_chk cX2_contains 55 [.aload_n 0] = some 56 := by decide +kernel
theorem dX2_contains_56 : decode cX2_contains 56 = .ok (.getfield 15, 3) := by decide +kernel
theorem dX2_contains_59 : decode cX2_contains 59 = .ok (.arraylength, 1) := by decide +kernel
theorem bkX2_contains_60_62 : pb_chk cX2_contains 60 [.iconst 1, .isub] = some 62 := by decide +kernel
theorem dX2_contains_62 : decode cX2_contains 62 = .ok (.baload, 1) := by decide +kernel
theorem dX2_contains_63 : decode cX2_contains 63 = .ok (.ireturn, 1) := by decide +kernel
theorem bkX2_contains_11_13 : pb_chk cX2_contains 11 [.aload_n 1, .aload_n 0] = some 13 := by decide +kernel
theorem dX2_contains_13 : decode cX2_contains 13 = .ok (.getfield 9, 3) := by decide +kernel
theorem bkX2_contains_16_17 : pb_chk cX2_contains 16 [.iload_n 2] = some 17 := by decide +kernel
theorem dX2_contains_17 : decode cX2_contains 17 = .ok (.aaload, 1) := by decide +kernel
theorem dX2_contains_18 : decode cX2_contains 18 = .ok (.invokevirtual 44, 3) := by decide +kernel
theorem bkX2_contains_21_23 : pb_chk cX2_contains 21 [.istore_n 3, .iload_n 3] = some 23 := by decide +kernel
theorem dX2_contains_23 : decode cX2_contains 23 = .ok (.ifCond .gt 22, 3) := by decide +kernel
theorem bkX2_contains_26_27 : pb_chk cX2_contains 26 [.aload_n 0] = some 27 := by decide +kernel
theorem dX2_contains_27 : decode cX2_contains 27 = .ok (.getfield 15, 3) := by decide +kernel
theorem bkX2_contains_30_34 : pb_chk cX2_contains 30 [.iconst 2, .iload_n 2, .imul, .iload_n 3] = some 34 := by decide +kernel
theorem dX2_contains_34 : decode cX2_contains 34 = .ok (.ifCond .ne 7, 3) := by decide +kernel
theorem bkX2_contains_41_43 : pb_chk cX2_contains 41 [.iconst 0, .iadd] = some 43 := by decide +kernel
theorem dX2_contains_43 : decode cX2_contains 43 = .ok (.baload, 1) := by decide +kernel
theorem dX2_contains_44 : decode cX2_contains 44 = .ok (.ireturn, 1) := by decide +kernel
theorem bkX2_contains_37_43 : pb_chk cX2_contains 37 [.iconst 1, .goto 4, .iadd] = some 43 := by decide +kernel
theorem bkX2_contains_45_2 : pb_chk cX2_contains 45 [.iinc 2 1, .goto (-46)] = some 2 := by decide +kernel
set_option maxHeartbeats 4000000 in
set_option maxRecDepth 100000 in
theorem c_X2_contains (l : Launch) (G : Gm) (A : Nat → Prop) (q x n : Nat) (pt : Nat → Rat) (mk : Nat → Bool) (r : Rat) (hn : n < 2 ^ 20) (hb : ∀ j, j < n → Bg (pt j)) (hbr : Bg r) : Mn l yX2_contains cX2_contains 4 (some .boolean) (⟨2, 0, 0, 44⟩ : Room) G [.ref q, .ref x] (fun H => Ls G A H q n pt mk ∧ Fr G A H x r) (po_X2_contains G A q x n pt mk r) := by
  refine of_met (by decide) (Nat.le_of_ble_eq_true rfl) ?_
  intro p e s m below meth c ls B hA ⟨⟨pa, ca, ob, ⟨f, ar, hf⟩, ⟨g, az, hg⟩⟩, hx⟩ hl
  have loop : ∀ (n2 k : Nat) (ls : Array Slot), n + 1 ≤ k + n2 → k ≤ n → (∀ j, j < k → pt j < r) → lv_has ls 4 [(2, .int (nI k)), (0, .ref q), (1, .ref x)] → W p l e (⟨2, 0, 0, 44⟩ : Room) s m ([.ref q, .ref x] : List Value).toArray below meth c s.heap [] 0 0 (MQ below (Qn (po_X2_contains G A q x n pt mk r)) ([.ref q, .ref x] : List Value).toArray s (⟨2, 0, 0, 44⟩ : Room).cells (⟨2, 0, 0, 44⟩ : Room).slots (fun _ => False)) (F0 m 2 ls []) := by
    intro n2
    induction n2 with
    | zero => intro k ls h1 h2; omega
    | succ n2 ih =>
      intro k ls hn2 hk hu hl
      refine pb_blk B.hx B.hb (lv' := [(2, .int (nI k)), (0, .ref q), (1, .ref x)]) (st' := [.ref q, .int (nI k)]) hl bkX2_contains_2_4 rfl (fun ls hl => ?_)
      refine z_get B ciX2 0 (by decide) ob wd_F_X2_9 rfl dX2_contains_4 ?_
      refine z_alen B 3 rfl ar.2 dX2_contains_7 ?_
      refine lv_icmp_ge (tgt := 51) B.hx B.hb dX2_contains_8 (by decide) (fun h1 => ?_) (fun h1 => ?_)
      · have e4 : k = n := by have := nI_nlt_le (show n < 2 ^ 31 by omega) (k2_nlt h1); omega
        refine pb_blk B.hx B.hb (lv' := [(2, .int (nI k)), (0, .ref q), (1, .ref x)]) (st' := [.ref q]) hl bkX2_contains_51_52 rfl (fun ls hl => ?_)
        refine z_get B ciX2 1 (by decide) ob wd_F_X2_15 rfl dX2_contains_52 ?_
        refine pb_blk B.hx B.hb (lv' := [(2, .int (nI k)), (0, .ref q), (1, .ref x)]) (st' := [.ref q, .ref ca]) hl bkX2_contains_55_56 rfl (fun ls hl => ?_)
        refine z_get B ciX2 1 (by decide) ob wd_F_X2_15 rfl dX2_contains_56 ?_
        refine z_alen B 2 rfl az.2 dX2_contains_59 ?_
        refine pb_blk B.hx B.hb (lv' := [(2, .int (nI k)), (0, .ref q), (1, .ref x)]) (st' := [.int ((nI (2 * n + 1)) - 1), .ref ca]) hl bkX2_contains_60_62 rfl (fun ls hl => ?_)
        rw [nI_pred]
        refine z_zald B az.2 (vp_in_nI (show 2 * n < 2 * n + 1 by omega) (by omega)) (v := .int (b2i (mk (2 * n)))) (by rw [nI_clamp (by omega)]; exact hg _ (by omega)) dX2_contains_62 ?_
        exact n_zret B dX2_contains_63 (b2i_n _) ⟨2 * n, ⟨n, Nat.le_refl _, fun j hj => hu j (by omega), Or.inr ⟨fun q => absurd q (Nat.lt_irrefl _), rfl⟩⟩, rfl⟩ (Nat.le_refl _) (Nat.le_refl _)
      · have hk4 : k < n := (nI_ltI (by omega) (by omega)).mp (k2_lt h1)
        obtain ⟨x2, e2, hx2⟩ := hf k hk4
        refine pb_blk B.hx B.hb (lv' := [(2, .int (nI k)), (0, .ref q), (1, .ref x)]) (st' := [.ref q, .ref x]) hl bkX2_contains_11_13 rfl (fun ls hl => ?_)
        refine z_get B ciX2 0 (by decide) ob wd_F_X2_9 rfl dX2_contains_13 ?_
        refine pb_blk B.hx B.hb (lv' := [(2, .int (nI k)), (0, .ref q), (1, .ref x)]) (st' := [.int (nI k), .ref pa, .ref x]) hl bkX2_contains_16_17 rfl (fun ls hl => ?_)
        refine z_aald B 3 rfl ar.2 (vp_in_nI hk4 (by omega)) (v := .ref x2) (by rw [nI_clamp (by omega)]; exact e2) dX2_contains_17 ?_
        obtain ⟨fs9, ho⟩ := hx.ob
        have hc := hbr.cmp (hb k hk4)
        refine n_callV B (c_X1_against l G A x x2 _ _ hc.1 hc.2) cy_X1_against im_X1_against se_X1_against wd_M_X2_44 rfl ho ⟨hx, hx2⟩ rfl hl.1 rfl (Nat.le_of_ble_eq_true rfl) ⟨by decide, by decide⟩ ⟨Nat.zero_le _, Nat.zero_le _⟩ dX2_contains_18 (fun v hv => ?_)
        rw [po_X1_against] at hv
        subst hv
        rcases cmpR_3 r (pt k) with hO | hO | hO
        · have hw : r < pt k := cmpR_lt.mp hO
          rw [hO]
          refine pb_blk B.hx B.hb (lv' := [(3, .int (-1)), (2, .int (nI k)), (0, .ref q), (1, .ref x)]) (st' := [.int (-1)]) hl bkX2_contains_21_23 rfl (fun ls hl => ?_)
          refine lv_if_gt (tgt := 45) B.hx B.hb dX2_contains_23 (by decide) (fun h => absurd h (by decide)) (fun _ => ?_)
          refine pb_blk B.hx B.hb (lv' := [(3, .int (-1)), (2, .int (nI k)), (0, .ref q), (1, .ref x)]) (st' := [.ref q]) hl bkX2_contains_26_27 rfl (fun ls hl => ?_)
          refine z_get B ciX2 1 (by decide) ob wd_F_X2_15 rfl dX2_contains_27 ?_
          refine pb_blk B.hx B.hb (lv' := [(3, .int (-1)), (2, .int (nI k)), (0, .ref q), (1, .ref x)]) (st' := [.int (-1), .int (2 * (nI k)), .ref ca]) hl bkX2_contains_30_34 rfl (fun ls hl => ?_)
          refine lv_if_ne (tgt := 41) B.hx B.hb dX2_contains_34 (by decide) (fun _ => ?_) (fun h => absurd h (by decide))
          refine pb_blk B.hx B.hb (lv' := [(3, .int (-1)), (2, .int (nI k)), (0, .ref q), (1, .ref x)]) (st' := [.int ((2 * (nI k)) + 0), .ref ca]) hl bkX2_contains_41_43 rfl (fun ls hl => ?_)
          rw [ixz k]
          refine z_zald B az.2 (vp_in_nI (show 2 * k + 0 < 2 * n + 1 by omega) (by omega)) (v := .int (b2i (mk (2 * k + 0)))) (by rw [nI_clamp (by omega)]; exact hg _ (by omega)) dX2_contains_43 ?_
          exact n_zret B dX2_contains_44 (b2i_n _) ⟨2 * k + 0, ⟨k, Nat.le_of_lt hk4, hu, Or.inr ⟨fun _ => hw, rfl⟩⟩, rfl⟩ (Nat.le_refl _) (Nat.le_refl _)
        · have hw : r = pt k := cmpR_0.mp hO
          rw [hO]
          refine pb_blk B.hx B.hb (lv' := [(3, .int 0), (2, .int (nI k)), (0, .ref q), (1, .ref x)]) (st' := [.int 0]) hl bkX2_contains_21_23 rfl (fun ls hl => ?_)
          refine lv_if_gt (tgt := 45) B.hx B.hb dX2_contains_23 (by decide) (fun h => absurd h (by decide)) (fun _ => ?_)
          refine pb_blk B.hx B.hb (lv' := [(3, .int 0), (2, .int (nI k)), (0, .ref q), (1, .ref x)]) (st' := [.ref q]) hl bkX2_contains_26_27 rfl (fun ls hl => ?_)
          refine z_get B ciX2 1 (by decide) ob wd_F_X2_15 rfl dX2_contains_27 ?_
          refine pb_blk B.hx B.hb (lv' := [(3, .int 0), (2, .int (nI k)), (0, .ref q), (1, .ref x)]) (st' := [.int 0, .int (2 * (nI k)), .ref ca]) hl bkX2_contains_30_34 rfl (fun ls hl => ?_)
          refine lv_if_ne (tgt := 41) B.hx B.hb dX2_contains_34 (by decide) (fun h => absurd h (by decide)) (fun _ => ?_)
          refine pb_blk B.hx B.hb (lv' := [(3, .int 0), (2, .int (nI k)), (0, .ref q), (1, .ref x)]) (st' := [.int ((2 * (nI k)) + 1), .ref ca]) hl bkX2_contains_37_43 rfl (fun ls hl => ?_)
          rw [ix1 k]
          refine z_zald B az.2 (vp_in_nI (show 2 * k + 1 < 2 * n + 1 by omega) (by omega)) (v := .int (b2i (mk (2 * k + 1)))) (by rw [nI_clamp (by omega)]; exact hg _ (by omega)) dX2_contains_43 ?_
          exact n_zret B dX2_contains_44 (b2i_n _) ⟨2 * k + 1, ⟨k, Nat.le_of_lt hk4, hu, Or.inl ⟨hk4, hw, rfl⟩⟩, rfl⟩ (Nat.le_refl _) (Nat.le_refl _)
        · have hw : pt k < r := cmpR_gt.mp hO
          rw [hO]
          refine pb_blk B.hx B.hb (lv' := [(3, .int 1), (2, .int (nI k)), (0, .ref q), (1, .ref x)]) (st' := [.int 1]) hl bkX2_contains_21_23 rfl (fun ls hl => ?_)
          refine lv_if_gt (tgt := 45) B.hx B.hb dX2_contains_23 (by decide) (fun _ => ?_) (fun h => absurd h (by decide))
          refine pb_blk B.hx B.hb (lv' := [(2, .int ((nI k) + 1)), (3, .int 1), (0, .ref q), (1, .ref x)]) (st' := []) hl bkX2_contains_45_2 rfl (fun ls hl => ?_)
          exact ih (k + 1) ls (by omega) hk4 (fun j hj => (Nat.lt_succ_iff_lt_or_eq.mp hj).elim (hu j) (fun e9 => by rw [e9]; exact hw)) (by rw [← nI_1]; exact lv_sub hl [0, 2, 3] rfl)
  refine pb_blk B.hx B.hb (lv' := [(2, .int 0), (0, .ref q), (1, .ref x)]) (st' := []) hl bkX2_contains_0_2 rfl (fun ls hl => ?_)
  exact loop (n + 1) 0 ls (by omega) (by omega) (fun j hj => absurd hj (Nat.not_lt_zero _)) (lv_sub hl [0, 1, 2] rfl)

def po_X2_isEmpty (G : Gm) (A : Nat → Prop) (q n : Nat) (pt : Nat → Rat) (mk : Nat → Bool) : Option Value → Prop := fun v => v = some (.int (b2i (decide (n = 0) && !mk 0)))
theorem bkX2_isEmpty_0_1 : pb_chk cX2_isEmpty 0 [.aload_n 0] = some 1 := by decide +kernel
theorem dX2_isEmpty_1 : decode cX2_isEmpty 1 = .ok (.getfield 9, 3) := by decide +kernel
theorem dX2_isEmpty_4 : decode cX2_isEmpty 4 = .ok (.arraylength, 1) := by decide +kernel
theorem dX2_isEmpty_5 : decode cX2_isEmpty 5 = .ok (.ifCond .ne 16, 3) := by decide +kernel
theorem bkX2_isEmpty_21_22 : pb_chk cX2_isEmpty 21 [.iconst 0] = some 22 := by decide +kernel
theorem dX2_isEmpty_22 : decode cX2_isEmpty 22 = .ok (.ireturn, 1) := by decide +kernel
theorem bkX2_isEmpty_8_9 : pb_chk cX2_isEmpty 8 [.aload_n 0] = some 9 := by decide +kernel
theorem dX2_isEmpty_9 : decode cX2_isEmpty 9 = .ok (.getfield 15, 3) := by decide +kernel
theorem bkX2_isEmpty_12_13 : pb_chk cX2_isEmpty 12 [.iconst 0] = some 13 := by decide +kernel
theorem dX2_isEmpty_13 : decode cX2_isEmpty 13 = .ok (.baload, 1) := by decide +kernel
theorem dX2_isEmpty_14 : decode cX2_isEmpty 14 = .ok (.ifCond .ne 7, 3) := by decide +kernel
theorem bkX2_isEmpty_17_22 : pb_chk cX2_isEmpty 17 [.iconst 1, .goto 4] = some 22 := by decide +kernel
set_option maxHeartbeats 4000000 in
set_option maxRecDepth 100000 in
theorem c_X2_isEmpty (l : Launch) (G : Gm) (A : Nat → Prop) (q n : Nat) (pt : Nat → Rat) (mk : Nat → Bool) (hn : n < 2 ^ 20) : Mn l yX2_isEmpty cX2_isEmpty 1 (some .boolean) (⟨0, 0, 0, 0⟩ : Room) G [.ref q] (fun H => Ls G A H q n pt mk) (po_X2_isEmpty G A q n pt mk) := by
  refine of_met (by decide) (Nat.le_of_ble_eq_true rfl) ?_
  intro p e s m below meth c ls B hA ⟨pa, ca, ob, ⟨f, ar, hf⟩, ⟨g, az, hg⟩⟩ hl
  refine pb_blk B.hx B.hb (lv' := [(0, .ref q)]) (st' := [.ref q]) hl bkX2_isEmpty_0_1 rfl (fun ls hl => ?_)
  refine z_get B ciX2 0 (by decide) ob wd_F_X2_9 rfl dX2_isEmpty_1 ?_
  refine z_alen B 3 rfl ar.2 dX2_isEmpty_4 ?_
  refine lv_if_ne (tgt := 21) B.hx B.hb dX2_isEmpty_5 (by decide) (fun h1 => ?_) (fun h1 => ?_)
  · have e0 : ¬ n = 0 := fun q => h1 (by rw [q]; rfl)
    refine pb_blk B.hx B.hb (lv' := [(0, .ref q)]) (st' := [.int 0]) hl bkX2_isEmpty_21_22 rfl (fun ls hl => ?_)
    exact n_zret B dX2_isEmpty_22 rfl (by rw [po_X2_isEmpty, decide_eq_false e0]; rfl) (Nat.le_refl _) (Nat.le_refl _)
  · have e0 : n = 0 := (nI_eq (by omega) (by decide)).mp h1
    refine pb_blk B.hx B.hb (lv' := [(0, .ref q)]) (st' := [.ref q]) hl bkX2_isEmpty_8_9 rfl (fun ls hl => ?_)
    refine z_get B ciX2 1 (by decide) ob wd_F_X2_15 rfl dX2_isEmpty_9 ?_
    refine pb_blk B.hx B.hb (lv' := [(0, .ref q)]) (st' := [.int 0, .ref ca]) hl bkX2_isEmpty_12_13 rfl (fun ls hl => ?_)
    refine z_zald B az.2 (vp_in_nI (show 0 < 2 * n + 1 by omega) (by omega)) (v := .int (b2i (mk 0))) (hg 0 (by omega)) dX2_isEmpty_13 ?_
    refine lv_if_ne (tgt := 21) B.hx B.hb dX2_isEmpty_14 (by decide) (fun h2 => ?_) (fun h2 => ?_)
    · have e1 := ts9 (fun q => h2 ((b2i_0 _).mpr q))
      refine pb_blk B.hx B.hb (lv' := [(0, .ref q)]) (st' := [.int 0]) hl bkX2_isEmpty_21_22 rfl (fun ls hl => ?_)
      exact n_zret B dX2_isEmpty_22 rfl (by rw [po_X2_isEmpty, e1, Bool.not_true, Bool.and_false]; rfl) (Nat.le_refl _) (Nat.le_refl _)
    · have e1 := (b2i_0 _).mp h2
      refine pb_blk B.hx B.hb (lv' := [(0, .ref q)]) (st' := [.int 1]) hl bkX2_isEmpty_17_22 rfl (fun ls hl => ?_)
      exact n_zret B dX2_isEmpty_22 rfl (by rw [po_X2_isEmpty, e1, decide_eq_true e0]; rfl) (Nat.le_refl _) (Nat.le_refl _)

def po_X2_startsPiece (G : Gm) (A : Nat → Prop) (q n c0 : Nat) (pt : Nat → Rat) (mk : Nat → Bool) : Option Value → Prop := fun v => v = some (.int (b2i (sp mk c0)))
theorem bkX2_startsPiece_0_1 : pb_chk cX2_startsPiece 0 [.aload_n 0] = some 1 := by decide +kernel
theorem dX2_startsPiece_1 : decode cX2_startsPiece 1 = .ok (.getfield 15, 3) := by decide +kernel
theorem bkX2_startsPiece_4_5 : pb_chk cX2_startsPiece 4 [.iload_n 1] = some 5 := by decide +kernel
theorem dX2_startsPiece_5 : decode cX2_startsPiece 5 = .ok (.baload, 1) := by decide +kernel
theorem dX2_startsPiece_6 : decode cX2_startsPiece 6 = .ok (.ifCond .eq 22, 3) := by decide +kernel
theorem bkX2_startsPiece_28_29 : pb_chk cX2_startsPiece 28 [.iconst 0] = some 29 := by decide +kernel
theorem dX2_startsPiece_29 : decode cX2_startsPiece 29 = .ok (.ireturn, 1) := by decide +kernel
theorem bkX2_startsPiece_9_10 : pb_chk cX2_startsPiece 9 [.iload_n 1] = some 10 := by decide +kernel
theorem dX2_startsPiece_10 : decode cX2_startsPiece 10 = .ok (.ifCond .eq 14, 3) := by decide +kernel
theorem bkX2_startsPiece_24_29 : pb_chk cX2_startsPiece 24 [.iconst 1, .goto 4] = some 29 := by decide +kernel
theorem bkX2_startsPiece_13_14 : pb_chk cX2_startsPiece 13 [.aload_n 0] = some 14 := by decide +kernel
theorem dX2_startsPiece_14 : decode cX2_startsPiece 14 = .ok (.getfield 15, 3) := by decide +kernel
theorem bkX2_startsPiece_17_20 : pb_chk cX2_startsPiece 17 [.iload_n 1, .iconst 1, .isub] = some 20 := by decide +kernel
theorem dX2_startsPiece_20 : decode cX2_startsPiece 20 = .ok (.baload, 1) := by decide +kernel
theorem dX2_startsPiece_21 : decode cX2_startsPiece 21 = .ok (.ifCond .ne 7, 3) := by decide +kernel
set_option maxHeartbeats 4000000 in
set_option maxRecDepth 100000 in
theorem c_X2_startsPiece (l : Launch) (G : Gm) (A : Nat → Prop) (q n c0 : Nat) (pt : Nat → Rat) (mk : Nat → Bool) (hn : n < 2 ^ 20) (hc : c0 < 2 * n + 1) : Mn l yX2_startsPiece cX2_startsPiece 2 (some .boolean) (⟨0, 0, 0, 0⟩ : Room) G [.ref q, .int (nI c0)] (fun H => Ls G A H q n pt mk) (po_X2_startsPiece G A q n c0 pt mk) := by
  refine of_met (by decide) (Nat.le_of_ble_eq_true rfl) ?_
  intro p e s m below meth c ls B hA ⟨pa, ca, ob, ⟨f, ar, hf⟩, ⟨g, az, hg⟩⟩ hl
  refine pb_blk B.hx B.hb (lv' := [(0, .ref q), (1, .int (nI c0))]) (st' := [.ref q]) hl bkX2_startsPiece_0_1 rfl (fun ls hl => ?_)
  refine z_get B ciX2 1 (by decide) ob wd_F_X2_15 rfl dX2_startsPiece_1 ?_
  refine pb_blk B.hx B.hb (lv' := [(0, .ref q), (1, .int (nI c0))]) (st' := [.int (nI c0), .ref ca]) hl bkX2_startsPiece_4_5 rfl (fun ls hl => ?_)
  refine z_zald B az.2 (vp_in_nI (show c0 < 2 * n + 1 by omega) (by omega)) (v := .int (b2i (mk (c0)))) (by rw [nI_clamp (by omega)]; exact hg _ (by omega)) dX2_startsPiece_5 ?_
  refine lv_if_eq (tgt := 28) B.hx B.hb dX2_startsPiece_6 (by decide) (fun h1 => ?_) (fun h1 => ?_)
  · have e1 := (b2i_0 _).mp h1
    refine pb_blk B.hx B.hb (lv' := [(0, .ref q), (1, .int (nI c0))]) (st' := [.int 0]) hl bkX2_startsPiece_28_29 rfl (fun ls hl => ?_)
    exact n_zret B dX2_startsPiece_29 rfl (by rw [po_X2_startsPiece, sp, e1]; rfl) (Nat.le_refl _) (Nat.le_refl _)
  · have e1 := ts9 (fun q => h1 ((b2i_0 _).mpr q))
    refine pb_blk B.hx B.hb (lv' := [(0, .ref q), (1, .int (nI c0))]) (st' := [.int (nI c0)]) hl bkX2_startsPiece_9_10 rfl (fun ls hl => ?_)
    refine lv_if_eq (tgt := 24) B.hx B.hb dX2_startsPiece_10 (by decide) (fun h2 => ?_) (fun h2 => ?_)
    · have e2 : c0 = 0 := (nI_eq (by omega) (by decide)).mp h2
      refine pb_blk B.hx B.hb (lv' := [(0, .ref q), (1, .int (nI c0))]) (st' := [.int 1]) hl bkX2_startsPiece_24_29 rfl (fun ls hl => ?_)
      exact n_zret B dX2_startsPiece_29 rfl (by rw [po_X2_startsPiece, sp, e1, e2]; rfl) (Nat.le_refl _) (Nat.le_refl _)
    · have e2 : c0 ≠ 0 := fun q => h2 (by rw [q]; rfl)
      refine pb_blk B.hx B.hb (lv' := [(0, .ref q), (1, .int (nI c0))]) (st' := [.ref q]) hl bkX2_startsPiece_13_14 rfl (fun ls hl => ?_)
      refine z_get B ciX2 1 (by decide) ob wd_F_X2_15 rfl dX2_startsPiece_14 ?_
      refine pb_blk B.hx B.hb (lv' := [(0, .ref q), (1, .int (nI c0))]) (st' := [.int ((nI c0) - 1), .ref ca]) hl bkX2_startsPiece_17_20 rfl (fun ls hl => ?_)
      rw [show nI c0 - 1 = nI (c0 - 1) from by rw [← nI_pred (c0 - 1), show c0 - 1 + 1 = c0 by omega]]
      refine z_zald B az.2 (vp_in_nI (show c0 - 1 < 2 * n + 1 by omega) (by omega)) (v := .int (b2i (mk (c0 - 1)))) (by rw [nI_clamp (by omega)]; exact hg _ (by omega)) dX2_startsPiece_20 ?_
      refine lv_if_ne (tgt := 28) B.hx B.hb dX2_startsPiece_21 (by decide) (fun h3 => ?_) (fun h3 => ?_)
      · have e3 := ts9 (fun q => h3 ((b2i_0 _).mpr q))
        refine pb_blk B.hx B.hb (lv' := [(0, .ref q), (1, .int (nI c0))]) (st' := [.int 0]) hl bkX2_startsPiece_28_29 rfl (fun ls hl => ?_)
        exact n_zret B dX2_startsPiece_29 rfl (by rw [po_X2_startsPiece, sp, e1, e3, beq_false_of_ne e2]; rfl) (Nat.le_refl _) (Nat.le_refl _)
      · have e3 := (b2i_0 _).mp h3
        refine pb_blk B.hx B.hb (lv' := [(0, .ref q), (1, .int (nI c0))]) (st' := [.int 1]) hl bkX2_startsPiece_24_29 rfl (fun ls hl => ?_)
        exact n_zret B dX2_startsPiece_29 rfl (by rw [po_X2_startsPiece, sp, e1, e3, Bool.not_false, Bool.or_true]; rfl) (Nat.le_refl _) (Nat.le_refl _)

def po_X2_pieceCount (G : Gm) (A : Nat → Prop) (q n : Nat) (pt : Nat → Rat) (mk : Nat → Bool) : Option Value → Prop := fun v => v = some (.int (nI (pcn mk (2 * n + 1))))
theorem bkX2_pieceCount_0_4 : pb_chk cX2_pieceCount 0 [.iconst 0, .istore_n 1, .iconst 0, .istore_n 2] = some 4 := by decide +kernel
theorem bkX2_pieceCount_4_6 : pb_chk cX2_pieceCount 4 [.iload_n 2, .aload_n 0] = some 6 := by decide +kernel
theorem dX2_pieceCount_6 : decode cX2_pieceCount 6 = .ok (.getfield 15, 3) := by decide +kernel
theorem dX2_pieceCount_9 : decode cX2_pieceCount 9 = .ok (.arraylength, 1) := by decide +kernel
theorem dX2_pieceCount_10 : decode cX2_pieceCount 10 = .ok (.if_icmp .ge 25, 3) := by decide +kernel
theorem bkX2_pieceCount_35_36 : pb_chk cX2_pieceCount 35 [.iload_n 1] = some 36 := by decide +kernel
theorem dX2_pieceCount_36 : decode cX2_pieceCount 36 = .ok (.ireturn, 1) := by decide +kernel
theorem bkX2_pieceCount_13_16 : pb_chk cX2_pieceCount 13 [.iload_n 1, .aload_n 0, .iload_n 2] = some 16 := by decide +kernel
theorem dX2_pieceCount_16 : decode cX2_pieceCount 16 = .ok (.invokevirtual 48, 3) := by decide +kernel
theorem dX2_pieceCount_19 : decode cX2_pieceCount 19 = .ok (.ifCond .eq 7, 3) := by decide +kernel
theorem bkX2_pieceCount_26_4 : pb_chk cX2_pieceCount 26 [.iconst 0, .iadd, .istore_n 1, .iinc 2 1, .goto (-28)] = some 4 := by decide +kernel
theorem bkX2_pieceCount_22_4 : pb_chk cX2_pieceCount 22 [.iconst 1, .goto 4, .iadd, .istore_n 1, .iinc 2 1, .goto (-28)] = some 4 := by decide +kernel
set_option maxHeartbeats 4000000 in
set_option maxRecDepth 100000 in
theorem c_X2_pieceCount (l : Launch) (G : Gm) (A : Nat → Prop) (q n : Nat) (pt : Nat → Rat) (mk : Nat → Bool) (hn : n < 2 ^ 20) : Mn l yX2_pieceCount cX2_pieceCount 3 (some .int) (⟨1, 0, 0, 21⟩ : Room) G [.ref q] (fun H => Ls G A H q n pt mk) (po_X2_pieceCount G A q n pt mk) := by
  refine of_met (by decide) (Nat.le_of_ble_eq_true rfl) ?_
  intro p e s m below meth c ls B hA hs hl
  obtain ⟨pa, ca, ob, ⟨f, ar, hf⟩, ⟨g, az, hg⟩⟩ := id hs
  have loop : ∀ (n2 k : Nat) (ls : Array Slot), 2 * n + 2 ≤ k + n2 → k ≤ 2 * n + 1 → lv_has ls 3 [(2, .int (nI k)), (1, .int (nI (pcn mk k))), (0, .ref q)] → W p l e (⟨1, 0, 0, 21⟩ : Room) s m ([.ref q] : List Value).toArray below meth c s.heap [] 0 0 (MQ below (Qn (po_X2_pieceCount G A q n pt mk)) ([.ref q] : List Value).toArray s (⟨1, 0, 0, 21⟩ : Room).cells (⟨1, 0, 0, 21⟩ : Room).slots (fun _ => False)) (F0 m 4 ls []) := by
    intro n2
    induction n2 with
    | zero => intro k ls h1 h2; omega
    | succ n2 ih =>
      intro k ls hn2 hk hl
      refine pb_blk B.hx B.hb (lv' := [(2, .int (nI k)), (1, .int (nI (pcn mk k))), (0, .ref q)]) (st' := [.ref q, .int (nI k)]) hl bkX2_pieceCount_4_6 rfl (fun ls hl => ?_)
      refine z_get B ciX2 1 (by decide) ob wd_F_X2_15 rfl dX2_pieceCount_6 ?_
      refine z_alen B 2 rfl az.2 dX2_pieceCount_9 ?_
      refine lv_icmp_ge (tgt := 35) B.hx B.hb dX2_pieceCount_10 (by decide) (fun h1 => ?_) (fun h1 => ?_)
      · have e4 : k = 2 * n + 1 := by have := nI_nlt_le (show 2 * n + 1 < 2 ^ 31 by omega) (k2_nlt h1); omega
        refine pb_blk B.hx B.hb (lv' := [(2, .int (nI k)), (1, .int (nI (pcn mk k))), (0, .ref q)]) (st' := [.int (nI (pcn mk k))]) hl bkX2_pieceCount_35_36 rfl (fun ls hl => ?_)
        exact n_iret B dX2_pieceCount_36 (by rw [po_X2_pieceCount, e4]) (Nat.le_refl _) (Nat.le_refl _)
      · have hk4 : k < 2 * n + 1 := (nI_ltI (by omega) (by omega)).mp (k2_lt h1)
        refine pb_blk B.hx B.hb (lv' := [(2, .int (nI k)), (1, .int (nI (pcn mk k))), (0, .ref q)]) (st' := [.int (nI k), .ref q, .int (nI (pcn mk k))]) hl bkX2_pieceCount_13_16 rfl (fun ls hl => ?_)
        obtain ⟨fs9, ho⟩ := hs.ob
        refine n_callV B (c_X2_startsPiece l G A q n k pt mk hn hk4) cy_X2_startsPiece im_X2_startsPiece se_X2_startsPiece wd_M_X2_48 rfl ho hs rfl hl.1 rfl (Nat.le_of_ble_eq_true rfl) ⟨by decide, by decide⟩ ⟨Nat.zero_le _, Nat.zero_le _⟩ dX2_pieceCount_16 (fun v hv => ?_)
        rw [po_X2_startsPiece] at hv
        subst hv
        refine lv_if_eq (tgt := 26) B.hx B.hb dX2_pieceCount_19 (by decide) (fun h2 => ?_) (fun h2 => ?_)
        · have e0 := (b2i_0 _).mp h2
          have e1 : pcn mk (k + 1) = pcn mk k := if_neg (by rw [e0]; decide)
          refine pb_blk B.hx B.hb (lv' := [(2, .int ((nI k) + 1)), (1, .int ((nI (pcn mk k)) + 0)), (0, .ref q)]) (st' := []) hl bkX2_pieceCount_26_4 rfl (fun ls hl => ?_)
          exact ih (k + 1) ls (by omega) hk4 (by rw [e1, ← nI_1]; have h9 := lv_sub hl [0, 1, 2] rfl; rwa [niz (pcn mk k)] at h9)
        · have e0 := ts9 (fun q => h2 ((b2i_0 _).mpr q))
          have e1 : pcn mk (k + 1) = pcn mk k + 1 := if_pos e0
          refine pb_blk B.hx B.hb (lv' := [(2, .int ((nI k) + 1)), (1, .int ((nI (pcn mk k)) + 1)), (0, .ref q)]) (st' := []) hl bkX2_pieceCount_22_4 rfl (fun ls hl => ?_)
          exact ih (k + 1) ls (by omega) hk4 (by rw [e1, ← nI_1, ← nI_1]; exact lv_sub hl [0, 1, 2] rfl)
  refine pb_blk B.hx B.hb (lv' := [(2, .int 0), (1, .int 0), (0, .ref q)]) (st' := []) hl bkX2_pieceCount_0_4 rfl (fun ls hl => ?_)
  exact loop (2 * n + 2) 0 ls (by omega) (by omega) (lv_sub hl [0, 1, 2] rfl)

def po_X2_firstCell (G : Gm) (A : Nat → Prop) (q n : Nat) (p0 : Int32) (pt : Nat → Rat) (mk : Nat → Bool) : Option Value → Prop := fun v => ∃ r : Int32, v = some (.int r) ∧ ((∃ c, c < 2 * n + 1 ∧ sp mk c = true ∧ p0 = nI (pcn mk c) ∧ r = nI c) ∨ ((∀ c, c < 2 * n + 1 → sp mk c = true → p0 ≠ nI (pcn mk c)) ∧ r = -1))
theorem bkX2_firstCell_0_4 : pb_chk cX2_firstCell 0 [.iconst 0, .istore_n 2, .iconst 0, .istore_n 3] = some 4 := by decide +kernel
theorem bkX2_firstCell_4_6 : pb_chk cX2_firstCell 4 [.iload_n 3, .aload_n 0] = some 6 := by decide +kernel
theorem dX2_firstCell_6 : decode cX2_firstCell 6 = .ok (.getfield 15, 3) := by decide +kernel
theorem dX2_firstCell_9 : decode cX2_firstCell 9 = .ok (.arraylength, 1) := by decide +kernel
theorem dX2_firstCell_10 : decode cX2_firstCell 10 = .ok (.if_icmp .ge 27, 3) := by decide +kernel
theorem bkX2_firstCell_37_38 : pb_chk cX2_firstCell 37 [.iconst (-1)] = some 38 := by decide +kernel
theorem dX2_firstCell_38 : decode cX2_firstCell 38 = .ok (.ireturn, 1) := by decide +kernel
theorem bkX2_firstCell_13_15 : pb_chk cX2_firstCell 13 [.aload_n 0, .iload_n 3] = some 15 := by decide +kernel
theorem dX2_firstCell_15 : decode cX2_firstCell 15 = .ok (.invokevirtual 48, 3) := by decide +kernel
theorem dX2_firstCell_18 : decode cX2_firstCell 18 = .ok (.ifCond .eq 13, 3) := by decide +kernel
theorem bkX2_firstCell_31_4 : pb_chk cX2_firstCell 31 [.iinc 3 1, .goto (-30)] = some 4 := by decide +kernel
theorem bkX2_firstCell_21_23 : pb_chk cX2_firstCell 21 [.iload_n 2, .iload_n 1] = some 23 := by decide +kernel
theorem dX2_firstCell_23 : decode cX2_firstCell 23 = .ok (.if_icmp .ne 5, 3) := by decide +kernel
theorem bkX2_firstCell_28_4 : pb_chk cX2_firstCell 28 [.iinc 2 1, .iinc 3 1, .goto (-30)] = some 4 := by decide +kernel
theorem bkX2_firstCell_26_27 : pb_chk cX2_firstCell 26 [.iload_n 3] = some 27 := by decide +kernel
theorem dX2_firstCell_27 : decode cX2_firstCell 27 = .ok (.ireturn, 1) := by decide +kernel
set_option maxHeartbeats 4000000 in
set_option maxRecDepth 100000 in
theorem c_X2_firstCell (l : Launch) (G : Gm) (A : Nat → Prop) (q n : Nat) (p0 : Int32) (pt : Nat → Rat) (mk : Nat → Bool) (hn : n < 2 ^ 20) : Mn l yX2_firstCell cX2_firstCell 4 (some .int) (⟨1, 0, 0, 21⟩ : Room) G [.ref q, .int p0] (fun H => Ls G A H q n pt mk) (po_X2_firstCell G A q n p0 pt mk) := by
  refine of_met (by decide) (Nat.le_of_ble_eq_true rfl) ?_
  intro p e s m below meth c ls B hA hs hl
  obtain ⟨pa, ca, ob, ⟨f, ar, hf⟩, ⟨g, az, hg⟩⟩ := id hs
  have loop : ∀ (n2 k : Nat) (ls : Array Slot), 2 * n + 2 ≤ k + n2 → k ≤ 2 * n + 1 → (∀ c, c < k → sp mk c = true → p0 ≠ nI (pcn mk c)) → lv_has ls 4 [(3, .int (nI k)), (2, .int (nI (pcn mk k))), (0, .ref q), (1, .int p0)] → W p l e (⟨1, 0, 0, 21⟩ : Room) s m ([.ref q, .int p0] : List Value).toArray below meth c s.heap [] 0 0 (MQ below (Qn (po_X2_firstCell G A q n p0 pt mk)) ([.ref q, .int p0] : List Value).toArray s (⟨1, 0, 0, 21⟩ : Room).cells (⟨1, 0, 0, 21⟩ : Room).slots (fun _ => False)) (F0 m 4 ls []) := by
    intro n2
    induction n2 with
    | zero => intro k ls h1 h2; omega
    | succ n2 ih =>
      intro k ls hn2 hk hu hl
      refine pb_blk B.hx B.hb (lv' := [(3, .int (nI k)), (2, .int (nI (pcn mk k))), (0, .ref q), (1, .int p0)]) (st' := [.ref q, .int (nI k)]) hl bkX2_firstCell_4_6 rfl (fun ls hl => ?_)
      refine z_get B ciX2 1 (by decide) ob wd_F_X2_15 rfl dX2_firstCell_6 ?_
      refine z_alen B 2 rfl az.2 dX2_firstCell_9 ?_
      refine lv_icmp_ge (tgt := 37) B.hx B.hb dX2_firstCell_10 (by decide) (fun h1 => ?_) (fun h1 => ?_)
      · have e4 : k = 2 * n + 1 := by have := nI_nlt_le (show 2 * n + 1 < 2 ^ 31 by omega) (k2_nlt h1); omega
        refine pb_blk B.hx B.hb (lv' := [(3, .int (nI k)), (2, .int (nI (pcn mk k))), (0, .ref q), (1, .int p0)]) (st' := [.int (-1)]) hl bkX2_firstCell_37_38 rfl (fun ls hl => ?_)
        exact n_iret B dX2_firstCell_38 ⟨-1, rfl, Or.inr ⟨fun c hc => hu c (by omega), rfl⟩⟩ (Nat.le_refl _) (Nat.le_refl _)
      · have hk4 : k < 2 * n + 1 := (nI_ltI (by omega) (by omega)).mp (k2_lt h1)
        refine pb_blk B.hx B.hb (lv' := [(3, .int (nI k)), (2, .int (nI (pcn mk k))), (0, .ref q), (1, .int p0)]) (st' := [.int (nI k), .ref q]) hl bkX2_firstCell_13_15 rfl (fun ls hl => ?_)
        obtain ⟨fs9, ho⟩ := hs.ob
        refine n_callV B (c_X2_startsPiece l G A q n k pt mk hn hk4) cy_X2_startsPiece im_X2_startsPiece se_X2_startsPiece wd_M_X2_48 rfl ho hs rfl hl.1 rfl (Nat.le_of_ble_eq_true rfl) ⟨by decide, by decide⟩ ⟨Nat.zero_le _, Nat.zero_le _⟩ dX2_firstCell_15 (fun v hv => ?_)
        rw [po_X2_startsPiece] at hv
        subst hv
        refine lv_if_eq (tgt := 31) B.hx B.hb dX2_firstCell_18 (by decide) (fun h2 => ?_) (fun h2 => ?_)
        · have e0 := (b2i_0 _).mp h2
          have e1 : pcn mk (k + 1) = pcn mk k := if_neg (by rw [e0]; decide)
          refine pb_blk B.hx B.hb (lv' := [(3, .int ((nI k) + 1)), (2, .int (nI (pcn mk k))), (0, .ref q), (1, .int p0)]) (st' := []) hl bkX2_firstCell_31_4 rfl (fun ls hl => ?_)
          exact ih (k + 1) ls (by omega) hk4 (fun c hc => (Nat.lt_succ_iff_lt_or_eq.mp hc).elim (hu c) (fun e9 h9 => by rw [e9, e0] at h9; cases h9)) (by rw [e1, ← nI_1]; exact lv_sub hl [0, 1, 2, 3] rfl)
        · have e0 := ts9 (fun q => h2 ((b2i_0 _).mpr q))
          have e1 : pcn mk (k + 1) = pcn mk k + 1 := if_pos e0
          refine pb_blk B.hx B.hb (lv' := [(3, .int (nI k)), (2, .int (nI (pcn mk k))), (0, .ref q), (1, .int p0)]) (st' := [.int p0, .int (nI (pcn mk k))]) hl bkX2_firstCell_21_23 rfl (fun ls hl => ?_)
          refine lv_icmp_ne (tgt := 28) B.hx B.hb dX2_firstCell_23 (by decide) (fun h3 => ?_) (fun h3 => ?_)
          · refine pb_blk B.hx B.hb (lv' := [(3, .int ((nI k) + 1)), (2, .int ((nI (pcn mk k)) + 1)), (0, .ref q), (1, .int p0)]) (st' := []) hl bkX2_firstCell_28_4 rfl (fun ls hl => ?_)
            exact ih (k + 1) ls (by omega) hk4 (fun c hc => (Nat.lt_succ_iff_lt_or_eq.mp hc).elim (hu c) (fun e9 h9 => by rw [e9]; exact fun q => h3 q.symm)) (by rw [e1, ← nI_1, ← nI_1]; exact lv_sub hl [0, 1, 2, 3] rfl)
          · refine pb_blk B.hx B.hb (lv' := [(3, .int (nI k)), (2, .int (nI (pcn mk k))), (0, .ref q), (1, .int p0)]) (st' := [.int (nI k)]) hl bkX2_firstCell_26_27 rfl (fun ls hl => ?_)
            exact n_iret B dX2_firstCell_27 ⟨_, rfl, Or.inl ⟨k, hk4, e0, h3.symm, rfl⟩⟩ (Nat.le_refl _) (Nat.le_refl _)
  refine pb_blk B.hx B.hb (lv' := [(3, .int 0), (2, .int 0), (0, .ref q), (1, .int p0)]) (st' := []) hl bkX2_firstCell_0_4 rfl (fun ls hl => ?_)
  exact loop (2 * n + 2) 0 ls (by omega) (by omega) (fun c hc => absurd hc (Nat.not_lt_zero _)) (lv_sub hl [0, 1, 2, 3] rfl)

def po_X2_lastCell (G : Gm) (A : Nat → Prop) (q n c0 : Nat) (pt : Nat → Rat) (mk : Nat → Bool) : Option Value → Prop := fun v => ∃ d, c0 ≤ d ∧ d < 2 * n + 1 ∧ (∀ j, c0 < j → j ≤ d → mk j = true) ∧ (d + 1 < 2 * n + 1 → mk (d + 1) = false) ∧ v = some (.int (nI d))
theorem bkX2_lastCell_0_6 : pb_chk cX2_lastCell 0 [.iload_n 1, .istore_n 2, .iload_n 1, .iconst 1, .iadd, .istore_n 3] = some 6 := by decide +kernel
theorem bkX2_lastCell_6_8 : pb_chk cX2_lastCell 6 [.iload_n 3, .aload_n 0] = some 8 := by decide +kernel
theorem dX2_lastCell_8 : decode cX2_lastCell 8 = .ok (.getfield 15, 3) := by decide +kernel
theorem dX2_lastCell_11 : decode cX2_lastCell 11 = .ok (.arraylength, 1) := by decide +kernel
theorem dX2_lastCell_12 : decode cX2_lastCell 12 = .ok (.if_icmp .ge 20, 3) := by decide +kernel
theorem bkX2_lastCell_32_33 : pb_chk cX2_lastCell 32 [.iload_n 2] = some 33 := by decide +kernel
theorem dX2_lastCell_33 : decode cX2_lastCell 33 = .ok (.ireturn, 1) := by decide +kernel
theorem bkX2_lastCell_15_16 : pb_chk cX2_lastCell 15 [.aload_n 0] = some 16 := by decide +kernel
theorem dX2_lastCell_16 : decode cX2_lastCell 16 = .ok (.getfield 15, 3) := by decide +kernel
theorem bkX2_lastCell_19_20 : pb_chk cX2_lastCell 19 [.iload_n 3] = some 20 := by decide +kernel
theorem dX2_lastCell_20 : decode cX2_lastCell 20 = .ok (.baload, 1) := by decide +kernel
theorem dX2_lastCell_21 : decode cX2_lastCell 21 = .ok (.ifCond .eq 11, 3) := by decide +kernel
theorem bkX2_lastCell_24_6 : pb_chk cX2_lastCell 24 [.iload_n 3, .istore_n 2, .iinc 3 1, .goto (-23)] = some 6 := by decide +kernel
set_option maxHeartbeats 4000000 in
set_option maxRecDepth 100000 in
theorem c_X2_lastCell (l : Launch) (G : Gm) (A : Nat → Prop) (q n c0 : Nat) (pt : Nat → Rat) (mk : Nat → Bool) (hn : n < 2 ^ 20) (hc : c0 < 2 * n + 1) : Mn l yX2_lastCell cX2_lastCell 4 (some .int) (⟨0, 0, 0, 0⟩ : Room) G [.ref q, .int (nI c0)] (fun H => Ls G A H q n pt mk) (po_X2_lastCell G A q n c0 pt mk) := by
  refine of_met (by decide) (Nat.le_of_ble_eq_true rfl) ?_
  intro p e s m below meth c ls B hA ⟨pa, ca, ob, ⟨f, ar, hf⟩, ⟨g, az, hg⟩⟩ hl
  have loop : ∀ (n2 k : Nat) (ls : Array Slot), 2 * n + 2 ≤ k + n2 → c0 ≤ k → k < 2 * n + 1 → (∀ j, c0 < j → j ≤ k → mk j = true) → lv_has ls 4 [(3, .int (nI (k + 1))), (2, .int (nI k)), (0, .ref q)] → W p l e (⟨0, 0, 0, 0⟩ : Room) s m ([.ref q, .int (nI c0)] : List Value).toArray below meth c s.heap [] 0 0 (MQ below (Qn (po_X2_lastCell G A q n c0 pt mk)) ([.ref q, .int (nI c0)] : List Value).toArray s (⟨0, 0, 0, 0⟩ : Room).cells (⟨0, 0, 0, 0⟩ : Room).slots (fun _ => False)) (F0 m 6 ls []) := by
    intro n2
    induction n2 with
    | zero => intro k ls h1 h2; omega
    | succ n2 ih =>
      intro k ls hn2 hk0 hk hu hl
      refine pb_blk B.hx B.hb (lv' := [(3, .int (nI (k + 1))), (2, .int (nI k)), (0, .ref q)]) (st' := [.ref q, .int (nI (k + 1))]) hl bkX2_lastCell_6_8 rfl (fun ls hl => ?_)
      refine z_get B ciX2 1 (by decide) ob wd_F_X2_15 rfl dX2_lastCell_8 ?_
      refine z_alen B 2 rfl az.2 dX2_lastCell_11 ?_
      refine lv_icmp_ge (tgt := 32) B.hx B.hb dX2_lastCell_12 (by decide) (fun h1 => ?_) (fun h1 => ?_)
      · have e4 := nI_nlt_le (show 2 * n + 1 < 2 ^ 31 by omega) (k2_nlt h1)
        refine pb_blk B.hx B.hb (lv' := [(3, .int (nI (k + 1))), (2, .int (nI k)), (0, .ref q)]) (st' := [.int (nI k)]) hl bkX2_lastCell_32_33 rfl (fun ls hl => ?_)
        exact n_iret B dX2_lastCell_33 ⟨k, hk0, hk, hu, fun q => by omega, rfl⟩ (Nat.le_refl _) (Nat.le_refl _)
      · have hk4 : k + 1 < 2 * n + 1 := (nI_ltI (by omega) (by omega)).mp (k2_lt h1)
        refine pb_blk B.hx B.hb (lv' := [(3, .int (nI (k + 1))), (2, .int (nI k)), (0, .ref q)]) (st' := [.ref q]) hl bkX2_lastCell_15_16 rfl (fun ls hl => ?_)
        refine z_get B ciX2 1 (by decide) ob wd_F_X2_15 rfl dX2_lastCell_16 ?_
        refine pb_blk B.hx B.hb (lv' := [(3, .int (nI (k + 1))), (2, .int (nI k)), (0, .ref q)]) (st' := [.int (nI (k + 1)), .ref ca]) hl bkX2_lastCell_19_20 rfl (fun ls hl => ?_)
        refine z_zald B az.2 (vp_in_nI (show k + 1 < 2 * n + 1 by omega) (by omega)) (v := .int (b2i (mk (k + 1)))) (by rw [nI_clamp (by omega)]; exact hg _ (by omega)) dX2_lastCell_20 ?_
        refine lv_if_eq (tgt := 32) B.hx B.hb dX2_lastCell_21 (by decide) (fun h2 => ?_) (fun h2 => ?_)
        · have e0 := (b2i_0 _).mp h2
          refine pb_blk B.hx B.hb (lv' := [(3, .int (nI (k + 1))), (2, .int (nI k)), (0, .ref q)]) (st' := [.int (nI k)]) hl bkX2_lastCell_32_33 rfl (fun ls hl => ?_)
          exact n_iret B dX2_lastCell_33 ⟨k, hk0, hk, hu, fun _ => e0, rfl⟩ (Nat.le_refl _) (Nat.le_refl _)
        · have e0 := ts9 (fun q => h2 ((b2i_0 _).mpr q))
          refine pb_blk B.hx B.hb (lv' := [(3, .int ((nI (k + 1)) + 1)), (2, .int (nI (k + 1))), (0, .ref q)]) (st' := []) hl bkX2_lastCell_24_6 rfl (fun ls hl => ?_)
          exact ih (k + 1) ls (by omega) (by omega) hk4 (fun j g1 g2 => (Nat.lt_succ_iff_lt_or_eq.mp (Nat.lt_succ_of_le g2)).elim (fun g3 => hu j g1 (by omega)) (fun e9 => by rw [e9]; exact e0)) (by rw [← nI_1 (k + 1)]; exact lv_sub hl [0, 1, 2] rfl)
  refine pb_blk B.hx B.hb (lv' := [(3, .int ((nI c0) + 1)), (2, .int (nI c0)), (0, .ref q), (1, .int (nI c0))]) (st' := []) hl bkX2_lastCell_0_6 rfl (fun ls hl => ?_)
  exact loop (2 * n + 2) c0 ls (by omega) (Nat.le_refl _) (by omega) (fun j h1 h2 => by omega) (by rw [← nI_1]; exact lv_sub hl [0, 1, 2] rfl)

def po_J9_floorDiv_7cf53 (G : Gm) (A : Nat → Prop) (c0 : Nat) : Option Value → Prop := fun v => v = some (.int (if c0 = 0 then -1 else nI ((c0 - 1) / 2)))
theorem bkJ9_floorDiv_7cf53_0_2 : pb_chk cJ9_floorDiv_7cf53 0 [.iload_n 0, .iload_n 1] = some 2 := by decide +kernel
theorem dJ9_floorDiv_7cf53_2 : decode cJ9_floorDiv_7cf53 2 = .ok (.idiv, 1) := by decide +kernel
theorem bkJ9_floorDiv_7cf53_3_7 : pb_chk cJ9_floorDiv_7cf53 3 [.istore_n 2, .iload_n 0, .iload_n 1, .ixor] = some 7 := by decide +kernel
theorem dJ9_floorDiv_7cf53_7 : decode cJ9_floorDiv_7cf53 7 = .ok (.ifCond .ge 14, 3) := by decide +kernel
theorem bkJ9_floorDiv_7cf53_10_14 : pb_chk cJ9_floorDiv_7cf53 10 [.iload_n 2, .iload_n 1, .imul, .iload_n 0] = some 14 := by decide +kernel
theorem dJ9_floorDiv_7cf53_14 : decode cJ9_floorDiv_7cf53 14 = .ok (.if_icmp .eq 7, 3) := by decide +kernel
theorem bkJ9_floorDiv_7cf53_17_20 : pb_chk cJ9_floorDiv_7cf53 17 [.iload_n 2, .iconst 1, .isub] = some 20 := by decide +kernel
theorem dJ9_floorDiv_7cf53_20 : decode cJ9_floorDiv_7cf53 20 = .ok (.ireturn, 1) := by decide +kernel
theorem bkJ9_floorDiv_7cf53_21_22 : pb_chk cJ9_floorDiv_7cf53 21 [.iload_n 2] = some 22 := by decide +kernel
theorem dJ9_floorDiv_7cf53_22 : decode cJ9_floorDiv_7cf53 22 = .ok (.ireturn, 1) := by decide +kernel
set_option maxHeartbeats 4000000 in
set_option maxRecDepth 100000 in
theorem c_J9_floorDiv_7cf53 (l : Launch) (G : Gm) (A : Nat → Prop) (c0 : Nat) (hc : c0 < 2 ^ 20) : Mn l yJ9_floorDiv_7cf53 cJ9_floorDiv_7cf53 3 (some .int) (⟨0, 0, 0, 0⟩ : Room) G [.int (nI c0 - 1), .int 2] (fun _ => True) (po_J9_floorDiv_7cf53 G A c0) := by
  refine of_metF (by decide +kernel) (Nat.le_of_ble_eq_true rfl) ?_
  intro p e s m below meth c ls B hA _ hl
  rcases Nat.eq_zero_or_pos c0 with h0 | h0
  · subst h0
    refine pb_blk B.hx B.hb (lv' := [(0, .int (nI 0 - 1)), (1, .int 2)]) (st' := [.int 2, .int (nI 0 - 1)]) hl bkJ9_floorDiv_7cf53_0_2 rfl (fun ls hl => ?_)
    refine lv_idiv B.hx B.hb dJ9_floorDiv_7cf53_2 (by decide) ?_
    refine pb_blk B.hx B.hb (lv' := [(2, .int ((nI 0 - 1) / 2)), (0, .int (nI 0 - 1)), (1, .int 2)]) (st' := [.int ((nI 0 - 1) ^^^ 2)]) hl bkJ9_floorDiv_7cf53_3_7 rfl (fun ls hl => ?_)
    refine lv_if_ge (tgt := 21) B.hx B.hb dJ9_floorDiv_7cf53_7 (by decide) (fun h => absurd h (by decide)) (fun _ => ?_)
    refine pb_blk B.hx B.hb (lv' := [(2, .int ((nI 0 - 1) / 2)), (0, .int (nI 0 - 1)), (1, .int 2)]) (st' := [.int (nI 0 - 1), .int (((nI 0 - 1) / 2) * 2)]) hl bkJ9_floorDiv_7cf53_10_14 rfl (fun ls hl => ?_)
    refine lv_icmp_eq (tgt := 21) B.hx B.hb dJ9_floorDiv_7cf53_14 (by decide) (fun h => absurd h (by decide)) (fun _ => ?_)
    refine pb_blk B.hx B.hb (lv' := [(2, .int ((nI 0 - 1) / 2)), (0, .int (nI 0 - 1)), (1, .int 2)]) (st' := [.int (((nI 0 - 1) / 2) - 1)]) hl bkJ9_floorDiv_7cf53_17_20 rfl (fun ls hl => ?_)
    exact n_iret B dJ9_floorDiv_7cf53_20 (by rw [po_J9_floorDiv_7cf53, if_pos rfl]; exact congrArg (fun z => some (Value.int z)) (by decide)) (Nat.le_refl _) (Nat.le_refl _)
  · have e1 : nI c0 - 1 = nI (c0 - 1) := by rw [← nI_pred (c0 - 1), show c0 - 1 + 1 = c0 by omega]
    rw [e1] at hl
    refine pb_blk B.hx B.hb (lv' := [(0, .int (nI (c0 - 1))), (1, .int 2)]) (st' := [.int 2, .int (nI (c0 - 1))]) hl bkJ9_floorDiv_7cf53_0_2 rfl (fun ls hl => ?_)
    refine lv_idiv B.hx B.hb dJ9_floorDiv_7cf53_2 (by decide) ?_
    rw [show nI (c0 - 1) / 2 = nI ((c0 - 1) / 2) from pk_div (a := c0 - 1) (d := 2) (by omega) (by decide) (by decide)]
    refine pb_blk B.hx B.hb (lv' := [(2, .int (nI ((c0 - 1) / 2))), (0, .int (nI (c0 - 1))), (1, .int 2)]) (st' := [.int ((nI (c0 - 1)) ^^^ 2)]) hl bkJ9_floorDiv_7cf53_3_7 rfl (fun ls hl => ?_)
    refine lv_if_ge (tgt := 21) B.hx B.hb dJ9_floorDiv_7cf53_7 (by decide) (fun h1 => ?_) (fun h1 => ?_)
    · refine pb_blk B.hx B.hb (lv' := [(2, .int (nI ((c0 - 1) / 2))), (0, .int (nI (c0 - 1))), (1, .int 2)]) (st' := [.int (nI ((c0 - 1) / 2))]) hl bkJ9_floorDiv_7cf53_21_22 rfl (fun ls hl => ?_)
      exact n_iret B dJ9_floorDiv_7cf53_22 (by rw [po_J9_floorDiv_7cf53, if_neg (by omega)]) (Nat.le_refl _) (Nat.le_refl _)
    · exact absurd (show 0 ≤ nI (c0 - 1) ^^^ nI 2 by rw [nx_xor]; exact nI_pos' (Nat.lt_trans (Nat.xor_lt_two_pow (n := 21) (by omega) (by decide)) (by decide))) h1

def po_X2_endPlace (G : Gm) (A : Nat → Prop) (q n c0 : Nat) (side : Int32) (pt : Nat → Rat) (mk : Nat → Bool) : Option Value → Prop := fun v => v = some (.int (epl n c0 side))
theorem bkX2_endPlace_0_1 : pb_chk cX2_endPlace 0 [.iload_n 2] = some 1 := by decide +kernel
theorem dX2_endPlace_1 : decode cX2_endPlace 1 = .ok (.ifCond .ne 13, 3) := by decide +kernel
theorem bkX2_endPlace_14_16 : pb_chk cX2_endPlace 14 [.iload_n 1, .iconst 2] = some 16 := by decide +kernel
theorem dX2_endPlace_16 : decode cX2_endPlace 16 = .ok (.idiv, 1) := by decide +kernel
theorem bkX2_endPlace_17_20 : pb_chk cX2_endPlace 17 [.istore_n 3, .iload_n 3, .aload_n 0] = some 20 := by decide +kernel
theorem dX2_endPlace_20 : decode cX2_endPlace 20 = .ok (.getfield 9, 3) := by decide +kernel
theorem dX2_endPlace_23 : decode cX2_endPlace 23 = .ok (.arraylength, 1) := by decide +kernel
theorem dX2_endPlace_24 : decode cX2_endPlace 24 = .ok (.if_icmp .ge 7, 3) := by decide +kernel
theorem bkX2_endPlace_31_32 : pb_chk cX2_endPlace 31 [.iconst (-1)] = some 32 := by decide +kernel
theorem dX2_endPlace_32 : decode cX2_endPlace 32 = .ok (.ireturn, 1) := by decide +kernel
theorem bkX2_endPlace_27_32 : pb_chk cX2_endPlace 27 [.iload_n 3, .goto 4] = some 32 := by decide +kernel
theorem bkX2_endPlace_4_8 : pb_chk cX2_endPlace 4 [.iload_n 1, .iconst 1, .isub, .iconst 2] = some 8 := by decide +kernel
theorem dX2_endPlace_8 : decode cX2_endPlace 8 = .ok (.invokestatic 59, 3) := by decide +kernel
theorem bkX2_endPlace_11_20 : pb_chk cX2_endPlace 11 [.goto 6, .istore_n 3, .iload_n 3, .aload_n 0] = some 20 := by decide +kernel
set_option maxHeartbeats 4000000 in
set_option maxRecDepth 100000 in
theorem c_X2_endPlace (l : Launch) (G : Gm) (A : Nat → Prop) (q n c0 : Nat) (side : Int32) (pt : Nat → Rat) (mk : Nat → Bool) (hn : n < 2 ^ 19) (hc : c0 < 2 * n + 1) : Mn l yX2_endPlace cX2_endPlace 4 (some .int) (⟨1, 0, 0, 22⟩ : Room) G [.ref q, .int (nI c0), .int side] (fun H => Ls G A H q n pt mk) (po_X2_endPlace G A q n c0 side pt mk) := by
  refine of_met (by decide) (Nat.le_of_ble_eq_true rfl) ?_
  intro p e s m below meth c ls B hA ⟨pa, ca, ob, ⟨f, ar, hf⟩, ⟨g, az, hg⟩⟩ hl
  refine pb_blk B.hx B.hb (lv' := [(0, .ref q), (1, .int (nI c0)), (2, .int side)]) (st' := [.int side]) hl bkX2_endPlace_0_1 rfl (fun ls hl => ?_)
  refine lv_if_ne (tgt := 14) B.hx B.hb dX2_endPlace_1 (by decide) (fun h1 => ?_) (fun h1 => ?_)
  · refine pb_blk B.hx B.hb (lv' := [(0, .ref q), (1, .int (nI c0)), (2, .int side)]) (st' := [.int 2, .int (nI c0)]) hl bkX2_endPlace_14_16 rfl (fun ls hl => ?_)
    refine lv_idiv B.hx B.hb dX2_endPlace_16 (by decide) ?_
    rw [show nI c0 / 2 = nI (c0 / 2) from pk_div (a := c0) (d := 2) (by omega) (by decide) (by decide)]
    refine pb_blk B.hx B.hb (lv' := [(3, .int (nI (c0 / 2))), (0, .ref q), (1, .int (nI c0)), (2, .int side)]) (st' := [.ref q, .int (nI (c0 / 2))]) hl bkX2_endPlace_17_20 rfl (fun ls hl => ?_)
    refine z_get B ciX2 0 (by decide) ob wd_F_X2_9 rfl dX2_endPlace_20 ?_
    refine z_alen B 3 rfl ar.2 dX2_endPlace_23 ?_
    refine lv_icmp_ge (tgt := 31) B.hx B.hb dX2_endPlace_24 (by decide) (fun h3 => ?_) (fun h3 => ?_)
    · refine pb_blk B.hx B.hb (lv' := [(3, .int (nI (c0 / 2))), (0, .ref q), (1, .int (nI c0)), (2, .int side)]) (st' := [.int (-1)]) hl bkX2_endPlace_31_32 rfl (fun ls hl => ?_)
      exact n_iret B dX2_endPlace_32 (by rw [po_X2_endPlace, epl, if_neg h1, if_neg (by have := nI_nlt_le (show n < 2 ^ 31 by omega) (k2_nlt h3); omega)]) (Nat.le_refl _) (Nat.le_refl _)
    · refine pb_blk B.hx B.hb (lv' := [(3, .int (nI (c0 / 2))), (0, .ref q), (1, .int (nI c0)), (2, .int side)]) (st' := [.int (nI (c0 / 2))]) hl bkX2_endPlace_27_32 rfl (fun ls hl => ?_)
      exact n_iret B dX2_endPlace_32 (by rw [po_X2_endPlace, epl, if_neg h1, if_pos ((nI_ltI (by omega) (by omega)).mp (k2_lt h3))]) (Nat.le_refl _) (Nat.le_refl _)
  · refine pb_blk B.hx B.hb (lv' := [(0, .ref q), (1, .int (nI c0)), (2, .int side)]) (st' := [.int 2, .int ((nI c0) - 1)]) hl bkX2_endPlace_4_8 rfl (fun ls hl => ?_)
    refine n_callS B (c_J9_floorDiv_7cf53 l G A c0 (by omega)) cy_J9_floorDiv_7cf53 st_J9_floorDiv_7cf53 wd_M_X2_59 trivial rfl hl.1 rfl (Nat.le_of_ble_eq_true rfl) ⟨by decide, by decide⟩ ⟨Nat.zero_le _, Nat.zero_le _⟩ dX2_endPlace_8 (fun v hv => ?_)
    rw [po_J9_floorDiv_7cf53] at hv
    subst hv
    have e5 : epl n c0 side = (if c0 = 0 then -1 else nI ((c0 - 1) / 2)) := if_pos h1
    rw [← e5]
    refine pb_blk B.hx B.hb (lv' := [(3, .int (epl n c0 side)), (0, .ref q), (1, .int (nI c0)), (2, .int side)]) (st' := [.ref q, .int (epl n c0 side)]) hl bkX2_endPlace_11_20 rfl (fun ls hl => ?_)
    refine z_get B ciX2 0 (by decide) ob wd_F_X2_9 rfl dX2_endPlace_20 ?_
    refine z_alen B 3 rfl ar.2 dX2_endPlace_23 ?_
    refine lv_icmp_ge (tgt := 31) B.hx B.hb dX2_endPlace_24 (by decide) (fun h3 => ?_) (fun h3 => ?_)
    · refine pb_blk B.hx B.hb (lv' := [(3, .int (epl n c0 side)), (0, .ref q), (1, .int (nI c0)), (2, .int side)]) (st' := [.int (-1)]) hl bkX2_endPlace_31_32 rfl (fun ls hl => ?_)
      have e6 : ¬ nI n ≤ epl n c0 side := by
        rw [e5]
        by_cases h9 : c0 = 0
        · rw [if_pos h9]; exact fun q => absurd (show (-1 : Int32) < 0 by decide) (k2_nlt (Int32.le_trans (nI_pos' (by omega)) q))
        · rw [if_neg h9]; exact nI_ge (by omega) (by omega)
      exact absurd h3 e6
    · refine pb_blk B.hx B.hb (lv' := [(3, .int (epl n c0 side)), (0, .ref q), (1, .int (nI c0)), (2, .int side)]) (st' := [.int (epl n c0 side)]) hl bkX2_endPlace_27_32 rfl (fun ls hl => ?_)
      exact n_iret B dX2_endPlace_32 rfl (Nat.le_refl _) (Nat.le_refl _)

def po_X2_endForm (G : Gm) (A : Nat → Prop) (q n c0 : Nat) (side : Int32) (pt : Nat → Rat) (mk : Nat → Bool) : Option Value → Prop := fun v => v = some (.int (if epl n c0 side < 0 then 0 else if c0 % 2 = 1 then 2 else 1))
theorem bkX2_endForm_0_3 : pb_chk cX2_endForm 0 [.aload_n 0, .iload_n 1, .iload_n 2] = some 3 := by decide +kernel
theorem dX2_endForm_3 : decode cX2_endForm 3 = .ok (.invokevirtual 52, 3) := by decide +kernel
theorem dX2_endForm_6 : decode cX2_endForm 6 = .ok (.ifCond .ge 5, 3) := by decide +kernel
theorem bkX2_endForm_11_13 : pb_chk cX2_endForm 11 [.iload_n 1, .iconst 2] = some 13 := by decide +kernel
theorem dX2_endForm_13 : decode cX2_endForm 13 = .ok (.irem, 1) := by decide +kernel
theorem bkX2_endForm_14_15 : pb_chk cX2_endForm 14 [.iconst 1] = some 15 := by decide +kernel
theorem dX2_endForm_15 : decode cX2_endForm 15 = .ok (.if_icmp .ne 7, 3) := by decide +kernel
theorem bkX2_endForm_22_23 : pb_chk cX2_endForm 22 [.iconst 1] = some 23 := by decide +kernel
theorem dX2_endForm_23 : decode cX2_endForm 23 = .ok (.ireturn, 1) := by decide +kernel
theorem bkX2_endForm_18_23 : pb_chk cX2_endForm 18 [.iconst 2, .goto 4] = some 23 := by decide +kernel
theorem bkX2_endForm_9_10 : pb_chk cX2_endForm 9 [.iconst 0] = some 10 := by decide +kernel
theorem dX2_endForm_10 : decode cX2_endForm 10 = .ok (.ireturn, 1) := by decide +kernel
set_option maxHeartbeats 4000000 in
set_option maxRecDepth 100000 in
theorem c_X2_endForm (l : Launch) (G : Gm) (A : Nat → Prop) (q n c0 : Nat) (side : Int32) (pt : Nat → Rat) (mk : Nat → Bool) (hn : n < 2 ^ 19) (hc : c0 < 2 * n + 1) : Mn l yX2_endForm cX2_endForm 3 (some .int) (⟨2, 0, 0, 45⟩ : Room) G [.ref q, .int (nI c0), .int side] (fun H => Ls G A H q n pt mk) (po_X2_endForm G A q n c0 side pt mk) := by
  refine of_met (by decide) (Nat.le_of_ble_eq_true rfl) ?_
  intro p e s m below meth c ls B hA hs hl
  obtain ⟨fs9, ho⟩ := hs.ob
  refine pb_blk B.hx B.hb (lv' := [(0, .ref q), (1, .int (nI c0)), (2, .int side)]) (st' := [.int side, .int (nI c0), .ref q]) hl bkX2_endForm_0_3 rfl (fun ls hl => ?_)
  refine n_callV B (c_X2_endPlace l G A q n c0 side pt mk hn hc) cy_X2_endPlace im_X2_endPlace se_X2_endPlace wd_M_X2_52 rfl ho hs rfl hl.1 rfl (Nat.le_of_ble_eq_true rfl) ⟨by decide, by decide⟩ ⟨Nat.zero_le _, Nat.zero_le _⟩ dX2_endForm_3 (fun v hv => ?_)
  rw [po_X2_endPlace] at hv
  subst hv
  refine lv_if_ge (tgt := 11) B.hx B.hb dX2_endForm_6 (by decide) (fun h1 => ?_) (fun h1 => ?_)
  · have e1 : ¬ epl n c0 side < 0 := k2_nlt h1
    refine pb_blk B.hx B.hb (lv' := [(0, .ref q), (1, .int (nI c0)), (2, .int side)]) (st' := [.int 2, .int (nI c0)]) hl bkX2_endForm_11_13 rfl (fun ls hl => ?_)
    refine lv_irem B.hx B.hb dX2_endForm_13 (by decide) ?_
    rw [show nI c0 - nI c0 / 2 * 2 = nI (c0 % 2) from pk_rem (a := c0) (d := 2) (by omega) (by decide) (by decide)]
    refine pb_blk B.hx B.hb (lv' := [(0, .ref q), (1, .int (nI c0)), (2, .int side)]) (st' := [.int 1, .int (nI (c0 % 2))]) hl bkX2_endForm_14_15 rfl (fun ls hl => ?_)
    refine lv_icmp_ne (tgt := 22) B.hx B.hb dX2_endForm_15 (by decide) (fun h2 => ?_) (fun h2 => ?_)
    · have e2 : ¬ c0 % 2 = 1 := fun q => h2 (by rw [q]; rfl)
      refine pb_blk B.hx B.hb (lv' := [(0, .ref q), (1, .int (nI c0)), (2, .int side)]) (st' := [.int 1]) hl bkX2_endForm_22_23 rfl (fun ls hl => ?_)
      exact n_iret B dX2_endForm_23 (by rw [po_X2_endForm, if_neg e1, if_neg e2]) (Nat.le_refl _) (Nat.le_refl _)
    · have e2 : c0 % 2 = 1 := (nI_eq (by omega) (by decide)).mp h2
      refine pb_blk B.hx B.hb (lv' := [(0, .ref q), (1, .int (nI c0)), (2, .int side)]) (st' := [.int 2]) hl bkX2_endForm_18_23 rfl (fun ls hl => ?_)
      exact n_iret B dX2_endForm_23 (by rw [po_X2_endForm, if_neg e1, if_pos e2]) (Nat.le_refl _) (Nat.le_refl _)
  · have e1 : epl n c0 side < 0 := k2_lt h1
    refine pb_blk B.hx B.hb (lv' := [(0, .ref q), (1, .int (nI c0)), (2, .int side)]) (st' := [.int 0]) hl bkX2_endForm_9_10 rfl (fun ls hl => ?_)
    exact n_iret B dX2_endForm_10 (by rw [po_X2_endForm, if_pos e1]) (Nat.le_refl _) (Nat.le_refl _)

def po_X2_endFraction (G : Gm) (A : Nat → Prop) (q n c0 : Nat) (side : Int32) (pt : Nat → Rat) (mk : Nat → Bool) : Option Value → Heap → Prop := fun v H => ∃ x, v = some (.ref x) ∧ Fr G A H x (if epl n c0 side < 0 then 0 else pt (eplN n c0 side))
theorem bkX2_endFraction_0_3 : pb_chk cX2_endFraction 0 [.aload_n 0, .iload_n 1, .iload_n 2] = some 3 := by decide +kernel
theorem dX2_endFraction_3 : decode cX2_endFraction 3 = .ok (.invokevirtual 52, 3) := by decide +kernel
theorem bkX2_endFraction_6_8 : pb_chk cX2_endFraction 6 [.istore_n 3, .iload_n 3] = some 8 := by decide +kernel
theorem dX2_endFraction_8 : decode cX2_endFraction 8 = .ok (.ifCond .ge 15, 3) := by decide +kernel
theorem bkX2_endFraction_23_24 : pb_chk cX2_endFraction 23 [.aload_n 0] = some 24 := by decide +kernel
theorem dX2_endFraction_24 : decode cX2_endFraction 24 = .ok (.getfield 9, 3) := by decide +kernel
theorem bkX2_endFraction_27_28 : pb_chk cX2_endFraction 27 [.iload_n 3] = some 28 := by decide +kernel
theorem dX2_endFraction_28 : decode cX2_endFraction 28 = .ok (.aaload, 1) := by decide +kernel
theorem dX2_endFraction_29 : decode cX2_endFraction 29 = .ok (.areturn, 1) := by decide +kernel
theorem dX2_endFraction_11 : decode cX2_endFraction 11 = .ok (.new 19, 3) := by decide +kernel
theorem bkX2_endFraction_14_17 : pb_chk cX2_endFraction 14 [.dup, .lconst 0, .lconst 1] = some 17 := by decide +kernel
theorem dX2_endFraction_17 : decode cX2_endFraction 17 = .ok (.invokespecial 56, 3) := by decide +kernel
theorem bkX2_endFraction_20_29 : pb_chk cX2_endFraction 20 [.goto 9] = some 29 := by decide +kernel
set_option maxHeartbeats 4000000 in
set_option maxRecDepth 100000 in
theorem c_X2_endFraction (l : Launch) (G : Gm) (A : Nat → Prop) (q n c0 : Nat) (side : Int32) (pt : Nat → Rat) (mk : Nat → Bool) (hn : n < 2 ^ 19) (hc : c0 < 2 * n + 1) : Mz l yX2_endFraction cX2_endFraction 4 (some (.object "FormulaHouse$Fraction")) (⟨2, 1, 2, 45⟩ : Room) G A [.ref q, .int (nI c0), .int side] (fun H => Ls G A H q n pt mk) (po_X2_endFraction G A q n c0 side pt mk) := by
  refine of_met (by decide) (Nat.le_of_ble_eq_true rfl) ?_
  intro p e s m below meth c ls B hA hs hl
  obtain ⟨fs9, ho⟩ := hs.ob
  obtain ⟨pa, ca, ob, ⟨f, ar, hf⟩, ⟨g, az, hg⟩⟩ := id hs
  refine pb_blk B.hx B.hb (lv' := [(0, .ref q), (1, .int (nI c0)), (2, .int side)]) (st' := [.int side, .int (nI c0), .ref q]) hl bkX2_endFraction_0_3 rfl (fun ls hl => ?_)
  refine n_callV B (c_X2_endPlace l G A q n c0 side pt mk hn hc) cy_X2_endPlace im_X2_endPlace se_X2_endPlace wd_M_X2_52 rfl ho hs rfl hl.1 rfl (Nat.le_of_ble_eq_true rfl) ⟨by decide, by decide⟩ ⟨Nat.zero_le _, Nat.zero_le _⟩ dX2_endFraction_3 (fun v hv => ?_)
  rw [po_X2_endPlace] at hv
  subst hv
  refine pb_blk B.hx B.hb (lv' := [(3, .int (epl n c0 side)), (0, .ref q), (1, .int (nI c0)), (2, .int side)]) (st' := [.int (epl n c0 side)]) hl bkX2_endFraction_6_8 rfl (fun ls hl => ?_)
  refine lv_if_ge (tgt := 23) B.hx B.hb dX2_endFraction_8 (by decide) (fun h1 => ?_) (fun h1 => ?_)
  · have e1 : ¬ epl n c0 side < 0 := k2_nlt h1
    obtain ⟨e2, e3, e4⟩ := epl_pos (by omega) e1
    have e5 : eplN n c0 side < n := by unfold eplN; by_cases h9 : side = 0; rw [if_pos h9]; have := e3 h9; omega; rw [if_neg h9]; exact e4 h9
    obtain ⟨x, ex, hx⟩ := hf _ e5
    refine pb_blk B.hx B.hb (lv' := [(3, .int (epl n c0 side)), (0, .ref q), (1, .int (nI c0)), (2, .int side)]) (st' := [.ref q]) hl bkX2_endFraction_23_24 rfl (fun ls hl => ?_)
    refine z_get B ciX2 0 (by decide) ob wd_F_X2_9 rfl dX2_endFraction_24 ?_
    refine pb_blk B.hx B.hb (lv' := [(3, .int (epl n c0 side)), (0, .ref q), (1, .int (nI c0)), (2, .int side)]) (st' := [.int (epl n c0 side), .ref pa]) hl bkX2_endFraction_27_28 rfl (fun ls hl => ?_)
    rw [e2]
    refine z_aald B 3 rfl ar.2 (vp_in_nI e5 (by omega)) (v := .ref x) (by rw [nI_clamp (by omega)]; exact ex) dX2_endFraction_28 ?_
    exact z_aret B (Or.inl ⟨_, rfl⟩) dX2_endFraction_29 Ex.rf ⟨x, rfl, by rw [if_neg e1]; exact hx⟩ (Nat.le_of_ble_eq_true rfl) (Nat.le_of_ble_eq_true rfl)
  · have e1 : epl n c0 side < 0 := k2_lt h1
    refine z_new B ciX1 wd_C_X2_19 hfs_X1 (Nat.le_of_ble_eq_true rfl) (Nat.le_of_ble_eq_true rfl) dX2_endFraction_11 (fun H1 ob1 z1 o1 => ?_)
    refine pb_blk B.hx B.hb (lv' := [(3, .int (epl n c0 side)), (0, .ref q), (1, .int (nI c0)), (2, .int side)]) (st' := [.long 1, .long 0, .ref s.heap.size, .ref s.heap.size]) hl bkX2_endFraction_14_17 rfl (fun ls hl => ?_)
    refine z_ctor B (c_X1_init l G A s.heap.size 0 1 0 0) cy_X1_init im_X1_init rfl wd_M_X2_56 (Nat.le_refl _) (hA_up hA (by omega)) ob1 rfl hl.1 rfl (Nat.le_of_ble_eq_true rfl) ⟨by decide, by decide⟩ ⟨by decide, by decide⟩ dX2_endFraction_17 (fun H2 z2 o2 ob2 => ?_)
    refine pb_blk B.hx B.hb (lv' := [(3, .int (epl n c0 side)), (0, .ref q), (1, .int (nI c0)), (2, .int side)]) (st' := [.ref s.heap.size]) hl bkX2_endFraction_20_29 rfl (fun ls hl => ?_)
    exact z_aret B (Or.inl ⟨_, rfl⟩) dX2_endFraction_29 (Ex.new z1 o1 z2 o2) ⟨_, rfl, by rw [if_pos e1]; exact ⟨0, 1, ⟨hA_no hA (Nat.le_refl _), ob2⟩, frx01⟩⟩ (Nat.le_of_ble_eq_true rfl) (Nat.le_of_ble_eq_true rfl)

def po_X2_whichKind (G : Gm) (A : Nat → Prop) (q : Nat) : Option Value → Prop := fun v => v = some (.int 2)
theorem bkX2_whichKind_0_1 : pb_chk cX2_whichKind 0 [.iconst 2] = some 1 := by decide +kernel
theorem dX2_whichKind_1 : decode cX2_whichKind 1 = .ok (.ireturn, 1) := by decide +kernel
set_option maxHeartbeats 4000000 in
set_option maxRecDepth 100000 in
theorem c_X2_whichKind (l : Launch) (G : Gm) (A : Nat → Prop) (q : Nat) : Mn l yX2_whichKind cX2_whichKind 1 (some .int) (⟨0, 0, 0, 0⟩ : Room) G [.ref q] (fun _ => True) (po_X2_whichKind G A q) := by
  refine of_met (by decide) (Nat.le_of_ble_eq_true rfl) ?_
  intro p e s m below meth c ls B hA _ hl
  refine pb_blk B.hx B.hb (lv' := [(0, .ref q)]) (st' := [.int 2]) hl bkX2_whichKind_0_1 rfl (fun ls hl => ?_)
  exact n_iret B dX2_whichKind_1 rfl (Nat.le_refl _) (Nat.le_refl _)

def po_X2_isTooGreat (G : Gm) (A : Nat → Prop) (q n : Nat) (pt : Nat → Rat) (mk : Nat → Bool) : Option Value → Prop := fun v => v = some (.int (b2i (tgS n pt)))
theorem bkX2_isTooGreat_0_2 : pb_chk cX2_isTooGreat 0 [.iconst 0, .istore_n 1] = some 2 := by decide +kernel
theorem bkX2_isTooGreat_2_4 : pb_chk cX2_isTooGreat 2 [.iload_n 1, .aload_n 0] = some 4 := by decide +kernel
theorem dX2_isTooGreat_4 : decode cX2_isTooGreat 4 = .ok (.getfield 9, 3) := by decide +kernel
theorem dX2_isTooGreat_7 : decode cX2_isTooGreat 7 = .ok (.arraylength, 1) := by decide +kernel
theorem dX2_isTooGreat_8 : decode cX2_isTooGreat 8 = .ok (.if_icmp .ge 23, 3) := by decide +kernel
theorem bkX2_isTooGreat_31_32 : pb_chk cX2_isTooGreat 31 [.iconst 0] = some 32 := by decide +kernel
theorem dX2_isTooGreat_32 : decode cX2_isTooGreat 32 = .ok (.ireturn, 1) := by decide +kernel
theorem bkX2_isTooGreat_11_12 : pb_chk cX2_isTooGreat 11 [.aload_n 0] = some 12 := by decide +kernel
theorem dX2_isTooGreat_12 : decode cX2_isTooGreat 12 = .ok (.getfield 9, 3) := by decide +kernel
theorem bkX2_isTooGreat_15_16 : pb_chk cX2_isTooGreat 15 [.iload_n 1] = some 16 := by decide +kernel
theorem dX2_isTooGreat_16 : decode cX2_isTooGreat 16 = .ok (.aaload, 1) := by decide +kernel
theorem dX2_isTooGreat_17 : decode cX2_isTooGreat 17 = .ok (.invokevirtual 64, 3) := by decide +kernel
theorem dX2_isTooGreat_20 : decode cX2_isTooGreat 20 = .ok (.ifCond .eq 5, 3) := by decide +kernel
theorem bkX2_isTooGreat_25_2 : pb_chk cX2_isTooGreat 25 [.iinc 1 1, .goto (-26)] = some 2 := by decide +kernel
theorem bkX2_isTooGreat_23_24 : pb_chk cX2_isTooGreat 23 [.iconst 1] = some 24 := by decide +kernel
theorem dX2_isTooGreat_24 : decode cX2_isTooGreat 24 = .ok (.ireturn, 1) := by decide +kernel
set_option maxHeartbeats 4000000 in
set_option maxRecDepth 100000 in
theorem c_X2_isTooGreat (l : Launch) (G : Gm) (A : Nat → Prop) (q n : Nat) (pt : Nat → Rat) (mk : Nat → Bool) (hn : n < 2 ^ 20) : Mn l yX2_isTooGreat cX2_isTooGreat 2 (some .boolean) (⟨1, 0, 0, 20⟩ : Room) G [.ref q] (fun H => Ls G A H q n pt mk) (po_X2_isTooGreat G A q n pt mk) := by
  refine of_met (by decide) (Nat.le_of_ble_eq_true rfl) ?_
  intro p e s m below meth c ls B hA ⟨pa, ca, ob, ⟨f, ar, hf⟩, ⟨g, az, hg⟩⟩ hl
  have loop : ∀ (n2 k : Nat) (ls : Array Slot), n + 1 ≤ k + n2 → k ≤ n → (∀ j, j < k → tgR (pt j) = false) → lv_has ls 2 [(1, .int (nI k)), (0, .ref q)] → W p l e (⟨1, 0, 0, 20⟩ : Room) s m ([.ref q] : List Value).toArray below meth c s.heap [] 0 0 (MQ below (Qn (po_X2_isTooGreat G A q n pt mk)) ([.ref q] : List Value).toArray s (⟨1, 0, 0, 20⟩ : Room).cells (⟨1, 0, 0, 20⟩ : Room).slots (fun _ => False)) (F0 m 2 ls []) := by
    intro n2
    induction n2 with
    | zero => intro k ls h1 h2; omega
    | succ n2 ih =>
      intro k ls hn2 hk hu hl
      refine pb_blk B.hx B.hb (lv' := [(1, .int (nI k)), (0, .ref q)]) (st' := [.ref q, .int (nI k)]) hl bkX2_isTooGreat_2_4 rfl (fun ls hl => ?_)
      refine z_get B ciX2 0 (by decide) ob wd_F_X2_9 rfl dX2_isTooGreat_4 ?_
      refine z_alen B 3 rfl ar.2 dX2_isTooGreat_7 ?_
      refine lv_icmp_ge (tgt := 31) B.hx B.hb dX2_isTooGreat_8 (by decide) (fun h1 => ?_) (fun h1 => ?_)
      · have e4 : k = n := by have := nI_nlt_le (show n < 2 ^ 31 by omega) (k2_nlt h1); omega
        refine pb_blk B.hx B.hb (lv' := [(1, .int (nI k)), (0, .ref q)]) (st' := [.int 0]) hl bkX2_isTooGreat_31_32 rfl (fun ls hl => ?_)
        exact n_zret B dX2_isTooGreat_32 rfl (by rw [po_X2_isTooGreat, tgS, anyN_no (fun j hj => hu j (by omega))]; rfl) (Nat.le_refl _) (Nat.le_refl _)
      · have hk4 : k < n := (nI_ltI (by omega) (by omega)).mp (k2_lt h1)
        refine pb_blk B.hx B.hb (lv' := [(1, .int (nI k)), (0, .ref q)]) (st' := [.ref q]) hl bkX2_isTooGreat_11_12 rfl (fun ls hl => ?_)
        refine z_get B ciX2 0 (by decide) ob wd_F_X2_9 rfl dX2_isTooGreat_12 ?_
        refine pb_blk B.hx B.hb (lv' := [(1, .int (nI k)), (0, .ref q)]) (st' := [.int (nI k), .ref pa]) hl bkX2_isTooGreat_15_16 rfl (fun ls hl => ?_)
        obtain ⟨y, ey, hy⟩ := hf k hk4
        refine z_aald B 3 rfl ar.2 (vp_in_nI hk4 (by omega)) (v := .ref y) (by rw [nI_clamp (by omega)]; exact ey) dX2_isTooGreat_16 ?_
        obtain ⟨fs9, ho⟩ := hy.ob
        refine n_callV B (c_X1_isTooGreat l G A y (pt k)) cy_X1_isTooGreat im_X1_isTooGreat se_X1_isTooGreat wd_M_X2_64 rfl ho hy rfl hl.1 rfl (Nat.le_of_ble_eq_true rfl) ⟨by decide, by decide⟩ ⟨Nat.zero_le _, Nat.zero_le _⟩ dX2_isTooGreat_17 (fun v hv => ?_)
        rw [po_X1_isTooGreat] at hv
        subst hv
        refine lv_if_eq (tgt := 25) B.hx B.hb dX2_isTooGreat_20 (by decide) (fun h2 => ?_) (fun h2 => ?_)
        · refine pb_blk B.hx B.hb (lv' := [(1, .int ((nI k) + 1)), (0, .ref q)]) (st' := []) hl bkX2_isTooGreat_25_2 rfl (fun ls hl => ?_)
          exact ih (k + 1) ls (by omega) hk4 (fun j hj => (Nat.lt_succ_iff_lt_or_eq.mp hj).elim (hu j) (fun e9 => by rw [e9]; exact (b2i_0 _).mp h2)) (by rw [← nI_1]; exact lv_sub hl [0, 1] rfl)
        · have ht : tgR (pt k) = true := ts9 (fun q => h2 ((b2i_0 _).mpr q))
          refine pb_blk B.hx B.hb (lv' := [(1, .int (nI k)), (0, .ref q)]) (st' := [.int 1]) hl bkX2_isTooGreat_23_24 rfl (fun ls hl => ?_)
          exact n_zret B dX2_isTooGreat_24 rfl (by rw [po_X2_isTooGreat, tgS, anyN_yes hk4 ht]; rfl) (Nat.le_refl _) (Nat.le_refl _)
  refine pb_blk B.hx B.hb (lv' := [(1, .int 0), (0, .ref q)]) (st' := []) hl bkX2_isTooGreat_0_2 rfl (fun ls hl => ?_)
  exact loop (n + 1) 0 ls (by omega) (by omega) (fun j hj => absurd hj (Nat.not_lt_zero _)) (lv_sub hl [0, 1] rfl)

def po_X2_hasCellsOf (G : Gm) (A : Nat → Prop) (q1 q2 n1 n2 : Nat) (p1 p2 : Nat → Rat) (m1 m2 : Nat → Bool) : Option Value → Prop := fun v => ∃ r : Bool, v = some (.int (b2i r)) ∧ (r = true ↔ SameS n1 p1 m1 n2 p2 m2)
theorem bkX2_hasCellsOf_0_1 : pb_chk cX2_hasCellsOf 0 [.aload_n 1] = some 1 := by decide +kernel
theorem dX2_hasCellsOf_1 : decode cX2_hasCellsOf 1 = .ok (.getfield 9, 3) := by decide +kernel
theorem dX2_hasCellsOf_4 : decode cX2_hasCellsOf 4 = .ok (.arraylength, 1) := by decide +kernel
theorem bkX2_hasCellsOf_5_6 : pb_chk cX2_hasCellsOf 5 [.aload_n 0] = some 6 := by decide +kernel
theorem dX2_hasCellsOf_6 : decode cX2_hasCellsOf 6 = .ok (.getfield 9, 3) := by decide +kernel
theorem dX2_hasCellsOf_9 : decode cX2_hasCellsOf 9 = .ok (.arraylength, 1) := by decide +kernel
theorem dX2_hasCellsOf_10 : decode cX2_hasCellsOf 10 = .ok (.if_icmp .ne 18, 3) := by decide +kernel
theorem bkX2_hasCellsOf_28_29 : pb_chk cX2_hasCellsOf 28 [.iconst 0] = some 29 := by decide +kernel
theorem dX2_hasCellsOf_29 : decode cX2_hasCellsOf 29 = .ok (.ireturn, 1) := by decide +kernel
theorem bkX2_hasCellsOf_13_14 : pb_chk cX2_hasCellsOf 13 [.aload_n 1] = some 14 := by decide +kernel
theorem dX2_hasCellsOf_14 : decode cX2_hasCellsOf 14 = .ok (.getfield 15, 3) := by decide +kernel
theorem bkX2_hasCellsOf_17_18 : pb_chk cX2_hasCellsOf 17 [.iconst 0] = some 18 := by decide +kernel
theorem dX2_hasCellsOf_18 : decode cX2_hasCellsOf 18 = .ok (.baload, 1) := by decide +kernel
theorem bkX2_hasCellsOf_19_20 : pb_chk cX2_hasCellsOf 19 [.aload_n 0] = some 20 := by decide +kernel
theorem dX2_hasCellsOf_20 : decode cX2_hasCellsOf 20 = .ok (.getfield 15, 3) := by decide +kernel
theorem bkX2_hasCellsOf_23_24 : pb_chk cX2_hasCellsOf 23 [.iconst 0] = some 24 := by decide +kernel
theorem dX2_hasCellsOf_24 : decode cX2_hasCellsOf 24 = .ok (.baload, 1) := by decide +kernel
theorem dX2_hasCellsOf_25 : decode cX2_hasCellsOf 25 = .ok (.if_icmp .eq 5, 3) := by decide +kernel
theorem bkX2_hasCellsOf_30_32 : pb_chk cX2_hasCellsOf 30 [.iconst 0, .istore_n 2] = some 32 := by decide +kernel
theorem bkX2_hasCellsOf_32_34 : pb_chk cX2_hasCellsOf 32 [.iload_n 2, .aload_n 0] = some 34 := by decide +kernel
theorem dX2_hasCellsOf_34 : decode cX2_hasCellsOf 34 = .ok (.getfield 9, 3) := by decide +kernel
theorem dX2_hasCellsOf_37 : decode cX2_hasCellsOf 37 = .ok (.arraylength, 1) := by decide +kernel
theorem dX2_hasCellsOf_38 : decode cX2_hasCellsOf 38 = .ok (.if_icmp .ge 75, 3) := by decide +kernel
theorem bkX2_hasCellsOf_113_114 : pb_chk cX2_hasCellsOf 113 [.iconst 1] = some 114 := by decide +kernel
theorem dX2_hasCellsOf_114 : decode cX2_hasCellsOf 114 = .ok (.ireturn, 1) := by decide +kernel
theorem bkX2_hasCellsOf_41_42 : pb_chk cX2_hasCellsOf 41 [.aload_n 0] = some 42 := by decide +kernel
theorem dX2_hasCellsOf_42 : decode cX2_hasCellsOf 42 = .ok (.getfield 9, 3) := by decide +kernel
theorem bkX2_hasCellsOf_45_46 : pb_chk cX2_hasCellsOf 45 [.iload_n 2] = some 46 := by decide +kernel
theorem dX2_hasCellsOf_46 : decode cX2_hasCellsOf 46 = .ok (.aaload, 1) := by decide +kernel
theorem bkX2_hasCellsOf_47_48 : pb_chk cX2_hasCellsOf 47 [.aload_n 1] = some 48 := by decide +kernel
theorem dX2_hasCellsOf_48 : decode cX2_hasCellsOf 48 = .ok (.getfield 9, 3) := by decide +kernel
theorem bkX2_hasCellsOf_51_52 : pb_chk cX2_hasCellsOf 51 [.iload_n 2] = some 52 := by decide +kernel
theorem dX2_hasCellsOf_52 : decode cX2_hasCellsOf 52 = .ok (.aaload, 1) := by decide +kernel
theorem dX2_hasCellsOf_53 : decode cX2_hasCellsOf 53 = .ok (.invokevirtual 44, 3) := by decide +kernel
theorem dX2_hasCellsOf_56 : decode cX2_hasCellsOf 56 = .ok (.ifCond .ne 49, 3) := by decide +kernel
theorem bkX2_hasCellsOf_105_106 : pb_chk cX2_hasCellsOf 105 [.iconst 0] = some 106 := by decide +kernel
theorem dX2_hasCellsOf_106 : decode cX2_hasCellsOf 106 = .ok (.ireturn, 1) := by decide +kernel
theorem bkX2_hasCellsOf_59_60 : pb_chk cX2_hasCellsOf 59 [.aload_n 0] = some 60 := by decide +kernel
theorem dX2_hasCellsOf_60 : decode cX2_hasCellsOf 60 = .ok (.getfield 15, 3) := by decide +kernel
theorem bkX2_hasCellsOf_63_68 : pb_chk cX2_hasCellsOf 63 [.iconst 2, .iload_n 2, .imul, .iconst 1, .iadd] = some 68 := by decide +kernel
theorem dX2_hasCellsOf_68 : decode cX2_hasCellsOf 68 = .ok (.baload, 1) := by decide +kernel
theorem bkX2_hasCellsOf_69_70 : pb_chk cX2_hasCellsOf 69 [.aload_n 1] = some 70 := by decide +kernel
theorem dX2_hasCellsOf_70 : decode cX2_hasCellsOf 70 = .ok (.getfield 15, 3) := by decide +kernel
theorem bkX2_hasCellsOf_73_78 : pb_chk cX2_hasCellsOf 73 [.iconst 2, .iload_n 2, .imul, .iconst 1, .iadd] = some 78 := by decide +kernel
theorem dX2_hasCellsOf_78 : decode cX2_hasCellsOf 78 = .ok (.baload, 1) := by decide +kernel
theorem dX2_hasCellsOf_79 : decode cX2_hasCellsOf 79 = .ok (.if_icmp .ne 26, 3) := by decide +kernel
theorem bkX2_hasCellsOf_82_83 : pb_chk cX2_hasCellsOf 82 [.aload_n 0] = some 83 := by decide +kernel
theorem dX2_hasCellsOf_83 : decode cX2_hasCellsOf 83 = .ok (.getfield 15, 3) := by decide +kernel
theorem bkX2_hasCellsOf_86_91 : pb_chk cX2_hasCellsOf 86 [.iconst 2, .iload_n 2, .imul, .iconst 2, .iadd] = some 91 := by decide +kernel
theorem dX2_hasCellsOf_91 : decode cX2_hasCellsOf 91 = .ok (.baload, 1) := by decide +kernel
theorem bkX2_hasCellsOf_92_93 : pb_chk cX2_hasCellsOf 92 [.aload_n 1] = some 93 := by decide +kernel
theorem dX2_hasCellsOf_93 : decode cX2_hasCellsOf 93 = .ok (.getfield 15, 3) := by decide +kernel
theorem bkX2_hasCellsOf_96_101 : pb_chk cX2_hasCellsOf 96 [.iconst 2, .iload_n 2, .imul, .iconst 2, .iadd] = some 101 := by decide +kernel
theorem dX2_hasCellsOf_101 : decode cX2_hasCellsOf 101 = .ok (.baload, 1) := by decide +kernel
theorem dX2_hasCellsOf_102 : decode cX2_hasCellsOf 102 = .ok (.if_icmp .eq 5, 3) := by decide +kernel
theorem bkX2_hasCellsOf_107_32 : pb_chk cX2_hasCellsOf 107 [.iinc 2 1, .goto (-78)] = some 32 := by decide +kernel
set_option maxHeartbeats 4000000 in
set_option maxRecDepth 100000 in
theorem c_X2_hasCellsOf (l : Launch) (G : Gm) (A : Nat → Prop) (q1 q2 n1 n2 : Nat) (p1 p2 : Nat → Rat) (m1 m2 : Nat → Bool) (hn1 : n1 < 2 ^ 20) (hn2 : n2 < 2 ^ 20) (hb1 : ∀ j, j < n1 → Bg (p1 j)) (hb2 : ∀ j, j < n2 → Bg (p2 j)) : Mn l yX2_hasCellsOf cX2_hasCellsOf 3 (some .boolean) (⟨2, 0, 0, 44⟩ : Room) G [.ref q1, .ref q2] (fun H => Ls G A H q1 n1 p1 m1 ∧ Ls G A H q2 n2 p2 m2) (po_X2_hasCellsOf G A q1 q2 n1 n2 p1 p2 m1 m2) := by
  refine of_met (by decide) (Nat.le_of_ble_eq_true rfl) ?_
  intro p e s m below meth c ls B hA ⟨⟨pa1, ca1, ob1, ⟨f1, ar1, hf1⟩, ⟨g1, az1, hg1⟩⟩, ⟨pa2, ca2, ob2, ⟨f2, ar2, hf2⟩, ⟨g2, az2, hg2⟩⟩⟩ hl
  have loop : ∀ (en : n2 = n1) (nn k : Nat) (ls : Array Slot), n1 + 1 ≤ k + nn → k ≤ n1 → (∀ j, j < k → p1 j = p2 j) → (∀ j, j < 2 * k + 1 → m1 j = m2 j) → lv_has ls 3 [(2, .int (nI k)), (0, .ref q1), (1, .ref q2)] → W p l e (⟨2, 0, 0, 44⟩ : Room) s m ([.ref q1, .ref q2] : List Value).toArray below meth c s.heap [] 0 0 (MQ below (Qn (po_X2_hasCellsOf G A q1 q2 n1 n2 p1 p2 m1 m2)) ([.ref q1, .ref q2] : List Value).toArray s (⟨2, 0, 0, 44⟩ : Room).cells (⟨2, 0, 0, 44⟩ : Room).slots (fun _ => False)) (F0 m 32 ls []) := by
    intro en nn
    induction nn with
    | zero => intro k ls h1 h2; omega
    | succ nn ih =>
      intro k ls hnn hk hp hm hl
      refine pb_blk B.hx B.hb (lv' := [(2, .int (nI k)), (0, .ref q1), (1, .ref q2)]) (st' := [.ref q1, .int (nI k)]) hl bkX2_hasCellsOf_32_34 rfl (fun ls hl => ?_)
      refine z_get B ciX2 0 (by decide) ob1 wd_F_X2_9 rfl dX2_hasCellsOf_34 ?_
      refine z_alen B 3 rfl ar1.2 dX2_hasCellsOf_37 ?_
      refine lv_icmp_ge (tgt := 113) B.hx B.hb dX2_hasCellsOf_38 (by decide) (fun h1 => ?_) (fun h1 => ?_)
      · have e4 : k = n1 := by have := nI_nlt_le (show n1 < 2 ^ 31 by omega) (k2_nlt h1); omega
        refine pb_blk B.hx B.hb (lv' := [(2, .int (nI k)), (0, .ref q1), (1, .ref q2)]) (st' := [.int 1]) hl bkX2_hasCellsOf_113_114 rfl (fun ls hl => ?_)
        exact n_zret B dX2_hasCellsOf_114 rfl ⟨true, rfl, ⟨fun _ => ⟨en.symm, fun j hj => hp j (by omega), fun j hj => hm j (by omega)⟩, fun _ => rfl⟩⟩ (Nat.le_refl _) (Nat.le_refl _)
      · have hk4 : k < n1 := (nI_ltI (by omega) (by omega)).mp (k2_lt h1)
        obtain ⟨x1, e1, hx1⟩ := hf1 k hk4
        obtain ⟨x2, e2, hx2⟩ := hf2 k (by omega)
        refine pb_blk B.hx B.hb (lv' := [(2, .int (nI k)), (0, .ref q1), (1, .ref q2)]) (st' := [.ref q1]) hl bkX2_hasCellsOf_41_42 rfl (fun ls hl => ?_)
        refine z_get B ciX2 0 (by decide) ob1 wd_F_X2_9 rfl dX2_hasCellsOf_42 ?_
        refine pb_blk B.hx B.hb (lv' := [(2, .int (nI k)), (0, .ref q1), (1, .ref q2)]) (st' := [.int (nI k), .ref pa1]) hl bkX2_hasCellsOf_45_46 rfl (fun ls hl => ?_)
        refine z_aald B 3 rfl ar1.2 (vp_in_nI hk4 (by omega)) (v := .ref x1) (by rw [nI_clamp (by omega)]; exact e1) dX2_hasCellsOf_46 ?_
        refine pb_blk B.hx B.hb (lv' := [(2, .int (nI k)), (0, .ref q1), (1, .ref q2)]) (st' := [.ref q2, .ref x1]) hl bkX2_hasCellsOf_47_48 rfl (fun ls hl => ?_)
        refine z_get B ciX2 0 (by decide) ob2 wd_F_X2_9 rfl dX2_hasCellsOf_48 ?_
        refine pb_blk B.hx B.hb (lv' := [(2, .int (nI k)), (0, .ref q1), (1, .ref q2)]) (st' := [.int (nI k), .ref pa2, .ref x1]) hl bkX2_hasCellsOf_51_52 rfl (fun ls hl => ?_)
        refine z_aald B 3 rfl ar2.2 (vp_in_nI (show k < n2 by omega) (by omega)) (v := .ref x2) (by rw [nI_clamp (by omega)]; exact e2) dX2_hasCellsOf_52 ?_
        obtain ⟨fs9, ho⟩ := hx1.ob
        have hc := (hb1 k hk4).cmp (hb2 k (by omega))
        refine n_callV B (c_X1_against l G A x1 x2 _ _ hc.1 hc.2) cy_X1_against im_X1_against se_X1_against wd_M_X2_44 rfl ho ⟨hx1, hx2⟩ rfl hl.1 rfl (Nat.le_of_ble_eq_true rfl) ⟨by decide, by decide⟩ ⟨Nat.zero_le _, Nat.zero_le _⟩ dX2_hasCellsOf_53 (fun v hv => ?_)
        rw [po_X1_against] at hv
        subst hv
        refine lv_if_ne (tgt := 105) B.hx B.hb dX2_hasCellsOf_56 (by decide) (fun h2 => ?_) (fun h2 => ?_)
        · refine pb_blk B.hx B.hb (lv' := [(2, .int (nI k)), (0, .ref q1), (1, .ref q2)]) (st' := [.int 0]) hl bkX2_hasCellsOf_105_106 rfl (fun ls hl => ?_)
          exact n_zret B dX2_hasCellsOf_106 rfl ⟨false, rfl, ⟨fun q => (by cases q), fun q => absurd q (fun q => h2 (cmpR_0.mpr (q.2.1 k hk4)))⟩⟩ (Nat.le_refl _) (Nat.le_refl _)
        · have g0 := cmpR_0.mp h2
          refine pb_blk B.hx B.hb (lv' := [(2, .int (nI k)), (0, .ref q1), (1, .ref q2)]) (st' := [.ref q1]) hl bkX2_hasCellsOf_59_60 rfl (fun ls hl => ?_)
          refine z_get B ciX2 1 (by decide) ob1 wd_F_X2_15 rfl dX2_hasCellsOf_60 ?_
          refine pb_blk B.hx B.hb (lv' := [(2, .int (nI k)), (0, .ref q1), (1, .ref q2)]) (st' := [.int ((2 * (nI k)) + 1), .ref ca1]) hl bkX2_hasCellsOf_63_68 rfl (fun ls hl => ?_)
          rw [ix1 k]
          refine z_zald B az1.2 (vp_in_nI (show 2 * k + 1 < 2 * n1 + 1 by omega) (by omega)) (v := .int (b2i (m1 (2 * k + 1)))) (by rw [nI_clamp (by omega)]; exact hg1 _ (by omega)) dX2_hasCellsOf_68 ?_
          refine pb_blk B.hx B.hb (lv' := [(2, .int (nI k)), (0, .ref q1), (1, .ref q2)]) (st' := [.ref q2, .int (b2i (m1 (2 * k + 1)))]) hl bkX2_hasCellsOf_69_70 rfl (fun ls hl => ?_)
          refine z_get B ciX2 1 (by decide) ob2 wd_F_X2_15 rfl dX2_hasCellsOf_70 ?_
          refine pb_blk B.hx B.hb (lv' := [(2, .int (nI k)), (0, .ref q1), (1, .ref q2)]) (st' := [.int ((2 * (nI k)) + 1), .ref ca2, .int (b2i (m1 (2 * k + 1)))]) hl bkX2_hasCellsOf_73_78 rfl (fun ls hl => ?_)
          rw [ix1 k]
          refine z_zald B az2.2 (vp_in_nI (show 2 * k + 1 < 2 * n2 + 1 by omega) (by omega)) (v := .int (b2i (m2 (2 * k + 1)))) (by rw [nI_clamp (by omega)]; exact hg2 _ (by omega)) dX2_hasCellsOf_78 ?_
          refine lv_icmp_ne (tgt := 105) B.hx B.hb dX2_hasCellsOf_79 (by decide) (fun h3 => ?_) (fun h3 => ?_)
          · refine pb_blk B.hx B.hb (lv' := [(2, .int (nI k)), (0, .ref q1), (1, .ref q2)]) (st' := [.int 0]) hl bkX2_hasCellsOf_105_106 rfl (fun ls hl => ?_)
            exact n_zret B dX2_hasCellsOf_106 rfl ⟨false, rfl, ⟨fun q => (by cases q), fun q => absurd q (fun q => h3 (by rw [q.2.2 (2 * k + 1) (by omega)]))⟩⟩ (Nat.le_refl _) (Nat.le_refl _)
          · have g1 := b2i_inj.mp h3
            refine pb_blk B.hx B.hb (lv' := [(2, .int (nI k)), (0, .ref q1), (1, .ref q2)]) (st' := [.ref q1]) hl bkX2_hasCellsOf_82_83 rfl (fun ls hl => ?_)
            refine z_get B ciX2 1 (by decide) ob1 wd_F_X2_15 rfl dX2_hasCellsOf_83 ?_
            refine pb_blk B.hx B.hb (lv' := [(2, .int (nI k)), (0, .ref q1), (1, .ref q2)]) (st' := [.int ((2 * (nI k)) + 2), .ref ca1]) hl bkX2_hasCellsOf_86_91 rfl (fun ls hl => ?_)
            rw [ix2 k]
            refine z_zald B az1.2 (vp_in_nI (show 2 * k + 2 < 2 * n1 + 1 by omega) (by omega)) (v := .int (b2i (m1 (2 * k + 2)))) (by rw [nI_clamp (by omega)]; exact hg1 _ (by omega)) dX2_hasCellsOf_91 ?_
            refine pb_blk B.hx B.hb (lv' := [(2, .int (nI k)), (0, .ref q1), (1, .ref q2)]) (st' := [.ref q2, .int (b2i (m1 (2 * k + 2)))]) hl bkX2_hasCellsOf_92_93 rfl (fun ls hl => ?_)
            refine z_get B ciX2 1 (by decide) ob2 wd_F_X2_15 rfl dX2_hasCellsOf_93 ?_
            refine pb_blk B.hx B.hb (lv' := [(2, .int (nI k)), (0, .ref q1), (1, .ref q2)]) (st' := [.int ((2 * (nI k)) + 2), .ref ca2, .int (b2i (m1 (2 * k + 2)))]) hl bkX2_hasCellsOf_96_101 rfl (fun ls hl => ?_)
            rw [ix2 k]
            refine z_zald B az2.2 (vp_in_nI (show 2 * k + 2 < 2 * n2 + 1 by omega) (by omega)) (v := .int (b2i (m2 (2 * k + 2)))) (by rw [nI_clamp (by omega)]; exact hg2 _ (by omega)) dX2_hasCellsOf_101 ?_
            refine lv_icmp_eq (tgt := 107) B.hx B.hb dX2_hasCellsOf_102 (by decide) (fun h4 => ?_) (fun h4 => ?_)
            · have g2 := b2i_inj.mp h4
              refine pb_blk B.hx B.hb (lv' := [(2, .int ((nI k) + 1)), (0, .ref q1), (1, .ref q2)]) (st' := []) hl bkX2_hasCellsOf_107_32 rfl (fun ls hl => ?_)
              exact ih (k + 1) ls (by omega) hk4 (fun j hj => (Nat.lt_succ_iff_lt_or_eq.mp hj).elim (hp j) (fun e9 => by rw [e9]; exact g0)) (fun j hj => by rcases Nat.lt_or_ge j (2 * k + 1) with g | g; exact hm j g; rcases (show j = 2 * k + 1 ∨ j = 2 * k + 2 by omega) with rfl | rfl; exact g1; exact g2) (by rw [← nI_1]; exact lv_sub hl [0, 1, 2] rfl)
            · refine pb_blk B.hx B.hb (lv' := [(2, .int (nI k)), (0, .ref q1), (1, .ref q2)]) (st' := [.int 0]) hl bkX2_hasCellsOf_105_106 rfl (fun ls hl => ?_)
              exact n_zret B dX2_hasCellsOf_106 rfl ⟨false, rfl, ⟨fun q => (by cases q), fun q => absurd q (fun q => h4 (by rw [q.2.2 (2 * k + 2) (by omega)]))⟩⟩ (Nat.le_refl _) (Nat.le_refl _)
  refine pb_blk B.hx B.hb (lv' := [(0, .ref q1), (1, .ref q2)]) (st' := [.ref q2]) hl bkX2_hasCellsOf_0_1 rfl (fun ls hl => ?_)
  refine z_get B ciX2 0 (by decide) ob2 wd_F_X2_9 rfl dX2_hasCellsOf_1 ?_
  refine z_alen B 3 rfl ar2.2 dX2_hasCellsOf_4 ?_
  refine pb_blk B.hx B.hb (lv' := [(0, .ref q1), (1, .ref q2)]) (st' := [.ref q1, .int (nI n2)]) hl bkX2_hasCellsOf_5_6 rfl (fun ls hl => ?_)
  refine z_get B ciX2 0 (by decide) ob1 wd_F_X2_9 rfl dX2_hasCellsOf_6 ?_
  refine z_alen B 3 rfl ar1.2 dX2_hasCellsOf_9 ?_
  refine lv_icmp_ne (tgt := 28) B.hx B.hb dX2_hasCellsOf_10 (by decide) (fun h1 => ?_) (fun h1 => ?_)
  · refine pb_blk B.hx B.hb (lv' := [(0, .ref q1), (1, .ref q2)]) (st' := [.int 0]) hl bkX2_hasCellsOf_28_29 rfl (fun ls hl => ?_)
    exact n_zret B dX2_hasCellsOf_29 rfl ⟨false, rfl, ⟨fun q => (by cases q), fun q => absurd q (fun q => h1 (by rw [q.1]))⟩⟩ (Nat.le_refl _) (Nat.le_refl _)
  · have en : n2 = n1 := (nI_eq (by omega) (by omega)).mp h1
    refine pb_blk B.hx B.hb (lv' := [(0, .ref q1), (1, .ref q2)]) (st' := [.ref q2]) hl bkX2_hasCellsOf_13_14 rfl (fun ls hl => ?_)
    refine z_get B ciX2 1 (by decide) ob2 wd_F_X2_15 rfl dX2_hasCellsOf_14 ?_
    refine pb_blk B.hx B.hb (lv' := [(0, .ref q1), (1, .ref q2)]) (st' := [.int 0, .ref ca2]) hl bkX2_hasCellsOf_17_18 rfl (fun ls hl => ?_)
    refine z_zald B az2.2 (vp_in_nI (show 0 < 2 * n2 + 1 by omega) (by omega)) (v := .int (b2i (m2 0))) (hg2 0 (by omega)) dX2_hasCellsOf_18 ?_
    refine pb_blk B.hx B.hb (lv' := [(0, .ref q1), (1, .ref q2)]) (st' := [.ref q1, .int (b2i (m2 0))]) hl bkX2_hasCellsOf_19_20 rfl (fun ls hl => ?_)
    refine z_get B ciX2 1 (by decide) ob1 wd_F_X2_15 rfl dX2_hasCellsOf_20 ?_
    refine pb_blk B.hx B.hb (lv' := [(0, .ref q1), (1, .ref q2)]) (st' := [.int 0, .ref ca1, .int (b2i (m2 0))]) hl bkX2_hasCellsOf_23_24 rfl (fun ls hl => ?_)
    refine z_zald B az1.2 (vp_in_nI (show 0 < 2 * n1 + 1 by omega) (by omega)) (v := .int (b2i (m1 0))) (hg1 0 (by omega)) dX2_hasCellsOf_24 ?_
    refine lv_icmp_eq (tgt := 30) B.hx B.hb dX2_hasCellsOf_25 (by decide) (fun h2 => ?_) (fun h2 => ?_)
    · have e0 := b2i_inj.mp h2
      refine pb_blk B.hx B.hb (lv' := [(2, .int 0), (0, .ref q1), (1, .ref q2)]) (st' := []) hl bkX2_hasCellsOf_30_32 rfl (fun ls hl => ?_)
      exact loop en (n1 + 1) 0 ls (by omega) (by omega) (fun j hj => absurd hj (Nat.not_lt_zero _)) (fun j hj => by rw [show j = 0 by omega]; exact e0.symm) (lv_sub hl [0, 1, 2] rfl)
    · refine pb_blk B.hx B.hb (lv' := [(0, .ref q1), (1, .ref q2)]) (st' := [.int 0]) hl bkX2_hasCellsOf_28_29 rfl (fun ls hl => ?_)
      exact n_zret B dX2_hasCellsOf_29 rfl ⟨false, rfl, ⟨fun q => (by cases q), fun q => absurd q (fun q => h2 (by rw [q.2.2 0 (by omega)]))⟩⟩ (Nat.le_refl _) (Nat.le_refl _)

def po_X2_isSameAs (G : Gm) (A : Nat → Prop) (q1 q2 n1 n2 : Nat) (p1 p2 : Nat → Rat) (m1 m2 : Nat → Bool) : Option Value → Prop := fun v => ∃ r : Bool, v = some (.int (b2i r)) ∧ (r = true ↔ SameS n1 p1 m1 n2 p2 m2)
theorem bkX2_isSameAs_0_1 : pb_chk cX2_isSameAs 0 [.aload_n 1] = some 1 := by decide +kernel
theorem dX2_isSameAs_1 : decode cX2_isSameAs 1 = .ok (.instanceof 10, 3) := by decide +kernel
theorem dX2_isSameAs_4 : decode cX2_isSameAs 4 = .ok (.ifCond .eq 20, 3) := by decide +kernel
theorem bkX2_isSameAs_7_8 : pb_chk cX2_isSameAs 7 [.aload_n 1] = some 8 := by decide +kernel
theorem dX2_isSameAs_8 : decode cX2_isSameAs 8 = .ok (.checkcast 10, 3) := by decide +kernel
theorem bkX2_isSameAs_11_14 : pb_chk cX2_isSameAs 11 [.astore_n 2, .aload_n 0, .aload_n 2] = some 14 := by decide +kernel
theorem dX2_isSameAs_14 : decode cX2_isSameAs 14 = .ok (.invokevirtual 68, 3) := by decide +kernel
theorem dX2_isSameAs_17 : decode cX2_isSameAs 17 = .ok (.ifCond .eq 7, 3) := by decide +kernel
theorem bkX2_isSameAs_24_25 : pb_chk cX2_isSameAs 24 [.iconst 0] = some 25 := by decide +kernel
theorem dX2_isSameAs_25 : decode cX2_isSameAs 25 = .ok (.ireturn, 1) := by decide +kernel
theorem bkX2_isSameAs_20_25 : pb_chk cX2_isSameAs 20 [.iconst 1, .goto 4] = some 25 := by decide +kernel
set_option maxHeartbeats 4000000 in
set_option maxRecDepth 100000 in
theorem c_X2_isSameAs (l : Launch) (G : Gm) (A : Nat → Prop) (q1 q2 n1 n2 : Nat) (p1 p2 : Nat → Rat) (m1 m2 : Nat → Bool) (hn1 : n1 < 2 ^ 20) (hn2 : n2 < 2 ^ 20) (hb1 : ∀ j, j < n1 → Bg (p1 j)) (hb2 : ∀ j, j < n2 → Bg (p2 j)) : Mn l yX2_isSameAs cX2_isSameAs 3 (some .boolean) (⟨3, 0, 0, 66⟩ : Room) G [.ref q1, .ref q2] (fun H => Ls G A H q1 n1 p1 m1 ∧ Ls G A H q2 n2 p2 m2) (po_X2_isSameAs G A q1 q2 n1 n2 p1 p2 m1 m2) := by
  refine of_met (by decide) (Nat.le_of_ble_eq_true rfl) ?_
  intro p e s m below meth c ls B hA ⟨h1f, h2f⟩ hl
  obtain ⟨fs2, ho2⟩ := h2f.ob
  obtain ⟨fs1, ho1⟩ := h1f.ob
  refine pb_blk B.hx B.hb (lv' := [(0, .ref q1), (1, .ref q2)]) (st' := [.ref q2]) hl bkX2_isSameAs_0_1 rfl (fun ls hl => ?_)
  refine z_instY B (ci := 2) rfl ho2 B.hK.2.c22 wd_C_X2_10 dX2_isSameAs_1 ?_
  refine lv_if_eq (tgt := 24) B.hx B.hb dX2_isSameAs_4 (by decide) (fun h1 => ?_) (fun h1 => ?_)
  · exact absurd h1 (by decide)
  · refine pb_blk B.hx B.hb (lv' := [(0, .ref q1), (1, .ref q2)]) (st' := [.ref q2]) hl bkX2_isSameAs_7_8 rfl (fun ls hl => ?_)
    refine z_castY B (ci := 2) rfl ho2 B.hK.2.c22 wd_C_X2_10 dX2_isSameAs_8 ?_
    refine pb_blk B.hx B.hb (lv' := [(2, .ref q2), (0, .ref q1), (1, .ref q2)]) (st' := [.ref q2, .ref q1]) hl bkX2_isSameAs_11_14 rfl (fun ls hl => ?_)
    refine n_callV B (c_X2_hasCellsOf l G A q1 q2 n1 n2 p1 p2 m1 m2 hn1 hn2 hb1 hb2) cy_X2_hasCellsOf im_X2_hasCellsOf se_X2_hasCellsOf wd_M_X2_68 rfl ho1 ⟨h1f, h2f⟩ rfl hl.1 rfl (Nat.le_of_ble_eq_true rfl) ⟨by decide, by decide⟩ ⟨Nat.zero_le _, Nat.zero_le _⟩ dX2_isSameAs_14 (fun v hv => ?_)
    obtain ⟨r, rfl, hr⟩ := hv
    refine lv_if_eq (tgt := 24) B.hx B.hb dX2_isSameAs_17 (by decide) (fun h2 => ?_) (fun h2 => ?_)
    · have e0 := (b2i_0 _).mp h2
      refine pb_blk B.hx B.hb (lv' := [(2, .ref q2), (0, .ref q1), (1, .ref q2)]) (st' := [.int 0]) hl bkX2_isSameAs_24_25 rfl (fun ls hl => ?_)
      exact n_zret B dX2_isSameAs_25 rfl ⟨r, by rw [e0]; rfl, hr⟩ (Nat.le_refl _) (Nat.le_refl _)
    · have e0 := ts9 (fun q => h2 ((b2i_0 _).mpr q))
      refine pb_blk B.hx B.hb (lv' := [(2, .ref q2), (0, .ref q1), (1, .ref q2)]) (st' := [.int 1]) hl bkX2_isSameAs_20_25 rfl (fun ls hl => ?_)
      exact n_zret B dX2_isSameAs_25 rfl ⟨r, by rw [e0]; rfl, hr⟩ (Nat.le_refl _) (Nat.le_refl _)

def po_X2_isSameAsN (G : Gm) (A : Nat → Prop) (q1 q2 : Nat) (fs2 : List Value) : Option Value → Prop := fun v => v = some (.int 0)
set_option maxHeartbeats 4000000 in
set_option maxRecDepth 100000 in
theorem c_X2_isSameAsN (l : Launch) (G : Gm) (A : Nat → Prop) (q1 q2 : Nat) (fs2 : List Value) : Mn l yX2_isSameAs cX2_isSameAs 3 (some .boolean) (⟨3, 0, 0, 66⟩ : Room) G [.ref q1, .ref q2] (fun H => va_at G.1 vwCl (q2, .inr (0, fs2)) H) (po_X2_isSameAsN G A q1 q2 fs2) := by
  refine of_met (by decide) (Nat.le_of_ble_eq_true rfl) ?_
  intro p e s m below meth c ls B hA ho2 hl
  refine pb_blk B.hx B.hb (lv' := [(0, .ref q1), (1, .ref q2)]) (st' := [.ref q2]) hl bkX2_isSameAs_0_1 rfl (fun ls hl => ?_)
  refine z_instN B (ci := 0) rfl ho2 B.hK.2.n02 wd_C_X2_10 dX2_isSameAs_1 ?_
  refine lv_if_eq (tgt := 24) B.hx B.hb dX2_isSameAs_4 (by decide) (fun h1 => ?_) (fun h1 => ?_)
  · refine pb_blk B.hx B.hb (lv' := [(0, .ref q1), (1, .ref q2)]) (st' := [.int 0]) hl bkX2_isSameAs_24_25 rfl (fun ls hl => ?_)
    exact n_zret B dX2_isSameAs_25 rfl rfl (Nat.le_refl _) (Nat.le_refl _)
  · exact absurd rfl h1

