/-- a product of two rows of ten -/
def M10 (U V : Nat → Rat) : Prop := (∀ i j, i + j < 10 → U i ≠ 0 → V j ≠ 0 → (U i).num.natAbs * (V j).num.natAbs < 2 ^ 62 ∧ (U i).den * (V j).den < 2 ^ 48 ∧ (U i).num.natAbs < 2 ^ 62 ∧ (V j).num.natAbs < 2 ^ 62) ∧ ∀ m o, m < 10 → o ≤ m → U o ≠ 0 → V (m - o) ≠ 0 → Pb (psum U V m o) (U o * V (m - o))
def cnt (i k m : Nat) : Nat := if m < i + k then min (m + 1) (i + 1) else min (m + 1) i
def rst (U V : Nat → Rat) (i k : Nat) : Nat → Rat := fun m => psum U V m (cnt i k m)
theorem rst_0 (U V : Nat → Rat) (m : Nat) : rst U V 0 0 m = 0 := by
  unfold rst cnt
  rw [if_neg (by omega), Nat.min_eq_right (by omega)]
  rfl
theorem rst_at (U V : Nat → Rat) (i k : Nat) : rst U V i k (i + k) = psum U V (i + k) i ∧ rst U V i (k + 1) (i + k) = psum U V (i + k) i + U i * V k := by
  unfold rst cnt
  rw [if_neg (by omega), if_pos (by omega), Nat.min_eq_right (by omega), Nat.min_eq_right (by omega)]
  refine ⟨rfl, ?_⟩
  show psum U V (i + k) i + U i * V (i + k - i) = _
  rw [Nat.add_sub_cancel_left]
theorem rst_ne (U V : Nat → Rat) {i k m : Nat} (h : m ≠ i + k) : rst U V i (k + 1) m = rst U V i k m := by
  unfold rst cnt
  by_cases h1 : m < i + k
  · rw [if_pos h1, if_pos (by omega)]
  · rw [if_neg h1, if_neg (by omega)]
theorem rst_nx (U V : Nat → Rat) {i k m : Nat} (hm : m < i + k) : rst U V (i + 1) 0 m = rst U V i k m := by
  unfold rst cnt
  rw [if_pos hm]
  by_cases h : m < i + 1 + 0
  · rw [if_pos h]; congr 1; omega
  · rw [if_neg h]
theorem rst_end (U V : Nat → Rat) {m : Nat} (hm : m < 10) : rst U V 10 0 m = psum U V m (m + 1) := by
  unfold rst cnt
  rw [if_pos (by omega), Nat.min_eq_left (by omega)]
def OtS (S S1 : Sc) : Prop := ∀ k, k ≠ 13 → k ≠ 14 → S1 k = S k
theorem OtS.up {S S1 : Sc} {n d : Int64} (h : OtS S S1) : OtS S (va_up (va_up S1 13 (.long n)) 14 (.long d)) := fun k h1 h2 => (sd_other h1 h2).trans (h k h1 h2)

def po_X6_multiply (mo : Nat) (S : Sc) (ct : Ct) (U V : Nat → Rat) : Option Value → Sc → Ct → Prop := fun v S2 ct2 => v = none ∧ OtS S S2 ∧ RwL ct2 8 9 10 (fun m => psum U V m (m + 1)) ∧ ∀ a, a ≠ 8 → a ≠ 9 → a ≠ 14 → a ≠ 15 → ct2 a = ct a
theorem bkX6_multiply_0_2 : pb_chk cX6_multiply 0 [.iconst 0, .istore_n 1] = some 2 := by decide +kernel
theorem bkX6_multiply_2_5 : pb_chk cX6_multiply 2 [.iload_n 1, .bipush 10] = some 5 := by decide +kernel
theorem dX6_multiply_5 : decode cX6_multiply 5 = .ok (.if_icmp .ge 23, 3) := by decide +kernel
theorem bkX6_multiply_28_30 : pb_chk cX6_multiply 28 [.iconst 0, .istore_n 1] = some 30 := by decide +kernel
theorem bkX6_multiply_8_9 : pb_chk cX6_multiply 8 [.aload_n 0] = some 9 := by decide +kernel
theorem dX6_multiply_9 : decode cX6_multiply 9 = .ok (.getfield 51, 3) := by decide +kernel
theorem bkX6_multiply_12_14 : pb_chk cX6_multiply 12 [.iload_n 1, .lconst 0] = some 14 := by decide +kernel
theorem dX6_multiply_14 : decode cX6_multiply 14 = .ok (.lastore, 1) := by decide +kernel
theorem bkX6_multiply_15_16 : pb_chk cX6_multiply 15 [.aload_n 0] = some 16 := by decide +kernel
theorem dX6_multiply_16 : decode cX6_multiply 16 = .ok (.getfield 54, 3) := by decide +kernel
theorem bkX6_multiply_19_21 : pb_chk cX6_multiply 19 [.iload_n 1, .lconst 1] = some 21 := by decide +kernel
theorem dX6_multiply_21 : decode cX6_multiply 21 = .ok (.lastore, 1) := by decide +kernel
theorem bkX6_multiply_22_2 : pb_chk cX6_multiply 22 [.iinc 1 1, .goto (-23)] = some 2 := by decide +kernel
theorem bkX6_multiply_30_33 : pb_chk cX6_multiply 30 [.iload_n 1, .bipush 10] = some 33 := by decide +kernel
theorem dX6_multiply_33 : decode cX6_multiply 33 = .ok (.if_icmp .ge 130, 3) := by decide +kernel
theorem bkX6_multiply_163_165 : pb_chk cX6_multiply 163 [.iconst 0, .istore_n 1] = some 165 := by decide +kernel
theorem bkX6_multiply_36_38 : pb_chk cX6_multiply 36 [.iconst 0, .istore_n 2] = some 38 := by decide +kernel
theorem bkX6_multiply_38_43 : pb_chk cX6_multiply 38 [.iload_n 1, .iload_n 2, .iadd, .bipush 10] = some 43 := by decide +kernel
theorem dX6_multiply_43 : decode cX6_multiply 43 = .ok (.if_icmp .ge 114, 3) := by decide +kernel
theorem bkX6_multiply_157_30 : pb_chk cX6_multiply 157 [.iinc 1 1, .goto (-130)] = some 30 := by decide +kernel
theorem bkX6_multiply_46_47 : pb_chk cX6_multiply 46 [.aload_n 0] = some 47 := by decide +kernel
theorem dX6_multiply_47 : decode cX6_multiply 47 = .ok (.getfield 33, 3) := by decide +kernel
theorem bkX6_multiply_50_51 : pb_chk cX6_multiply 50 [.iload_n 1] = some 51 := by decide +kernel
theorem dX6_multiply_51 : decode cX6_multiply 51 = .ok (.laload, 1) := by decide +kernel
theorem bkX6_multiply_52_54 : pb_chk cX6_multiply 52 [.lconst 0, .lcmp] = some 54 := by decide +kernel
theorem dX6_multiply_54 : decode cX6_multiply 54 = .ok (.ifCond .eq 97, 3) := by decide +kernel
theorem bkX6_multiply_151_38 : pb_chk cX6_multiply 151 [.iinc 2 1, .goto (-116)] = some 38 := by decide +kernel
theorem bkX6_multiply_57_58 : pb_chk cX6_multiply 57 [.aload_n 0] = some 58 := by decide +kernel
theorem dX6_multiply_58 : decode cX6_multiply 58 = .ok (.getfield 39, 3) := by decide +kernel
theorem bkX6_multiply_61_62 : pb_chk cX6_multiply 61 [.iload_n 2] = some 62 := by decide +kernel
theorem dX6_multiply_62 : decode cX6_multiply 62 = .ok (.laload, 1) := by decide +kernel
theorem bkX6_multiply_63_65 : pb_chk cX6_multiply 63 [.lconst 0, .lcmp] = some 65 := by decide +kernel
theorem dX6_multiply_65 : decode cX6_multiply 65 = .ok (.ifCond .ne 6, 3) := by decide +kernel
theorem bkX6_multiply_71_73 : pb_chk cX6_multiply 71 [.aload_n 0, .aload_n 0] = some 73 := by decide +kernel
theorem dX6_multiply_73 : decode cX6_multiply 73 = .ok (.getfield 33, 3) := by decide +kernel
theorem bkX6_multiply_76_77 : pb_chk cX6_multiply 76 [.iload_n 1] = some 77 := by decide +kernel
theorem dX6_multiply_77 : decode cX6_multiply 77 = .ok (.laload, 1) := by decide +kernel
theorem bkX6_multiply_78_79 : pb_chk cX6_multiply 78 [.aload_n 0] = some 79 := by decide +kernel
theorem dX6_multiply_79 : decode cX6_multiply 79 = .ok (.getfield 36, 3) := by decide +kernel
theorem bkX6_multiply_82_83 : pb_chk cX6_multiply 82 [.iload_n 1] = some 83 := by decide +kernel
theorem dX6_multiply_83 : decode cX6_multiply 83 = .ok (.laload, 1) := by decide +kernel
theorem bkX6_multiply_84_85 : pb_chk cX6_multiply 84 [.aload_n 0] = some 85 := by decide +kernel
theorem dX6_multiply_85 : decode cX6_multiply 85 = .ok (.getfield 39, 3) := by decide +kernel
theorem bkX6_multiply_88_89 : pb_chk cX6_multiply 88 [.iload_n 2] = some 89 := by decide +kernel
theorem dX6_multiply_89 : decode cX6_multiply 89 = .ok (.laload, 1) := by decide +kernel
theorem bkX6_multiply_90_91 : pb_chk cX6_multiply 90 [.aload_n 0] = some 91 := by decide +kernel
theorem dX6_multiply_91 : decode cX6_multiply 91 = .ok (.getfield 42, 3) := by decide +kernel
theorem bkX6_multiply_94_95 : pb_chk cX6_multiply 94 [.iload_n 2] = some 95 := by decide +kernel
theorem dX6_multiply_95 : decode cX6_multiply 95 = .ok (.laload, 1) := by decide +kernel
theorem dX6_multiply_96 : decode cX6_multiply 96 = .ok (.invokevirtual 132, 3) := by decide +kernel
theorem bkX6_multiply_99_101 : pb_chk cX6_multiply 99 [.aload_n 0, .aload_n 0] = some 101 := by decide +kernel
theorem dX6_multiply_101 : decode cX6_multiply 101 = .ok (.getfield 51, 3) := by decide +kernel
theorem bkX6_multiply_104_107 : pb_chk cX6_multiply 104 [.iload_n 1, .iload_n 2, .iadd] = some 107 := by decide +kernel
theorem dX6_multiply_107 : decode cX6_multiply 107 = .ok (.laload, 1) := by decide +kernel
theorem bkX6_multiply_108_109 : pb_chk cX6_multiply 108 [.aload_n 0] = some 109 := by decide +kernel
theorem dX6_multiply_109 : decode cX6_multiply 109 = .ok (.getfield 54, 3) := by decide +kernel
theorem bkX6_multiply_112_115 : pb_chk cX6_multiply 112 [.iload_n 1, .iload_n 2, .iadd] = some 115 := by decide +kernel
theorem dX6_multiply_115 : decode cX6_multiply 115 = .ok (.laload, 1) := by decide +kernel
theorem bkX6_multiply_116_117 : pb_chk cX6_multiply 116 [.aload_n 0] = some 117 := by decide +kernel
theorem dX6_multiply_117 : decode cX6_multiply 117 = .ok (.getfield 71, 3) := by decide +kernel
theorem bkX6_multiply_120_121 : pb_chk cX6_multiply 120 [.aload_n 0] = some 121 := by decide +kernel
theorem dX6_multiply_121 : decode cX6_multiply 121 = .ok (.getfield 75, 3) := by decide +kernel
theorem dX6_multiply_124 : decode cX6_multiply 124 = .ok (.invokevirtual 122, 3) := by decide +kernel
theorem bkX6_multiply_127_128 : pb_chk cX6_multiply 127 [.aload_n 0] = some 128 := by decide +kernel
theorem dX6_multiply_128 : decode cX6_multiply 128 = .ok (.getfield 51, 3) := by decide +kernel
theorem bkX6_multiply_131_135 : pb_chk cX6_multiply 131 [.iload_n 1, .iload_n 2, .iadd, .aload_n 0] = some 135 := by decide +kernel
theorem dX6_multiply_135 : decode cX6_multiply 135 = .ok (.getfield 71, 3) := by decide +kernel
theorem dX6_multiply_138 : decode cX6_multiply 138 = .ok (.lastore, 1) := by decide +kernel
theorem bkX6_multiply_139_140 : pb_chk cX6_multiply 139 [.aload_n 0] = some 140 := by decide +kernel
theorem dX6_multiply_140 : decode cX6_multiply 140 = .ok (.getfield 54, 3) := by decide +kernel
theorem bkX6_multiply_143_147 : pb_chk cX6_multiply 143 [.iload_n 1, .iload_n 2, .iadd, .aload_n 0] = some 147 := by decide +kernel
theorem dX6_multiply_147 : decode cX6_multiply 147 = .ok (.getfield 75, 3) := by decide +kernel
theorem dX6_multiply_150 : decode cX6_multiply 150 = .ok (.lastore, 1) := by decide +kernel
theorem bkX6_multiply_68_38 : pb_chk cX6_multiply 68 [.goto 83, .iinc 2 1, .goto (-116)] = some 38 := by decide +kernel
theorem bkX6_multiply_165_168 : pb_chk cX6_multiply 165 [.iload_n 1, .bipush 10] = some 168 := by decide +kernel
theorem dX6_multiply_168 : decode cX6_multiply 168 = .ok (.if_icmp .ge 33, 3) := by decide +kernel
theorem dX6_multiply_201 : decode cX6_multiply 201 = .ok (.return_, 1) := by decide +kernel
theorem bkX6_multiply_171_172 : pb_chk cX6_multiply 171 [.aload_n 0] = some 172 := by decide +kernel
theorem dX6_multiply_172 : decode cX6_multiply 172 = .ok (.getfield 33, 3) := by decide +kernel
theorem bkX6_multiply_175_177 : pb_chk cX6_multiply 175 [.iload_n 1, .aload_n 0] = some 177 := by decide +kernel
theorem dX6_multiply_177 : decode cX6_multiply 177 = .ok (.getfield 51, 3) := by decide +kernel
theorem bkX6_multiply_180_181 : pb_chk cX6_multiply 180 [.iload_n 1] = some 181 := by decide +kernel
theorem dX6_multiply_181 : decode cX6_multiply 181 = .ok (.laload, 1) := by decide +kernel
theorem dX6_multiply_182 : decode cX6_multiply 182 = .ok (.lastore, 1) := by decide +kernel
theorem bkX6_multiply_183_184 : pb_chk cX6_multiply 183 [.aload_n 0] = some 184 := by decide +kernel
theorem dX6_multiply_184 : decode cX6_multiply 184 = .ok (.getfield 36, 3) := by decide +kernel
theorem bkX6_multiply_187_189 : pb_chk cX6_multiply 187 [.iload_n 1, .aload_n 0] = some 189 := by decide +kernel
theorem dX6_multiply_189 : decode cX6_multiply 189 = .ok (.getfield 54, 3) := by decide +kernel
theorem bkX6_multiply_192_193 : pb_chk cX6_multiply 192 [.iload_n 1] = some 193 := by decide +kernel
theorem dX6_multiply_193 : decode cX6_multiply 193 = .ok (.laload, 1) := by decide +kernel
theorem dX6_multiply_194 : decode cX6_multiply 194 = .ok (.lastore, 1) := by decide +kernel
theorem bkX6_multiply_195_165 : pb_chk cX6_multiply 195 [.iinc 1 1, .goto (-33)] = some 165 := by decide +kernel
set_option maxHeartbeats 4000000 in
set_option maxRecDepth 100000 in
theorem c_X6_multiply (l : Launch) (G : Gm) (mo : Nat) (S : Sc) (ct : Ct) (U V : Nat → Rat) (ha : RwL ct 8 9 10 U) (hc : RwL ct 10 11 10 V) (hm : M10 U V) : Mm l yX6_multiply cX6_multiply 3 none (⟨3, 0, 0, 88⟩ : Room) G mo S ct [.ref mo] (po_X6_multiply mo S ct U V) := by
  refine of_met (by decide) (Nat.le_of_ble_eq_true rfl) ?_
  intro p e s m below meth c ls B hA hM0 hl
  have hw := Mw.start hM0
  have loop4 : ∀ (n i : Nat) (H : Heap) (locs : List Loc) (S1 : Sc) (ct1 : Ct) (ls : Array Slot), 11 ≤ i + n → i ≤ 10 → Mw G mo s.heap H locs S1 ct1 → OtS S S1 → RwL ct1 14 15 10 (fun m => psum U V m (m + 1)) → RwL ct1 8 9 i (fun m => psum U V m (m + 1)) → (∀ a, a ≠ 8 → a ≠ 9 → a ≠ 14 → a ≠ 15 → ct1 a = ct a) → lv_has ls 3 [(1, .int (nI i)), (0, .ref mo)] → W p l e (⟨3, 0, 0, 88⟩ : Room) s m ([.ref mo] : List Value).toArray below meth c H locs 0 0 (MQ below (Qm G mo (po_X6_multiply mo S ct U V)) ([.ref mo] : List Value).toArray s (⟨3, 0, 0, 88⟩ : Room).cells (⟨3, 0, 0, 88⟩ : Room).slots (FM mo)) (F0 m 165 ls []) := by
    intro n
    induction n with
    | zero => intro i H locs S1 ct1 ls h1 h2; omega
    | succ n ih =>
      intro i H locs S1 ct1 ls hn hi hw hS hr hd ho hl
      refine pb_blk B.hx B.hb (lv' := [(1, .int (nI i)), (0, .ref mo)]) (st' := [.int 10, .int (nI i)]) hl bkX6_multiply_165_168 rfl (fun ls hl => ?_)
      refine lv_icmp_ge (tgt := 201) B.hx B.hb dX6_multiply_168 (by decide) (fun h1 => ?_) (fun h1 => ?_)
      · have e4 : i = 10 := by have := nI_nlt_le (show 10 < 2 ^ 31 by decide) (k2_nlt h1); omega
        rw [e4] at hd
        exact m_vret B hw dX6_multiply_201 (by exact ⟨rfl, hS, hd, ho⟩) (Nat.le_of_ble_eq_true rfl) (Nat.le_of_ble_eq_true rfl)
      · have hi4 : i < 10 := (nI_ltI (by omega) (by decide)).mp (k2_lt h1)
        obtain ⟨p1, d1, a1, a2, a3⟩ := hr i hi4
        refine pb_blk B.hx B.hb (lv' := [(1, .int (nI i)), (0, .ref mo)]) (st' := [.ref mo]) hl bkX6_multiply_171_172 rfl (fun ls hl => ?_)
        refine m_get B hw 9 (by decide) wd_F_X6_33 rfl dX6_multiply_172 ?_
        refine pb_blk B.hx B.hb (lv' := [(1, .int (nI i)), (0, .ref mo)]) (st' := [.ref mo, .int (nI i), .ref (mo + 8)]) hl bkX6_multiply_175_177 rfl (fun ls hl => ?_)
        refine m_get B hw 19 (by decide) wd_F_X6_51 rfl dX6_multiply_177 ?_
        refine pb_blk B.hx B.hb (lv' := [(1, .int (nI i)), (0, .ref mo)]) (st' := [.int (nI i), .ref (mo + 14), .int (nI i), .ref (mo + 8)]) hl bkX6_multiply_180_181 rfl (fun ls hl => ?_)
        refine m_lald B hw 14 (by decide) (by decide) rfl (vp_in_nI (show i < 10 by omega) (by decide)) (v := .long p1) (by rw [nI_clamp (by omega)]; exact a1) dX6_multiply_181 ?_
        refine m_last B hw 8 (by decide) (by decide) rfl (vp_in_nI (show i < 10 by omega) (by decide)) dX6_multiply_182 (fun H locs hw => ?_)
        rw [nI_clamp (show i < 2 ^ 31 by omega)] at hw
        refine pb_blk B.hx B.hb (lv' := [(1, .int (nI i)), (0, .ref mo)]) (st' := [.ref mo]) hl bkX6_multiply_183_184 rfl (fun ls hl => ?_)
        refine m_get B hw 10 (by decide) wd_F_X6_36 rfl dX6_multiply_184 ?_
        refine pb_blk B.hx B.hb (lv' := [(1, .int (nI i)), (0, .ref mo)]) (st' := [.ref mo, .int (nI i), .ref (mo + 9)]) hl bkX6_multiply_187_189 rfl (fun ls hl => ?_)
        refine m_get B hw 20 (by decide) wd_F_X6_54 rfl dX6_multiply_189 ?_
        refine pb_blk B.hx B.hb (lv' := [(1, .int (nI i)), (0, .ref mo)]) (st' := [.int (nI i), .ref (mo + 15), .int (nI i), .ref (mo + 9)]) hl bkX6_multiply_192_193 rfl (fun ls hl => ?_)
        refine m_lald B hw 15 (by decide) (by decide) rfl (vp_in_nI (show i < 10 by omega) (by decide)) (v := .long d1) (by rw [nI_clamp (by omega)]; exact a2) dX6_multiply_193 ?_
        refine m_last B hw 9 (by decide) (by decide) rfl (vp_in_nI (show i < 10 by omega) (by decide)) dX6_multiply_194 (fun H locs hw => ?_)
        rw [nI_clamp (show i < 2 ^ 31 by omega)] at hw
        refine pb_blk B.hx B.hb (lv' := [(1, .int ((nI i) + 1)), (0, .ref mo)]) (st' := []) hl bkX6_multiply_195_165 rfl (fun ls hl => ?_)
        exact ih (i + 1) _ _ _ _ ls (by omega) hi4 hw hS (hr.cg (oth2 (by decide) (by decide)) (oth2 (by decide) (by decide))) (hd.put2 (by decide) a3) (fun a g1 g2 g3 g4 => (oth2 g1 g2).trans (ho a g1 g2 g3 g4)) (by rw [← nI_1]; exact lv_sub hl [0, 1] rfl)
  have loop3 : ∀ (i : Nat) (hi10 : i < 10) (hout : ∀ (H : Heap) (locs : List Loc) (S1 : Sc) (ct1 : Ct) (ls : Array Slot), Mw G mo s.heap H locs S1 ct1 → OtS S S1 → RwL ct1 14 15 10 (rst U V (i + 1) 0) → (∀ a, a ≠ 14 → a ≠ 15 → ct1 a = ct a) → lv_has ls 3 [(1, .int (nI (i + 1))), (0, .ref mo)] → W p l e (⟨3, 0, 0, 88⟩ : Room) s m ([.ref mo] : List Value).toArray below meth c H locs 0 0 (MQ below (Qm G mo (po_X6_multiply mo S ct U V)) ([.ref mo] : List Value).toArray s (⟨3, 0, 0, 88⟩ : Room).cells (⟨3, 0, 0, 88⟩ : Room).slots (FM mo)) (F0 m 30 ls [])) (n k : Nat) (H : Heap) (locs : List Loc) (S1 : Sc) (ct1 : Ct) (ls : Array Slot), 11 ≤ i + k + n → i + k ≤ 10 → Mw G mo s.heap H locs S1 ct1 → OtS S S1 → RwL ct1 14 15 10 (rst U V i k) → (∀ a, a ≠ 14 → a ≠ 15 → ct1 a = ct a) → lv_has ls 3 [(2, .int (nI k)), (1, .int (nI i)), (0, .ref mo)] → W p l e (⟨3, 0, 0, 88⟩ : Room) s m ([.ref mo] : List Value).toArray below meth c H locs 0 0 (MQ below (Qm G mo (po_X6_multiply mo S ct U V)) ([.ref mo] : List Value).toArray s (⟨3, 0, 0, 88⟩ : Room).cells (⟨3, 0, 0, 88⟩ : Room).slots (FM mo)) (F0 m 38 ls []) := by
    intro i hi10 hout n
    induction n with
    | zero => intro k H locs S1 ct1 ls h1 h2; omega
    | succ n ih =>
      intro k H locs S1 ct1 ls hn hk hw hS hr ho hl
      refine pb_blk B.hx B.hb (lv' := [(2, .int (nI k)), (1, .int (nI i)), (0, .ref mo)]) (st' := [.int 10, .int ((nI i) + (nI k))]) hl bkX6_multiply_38_43 rfl (fun ls hl => ?_)
      rw [nI_add]
      refine lv_icmp_ge (tgt := 157) B.hx B.hb dX6_multiply_43 (by decide) (fun h1 => ?_) (fun h1 => ?_)
      · have e4 : i + k = 10 := by have := nI_nlt_le (show 10 < 2 ^ 31 by decide) (k2_nlt h1); omega
        refine pb_blk B.hx B.hb (lv' := [(1, .int ((nI i) + 1)), (2, .int (nI k)), (0, .ref mo)]) (st' := []) hl bkX6_multiply_157_30 rfl (fun ls hl => ?_)
        exact hout _ _ _ _ ls hw hS (hr.eq (fun m hm2 => (rst_nx U V (show m < i + k by omega)).symm)) ho (by rw [← nI_1]; exact lv_sub hl [0, 2] rfl)
      · have hi4 : i + k < 10 := (nI_ltI (by omega) (by decide)).mp (k2_lt h1)
        obtain ⟨p1, d1, a1, a2, a3⟩ := ha i hi10
        obtain ⟨p2, d2, b1, b2, b3⟩ := hc k (by omega)
        have oa : ct1 8 = ct 8 := ho 8 (by decide) (by decide)
        have ob : ct1 9 = ct 9 := ho 9 (by decide) (by decide)
        have oc : ct1 10 = ct 10 := ho 10 (by decide) (by decide)
        have od : ct1 11 = ct 11 := ho 11 (by decide) (by decide)
        refine pb_blk B.hx B.hb (lv' := [(2, .int (nI k)), (1, .int (nI i)), (0, .ref mo)]) (st' := [.ref mo]) hl bkX6_multiply_46_47 rfl (fun ls hl => ?_)
        refine m_get B hw 9 (by decide) wd_F_X6_33 rfl dX6_multiply_47 ?_
        refine pb_blk B.hx B.hb (lv' := [(2, .int (nI k)), (1, .int (nI i)), (0, .ref mo)]) (st' := [.int (nI i), .ref (mo + 8)]) hl bkX6_multiply_50_51 rfl (fun ls hl => ?_)
        refine m_lald B hw 8 (by decide) (by decide) rfl (vp_in_nI (show i < 10 by omega) (by decide)) (v := .long p1) (by rw [nI_clamp (by omega)]; rw [oa]; exact a1) dX6_multiply_51 ?_
        refine pb_blk B.hx B.hb (lv' := [(2, .int (nI k)), (1, .int (nI i)), (0, .ref mo)]) (st' := [.int (lg_cmp p1 0)]) hl bkX6_multiply_52_54 rfl (fun ls hl => ?_)
        refine lv_if_eq (tgt := 151) B.hx B.hb dX6_multiply_54 (by decide) (fun h2 => ?_) (fun h2 => ?_)
        · have u0 : U i = 0 := (frx0 a3).mp ((lg_cmp_eq _ _).mp h2)
          have hz : U i * V k = 0 := by rw [u0, Rat.zero_mul]
          refine pb_blk B.hx B.hb (lv' := [(2, .int ((nI k) + 1)), (1, .int (nI i)), (0, .ref mo)]) (st' := []) hl bkX6_multiply_151_38 rfl (fun ls hl => ?_)
          exact ih (k + 1) _ _ _ _ ls (by omega) (by omega) hw hS (hr.eq (fun m hm2 => by by_cases e9 : m = i + k; rw [e9, (rst_at U V i k).1, (rst_at U V i k).2, hz, Rat.add_zero]; exact (rst_ne U V e9).symm)) ho (by rw [← nI_1]; exact lv_sub hl [0, 1, 2] rfl)
        · have u0 : U i ≠ 0 := fun e9 => h2 ((lg_cmp_eq _ _).mpr ((frx0 a3).mpr e9))
          refine pb_blk B.hx B.hb (lv' := [(2, .int (nI k)), (1, .int (nI i)), (0, .ref mo)]) (st' := [.ref mo]) hl bkX6_multiply_57_58 rfl (fun ls hl => ?_)
          refine m_get B hw 11 (by decide) wd_F_X6_39 rfl dX6_multiply_58 ?_
          refine pb_blk B.hx B.hb (lv' := [(2, .int (nI k)), (1, .int (nI i)), (0, .ref mo)]) (st' := [.int (nI k), .ref (mo + 10)]) hl bkX6_multiply_61_62 rfl (fun ls hl => ?_)
          refine m_lald B hw 10 (by decide) (by decide) rfl (vp_in_nI (show k < 10 by omega) (by decide)) (v := .long p2) (by rw [nI_clamp (by omega)]; rw [oc]; exact b1) dX6_multiply_62 ?_
          refine pb_blk B.hx B.hb (lv' := [(2, .int (nI k)), (1, .int (nI i)), (0, .ref mo)]) (st' := [.int (lg_cmp p2 0)]) hl bkX6_multiply_63_65 rfl (fun ls hl => ?_)
          refine lv_if_ne (tgt := 71) B.hx B.hb dX6_multiply_65 (by decide) (fun h3 => ?_) (fun h3 => ?_)
          · have v0 : V k ≠ 0 := fun e9 => h3 ((lg_cmp_eq _ _).mpr ((frx0 b3).mpr e9))
            obtain ⟨m1, m2, m3, m4⟩ := hm.1 i k hi4 u0 v0
            have hpb := hm.2 (i + k) i hi4 (by omega) u0 (by rw [Nat.add_sub_cancel_left]; exact v0)
            rw [Nat.add_sub_cancel_left] at hpb
            refine pb_blk B.hx B.hb (lv' := [(2, .int (nI k)), (1, .int (nI i)), (0, .ref mo)]) (st' := [.ref mo, .ref mo]) hl bkX6_multiply_71_73 rfl (fun ls hl => ?_)
            refine m_get B hw 9 (by decide) wd_F_X6_33 rfl dX6_multiply_73 ?_
            refine pb_blk B.hx B.hb (lv' := [(2, .int (nI k)), (1, .int (nI i)), (0, .ref mo)]) (st' := [.int (nI i), .ref (mo + 8), .ref mo]) hl bkX6_multiply_76_77 rfl (fun ls hl => ?_)
            refine m_lald B hw 8 (by decide) (by decide) rfl (vp_in_nI (show i < 10 by omega) (by decide)) (v := .long p1) (by rw [nI_clamp (by omega)]; rw [oa]; exact a1) dX6_multiply_77 ?_
            refine pb_blk B.hx B.hb (lv' := [(2, .int (nI k)), (1, .int (nI i)), (0, .ref mo)]) (st' := [.ref mo, .long p1, .ref mo]) hl bkX6_multiply_78_79 rfl (fun ls hl => ?_)
            refine m_get B hw 10 (by decide) wd_F_X6_36 rfl dX6_multiply_79 ?_
            refine pb_blk B.hx B.hb (lv' := [(2, .int (nI k)), (1, .int (nI i)), (0, .ref mo)]) (st' := [.int (nI i), .ref (mo + 9), .long p1, .ref mo]) hl bkX6_multiply_82_83 rfl (fun ls hl => ?_)
            refine m_lald B hw 9 (by decide) (by decide) rfl (vp_in_nI (show i < 10 by omega) (by decide)) (v := .long d1) (by rw [nI_clamp (by omega)]; rw [ob]; exact a2) dX6_multiply_83 ?_
            refine pb_blk B.hx B.hb (lv' := [(2, .int (nI k)), (1, .int (nI i)), (0, .ref mo)]) (st' := [.ref mo, .long d1, .long p1, .ref mo]) hl bkX6_multiply_84_85 rfl (fun ls hl => ?_)
            refine m_get B hw 11 (by decide) wd_F_X6_39 rfl dX6_multiply_85 ?_
            refine pb_blk B.hx B.hb (lv' := [(2, .int (nI k)), (1, .int (nI i)), (0, .ref mo)]) (st' := [.int (nI k), .ref (mo + 10), .long d1, .long p1, .ref mo]) hl bkX6_multiply_88_89 rfl (fun ls hl => ?_)
            refine m_lald B hw 10 (by decide) (by decide) rfl (vp_in_nI (show k < 10 by omega) (by decide)) (v := .long p2) (by rw [nI_clamp (by omega)]; rw [oc]; exact b1) dX6_multiply_89 ?_
            refine pb_blk B.hx B.hb (lv' := [(2, .int (nI k)), (1, .int (nI i)), (0, .ref mo)]) (st' := [.ref mo, .long p2, .long d1, .long p1, .ref mo]) hl bkX6_multiply_90_91 rfl (fun ls hl => ?_)
            refine m_get B hw 12 (by decide) wd_F_X6_42 rfl dX6_multiply_91 ?_
            refine pb_blk B.hx B.hb (lv' := [(2, .int (nI k)), (1, .int (nI i)), (0, .ref mo)]) (st' := [.int (nI k), .ref (mo + 11), .long p2, .long d1, .long p1, .ref mo]) hl bkX6_multiply_94_95 rfl (fun ls hl => ?_)
            refine m_lald B hw 11 (by decide) (by decide) rfl (vp_in_nI (show k < 10 by omega) (by decide)) (v := .long d2) (by rw [nI_clamp (by omega)]; rw [od]; exact b2) dX6_multiply_95 ?_
            refine m_callV B hw (c_X6_product l G mo S1 ct1 p1 d1 p2 d2 (U i) (V k) a3 b3 m1 m2 m3 m4) cy_X6_product im_X6_product se_X6_product wd_M_X6_132 rfl hl.1 rfl (Nat.le_of_ble_eq_true rfl) ⟨by decide, by decide⟩ ⟨rfl, rfl⟩ ⟨Nat.le_refl _, Nat.le_refl _⟩ dX6_multiply_96 (fun v H locs Sb ctb hw_22 hv => ?_)
            obtain ⟨rfl, rfl, n, d, rfl, hf⟩ := hv
            have hw := hw_22
            obtain ⟨p3, d3, c1, c2, c3⟩ := hr (i + k) hi4
            rw [(rst_at U V i k).1] at c3
            refine pb_blk B.hx B.hb (lv' := [(2, .int (nI k)), (1, .int (nI i)), (0, .ref mo)]) (st' := [.ref mo, .ref mo]) hl bkX6_multiply_99_101 rfl (fun ls hl => ?_)
            refine m_get B hw 19 (by decide) wd_F_X6_51 rfl dX6_multiply_101 ?_
            refine pb_blk B.hx B.hb (lv' := [(2, .int (nI k)), (1, .int (nI i)), (0, .ref mo)]) (st' := [.int ((nI i) + (nI k)), .ref (mo + 14), .ref mo]) hl bkX6_multiply_104_107 rfl (fun ls hl => ?_)
            rw [nI_add]
            refine m_lald B hw 14 (by decide) (by decide) rfl (vp_in_nI (show i + k < 10 by omega) (by decide)) (v := .long p3) (by rw [nI_clamp (by omega)]; exact c1) dX6_multiply_107 ?_
            refine pb_blk B.hx B.hb (lv' := [(2, .int (nI k)), (1, .int (nI i)), (0, .ref mo)]) (st' := [.ref mo, .long p3, .ref mo]) hl bkX6_multiply_108_109 rfl (fun ls hl => ?_)
            refine m_get B hw 20 (by decide) wd_F_X6_54 rfl dX6_multiply_109 ?_
            refine pb_blk B.hx B.hb (lv' := [(2, .int (nI k)), (1, .int (nI i)), (0, .ref mo)]) (st' := [.int ((nI i) + (nI k)), .ref (mo + 15), .long p3, .ref mo]) hl bkX6_multiply_112_115 rfl (fun ls hl => ?_)
            rw [nI_add]
            refine m_lald B hw 15 (by decide) (by decide) rfl (vp_in_nI (show i + k < 10 by omega) (by decide)) (v := .long d3) (by rw [nI_clamp (by omega)]; exact c2) dX6_multiply_115 ?_
            refine pb_blk B.hx B.hb (lv' := [(2, .int (nI k)), (1, .int (nI i)), (0, .ref mo)]) (st' := [.ref mo, .long d3, .long p3, .ref mo]) hl bkX6_multiply_116_117 rfl (fun ls hl => ?_)
            refine m_get B hw 13 (by decide) wd_F_X6_71 (congrArg some (show _ = Value.long n from rfl)) dX6_multiply_117 ?_
            refine pb_blk B.hx B.hb (lv' := [(2, .int (nI k)), (1, .int (nI i)), (0, .ref mo)]) (st' := [.ref mo, .long n, .long d3, .long p3, .ref mo]) hl bkX6_multiply_120_121 rfl (fun ls hl => ?_)
            refine m_get B hw 14 (by decide) wd_F_X6_75 (congrArg some (show _ = Value.long d from rfl)) dX6_multiply_121 ?_
            refine m_callV B hw (c_X6_sum l G mo _ ctb p3 d3 n d (psum U V (i + k) i) (U i * V k) c3 hf hpb) cy_X6_sum im_X6_sum se_X6_sum wd_M_X6_122 rfl hl.1 rfl (Nat.le_of_ble_eq_true rfl) ⟨by decide, by decide⟩ ⟨rfl, rfl⟩ ⟨Nat.le_refl _, Nat.le_refl _⟩ dX6_multiply_124 (fun v H locs Sc1 ctc hw_23 hv => ?_)
            obtain ⟨rfl, rfl, n2, d4, rfl, hf2⟩ := hv
            have hw := hw_23
            refine pb_blk B.hx B.hb (lv' := [(2, .int (nI k)), (1, .int (nI i)), (0, .ref mo)]) (st' := [.ref mo]) hl bkX6_multiply_127_128 rfl (fun ls hl => ?_)
            refine m_get B hw 19 (by decide) wd_F_X6_51 rfl dX6_multiply_128 ?_
            refine pb_blk B.hx B.hb (lv' := [(2, .int (nI k)), (1, .int (nI i)), (0, .ref mo)]) (st' := [.ref mo, .int ((nI i) + (nI k)), .ref (mo + 14)]) hl bkX6_multiply_131_135 rfl (fun ls hl => ?_)
            refine m_get B hw 13 (by decide) wd_F_X6_71 (congrArg some (show _ = Value.long n2 from rfl)) dX6_multiply_135 ?_
            rw [nI_add]
            refine m_last B hw 14 (by decide) (by decide) rfl (vp_in_nI (show i + k < 10 by omega) (by decide)) dX6_multiply_138 (fun H locs hw => ?_)
            rw [nI_clamp (show i + k < 2 ^ 31 by omega)] at hw
            refine pb_blk B.hx B.hb (lv' := [(2, .int (nI k)), (1, .int (nI i)), (0, .ref mo)]) (st' := [.ref mo]) hl bkX6_multiply_139_140 rfl (fun ls hl => ?_)
            refine m_get B hw 20 (by decide) wd_F_X6_54 rfl dX6_multiply_140 ?_
            refine pb_blk B.hx B.hb (lv' := [(2, .int (nI k)), (1, .int (nI i)), (0, .ref mo)]) (st' := [.ref mo, .int ((nI i) + (nI k)), .ref (mo + 15)]) hl bkX6_multiply_143_147 rfl (fun ls hl => ?_)
            refine m_get B hw 14 (by decide) wd_F_X6_75 (congrArg some (show _ = Value.long d4 from rfl)) dX6_multiply_147 ?_
            rw [nI_add]
            refine m_last B hw 15 (by decide) (by decide) rfl (vp_in_nI (show i + k < 10 by omega) (by decide)) dX6_multiply_150 (fun H locs hw => ?_)
            rw [nI_clamp (show i + k < 2 ^ 31 by omega)] at hw
            refine pb_blk B.hx B.hb (lv' := [(2, .int ((nI k) + 1)), (1, .int (nI i)), (0, .ref mo)]) (st' := []) hl bkX6_multiply_151_38 rfl (fun ls hl => ?_)
            exact ih (k + 1) _ _ _ _ ls (by omega) (by omega) hw hS.up.up (row_put (by decide) hr (by rw [(rst_at U V i k).2]; exact hf2) (fun m _ e9 => rst_ne U V e9)) (fun a g1 g2 => (oth2 g1 g2).trans (ho a g1 g2)) (by rw [← nI_1]; exact lv_sub hl [0, 1, 2] rfl)
          · have v0 : V k = 0 := (frx0 b3).mp ((lg_cmp_eq _ _).mp h3)
            have hz : U i * V k = 0 := by rw [v0, Rat.mul_zero]
            refine pb_blk B.hx B.hb (lv' := [(2, .int ((nI k) + 1)), (1, .int (nI i)), (0, .ref mo)]) (st' := []) hl bkX6_multiply_68_38 rfl (fun ls hl => ?_)
            exact ih (k + 1) _ _ _ _ ls (by omega) (by omega) hw hS (hr.eq (fun m hm2 => by by_cases e9 : m = i + k; rw [e9, (rst_at U V i k).1, (rst_at U V i k).2, hz, Rat.add_zero]; exact (rst_ne U V e9).symm)) ho (by rw [← nI_1]; exact lv_sub hl [0, 1, 2] rfl)
  have loop2 : ∀ (n i : Nat) (H : Heap) (locs : List Loc) (S1 : Sc) (ct1 : Ct) (ls : Array Slot), 11 ≤ i + n → i ≤ 10 → Mw G mo s.heap H locs S1 ct1 → OtS S S1 → RwL ct1 14 15 10 (rst U V i 0) → (∀ a, a ≠ 14 → a ≠ 15 → ct1 a = ct a) → lv_has ls 3 [(1, .int (nI i)), (0, .ref mo)] → W p l e (⟨3, 0, 0, 88⟩ : Room) s m ([.ref mo] : List Value).toArray below meth c H locs 0 0 (MQ below (Qm G mo (po_X6_multiply mo S ct U V)) ([.ref mo] : List Value).toArray s (⟨3, 0, 0, 88⟩ : Room).cells (⟨3, 0, 0, 88⟩ : Room).slots (FM mo)) (F0 m 30 ls []) := by
    intro n
    induction n with
    | zero => intro i H locs S1 ct1 ls h1 h2; omega
    | succ n ih =>
      intro i H locs S1 ct1 ls hn hi hw hS hr ho hl
      refine pb_blk B.hx B.hb (lv' := [(1, .int (nI i)), (0, .ref mo)]) (st' := [.int 10, .int (nI i)]) hl bkX6_multiply_30_33 rfl (fun ls hl => ?_)
      refine lv_icmp_ge (tgt := 163) B.hx B.hb dX6_multiply_33 (by decide) (fun h1 => ?_) (fun h1 => ?_)
      · have e4 : i = 10 := by have := nI_nlt_le (show 10 < 2 ^ 31 by decide) (k2_nlt h1); omega
        rw [e4] at hr
        refine pb_blk B.hx B.hb (lv' := [(1, .int 0), (0, .ref mo)]) (st' := []) hl bkX6_multiply_163_165 rfl (fun ls hl => ?_)
        exact loop4 11 0 _ _ S1 ct1 ls (by omega) (by omega) hw hS (hr.eq (fun m hm => rst_end U V hm)) (fun i hi => absurd hi (Nat.not_lt_zero _)) (fun a g1 g2 g3 g4 => ho a g3 g4) (lv_sub hl [0, 1] rfl)
      · have hi4 : i < 10 := (nI_ltI (by omega) (by decide)).mp (k2_lt h1)
        refine pb_blk B.hx B.hb (lv' := [(2, .int 0), (1, .int (nI i)), (0, .ref mo)]) (st' := []) hl bkX6_multiply_36_38 rfl (fun ls hl => ?_)
        exact loop3 i hi4 (fun H locs S1 ct1 ls => ih (i + 1) H locs S1 ct1 ls (by omega) hi4) (11 - i) 0 _ _ S1 ct1 ls (by omega) (by omega) hw hS hr ho (lv_sub hl [0, 1, 2] rfl)
  have loop1 : ∀ (n i : Nat) (H : Heap) (locs : List Loc) (ct1 : Ct) (ls : Array Slot), 11 ≤ i + n → i ≤ 10 → Mw G mo s.heap H locs S ct1 → RwL ct1 14 15 i (fun _ => 0) → (∀ a, a ≠ 14 → a ≠ 15 → ct1 a = ct a) → lv_has ls 3 [(1, .int (nI i)), (0, .ref mo)] → W p l e (⟨3, 0, 0, 88⟩ : Room) s m ([.ref mo] : List Value).toArray below meth c H locs 0 0 (MQ below (Qm G mo (po_X6_multiply mo S ct U V)) ([.ref mo] : List Value).toArray s (⟨3, 0, 0, 88⟩ : Room).cells (⟨3, 0, 0, 88⟩ : Room).slots (FM mo)) (F0 m 2 ls []) := by
    intro n
    induction n with
    | zero => intro i H locs ct1 ls h1 h2; omega
    | succ n ih =>
      intro i H locs ct1 ls hn hi hw hr ho hl
      refine pb_blk B.hx B.hb (lv' := [(1, .int (nI i)), (0, .ref mo)]) (st' := [.int 10, .int (nI i)]) hl bkX6_multiply_2_5 rfl (fun ls hl => ?_)
      refine lv_icmp_ge (tgt := 28) B.hx B.hb dX6_multiply_5 (by decide) (fun h1 => ?_) (fun h1 => ?_)
      · have e4 : i = 10 := by have := nI_nlt_le (show 10 < 2 ^ 31 by decide) (k2_nlt h1); omega
        rw [e4] at hr
        refine pb_blk B.hx B.hb (lv' := [(1, .int 0), (0, .ref mo)]) (st' := []) hl bkX6_multiply_28_30 rfl (fun ls hl => ?_)
        exact loop2 11 0 _ _ S ct1 ls (by omega) (by omega) hw (fun _ _ _ => rfl) (hr.eq (fun i _ => (rst_0 U V i).symm)) ho (lv_sub hl [0, 1] rfl)
      · have hi4 : i < 10 := (nI_ltI (by omega) (by decide)).mp (k2_lt h1)
        refine pb_blk B.hx B.hb (lv' := [(1, .int (nI i)), (0, .ref mo)]) (st' := [.ref mo]) hl bkX6_multiply_8_9 rfl (fun ls hl => ?_)
        refine m_get B hw 19 (by decide) wd_F_X6_51 rfl dX6_multiply_9 ?_
        refine pb_blk B.hx B.hb (lv' := [(1, .int (nI i)), (0, .ref mo)]) (st' := [.long 0, .int (nI i), .ref (mo + 14)]) hl bkX6_multiply_12_14 rfl (fun ls hl => ?_)
        refine m_last B hw 14 (by decide) (by decide) rfl (vp_in_nI (show i < 10 by omega) (by decide)) dX6_multiply_14 (fun H locs hw => ?_)
        rw [nI_clamp (show i < 2 ^ 31 by omega)] at hw
        refine pb_blk B.hx B.hb (lv' := [(1, .int (nI i)), (0, .ref mo)]) (st' := [.ref mo]) hl bkX6_multiply_15_16 rfl (fun ls hl => ?_)
        refine m_get B hw 20 (by decide) wd_F_X6_54 rfl dX6_multiply_16 ?_
        refine pb_blk B.hx B.hb (lv' := [(1, .int (nI i)), (0, .ref mo)]) (st' := [.long 1, .int (nI i), .ref (mo + 15)]) hl bkX6_multiply_19_21 rfl (fun ls hl => ?_)
        refine m_last B hw 15 (by decide) (by decide) rfl (vp_in_nI (show i < 10 by omega) (by decide)) dX6_multiply_21 (fun H locs hw => ?_)
        rw [nI_clamp (show i < 2 ^ 31 by omega)] at hw
        refine pb_blk B.hx B.hb (lv' := [(1, .int ((nI i) + 1)), (0, .ref mo)]) (st' := []) hl bkX6_multiply_22_2 rfl (fun ls hl => ?_)
        exact ih (i + 1) _ _ _ ls (by omega) hi4 hw (hr.put2 (by decide) frx01) (fun a g1 g2 => (oth2 g1 g2).trans (ho a g1 g2)) (by rw [← nI_1]; exact lv_sub hl [0, 1] rfl)
  refine pb_blk B.hx B.hb (lv' := [(1, .int 0), (0, .ref mo)]) (st' := []) hl bkX6_multiply_0_2 rfl (fun ls hl => ?_)
  exact loop1 11 0 s.heap [] ct ls (by omega) (by omega) hw (fun i hi => absurd hi (Nat.not_lt_zero _)) (fun _ _ _ => rfl) (lv_sub hl [0, 1] rfl)

