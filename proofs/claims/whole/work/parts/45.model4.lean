def KpM (N : Nat) (th : Nat → Th) (as : St3) (bd : Nat) (t : Th) (gr : Prop) (S : Sc) (ct : Ct) (v : Option Value) (S2 : Sc) (ct2 : Ct) : Prop := (gr ∧ v = some (.int 0) ∧ S2 = va_up S 0 (.int (nI bd)) ∧ ct2 = ct) ∨ (¬ gr ∧ v = some (.int (nI N)) ∧ S2 0 = .int 0 ∧ Pst (N + 1) (upT th N t) as S2 ct2)
theorem tg_in {p d : Int64} {r : Rat} (h : Frx p d r) : tgR r = true ↔ ¬ inB p (-60) 60 = true ∨ 60 < d.toInt := by
  rw [inB_t, h.1, h.2, show (-60 : Int64).toInt = -60 from rfl, show (60 : Int64).toInt = 60 from rfl]
  unfold tgR
  rw [decide_eq_true_iff]
  omega
theorem tgF_ex {u : Nat → Rat} : tgF u = true ↔ ∃ j, j < 4 ∧ tgR (u j) = true := by
  constructor
  · intro h
    by_cases g : ∃ j, j < 4 ∧ tgR (u j) = true
    · exact g
    · have h9 := tgF_no (u := u) (fun j hj => by cases e : tgR (u j); rfl; exact absurd ⟨j, hj, e⟩ g)
      rw [h9] at h; exact absurd h (by decide)
  · rintro ⟨j, hj, e⟩; exact tgF_yes hj e
theorem nI_sub1 (N : Nat) : nI (N + 1) - 1 = nI N := by rw [← nI_1, Int32.add_sub_cancel]
theorem hgN_le {u : Nat → Rat} {k : Nat} (hk : k < 2 ^ 20) : hgN u k < nI k ∨ k = 0 := by
  induction k with
  | zero => exact Or.inr rfl
  | succ k ih =>
    refine Or.inl ?_
    show (if u k ≠ 0 then nI k else hgN u k) < nI (k + 1)
    split
    · exact (nI_ltI (by omega) (by omega)).mpr (by omega)
    · rcases ih (by omega) with h | h
      · exact Int32.lt_trans h ((nI_ltI (by omega) (by omega)).mpr (by omega))
      · subst h; show (-1 : Int32) < nI 1; decide
theorem hgN_dg {u : Nat → Rat} (h : hgN u 10 ≤ 3) : hgN u 10 = dgI u ∧ ∀ i, 4 ≤ i → i < 10 → u i = 0 := by
  have aux : ∀ k, 4 ≤ k → k ≤ 10 → hgN u k ≤ 3 → (∀ i, 4 ≤ i → i < k → u i = 0) ∧ hgN u k = hgN u 4 := by
    intro k
    induction k with
    | zero => intro h1; omega
    | succ k ih =>
      intro h1 h2 h3
      by_cases e : k + 1 = 4
      · exact ⟨fun i g1 g2 => by omega, by rw [e]⟩
      · have h3' : (if u k ≠ 0 then nI k else hgN u k) ≤ 3 := h3
        by_cases g : u k ≠ 0
        · rw [if_pos g] at h3'
          exact absurd h3' (nI_ge (a := 3) (by omega) (by omega))
        · rw [if_neg g] at h3'
          obtain ⟨a1, a2⟩ := ih (by omega) (by omega) h3'
          have e9 : hgN u (k + 1) = hgN u k := if_neg g
          refine ⟨fun i g1 g2 => ?_, by rw [e9, a2]⟩
          by_cases e8 : i = k
          · rw [e8]; exact Decidable.of_not_not g
          · exact a1 i g1 (by omega)
  obtain ⟨a1, a2⟩ := aux 10 (by decide) (by decide) h
  refine ⟨?_, a1⟩
  rw [a2]
  unfold dgI
  show (if u 3 ≠ 0 then nI 3 else if u 2 ≠ 0 then nI 2 else if u 1 ≠ 0 then nI 1 else if u 0 ≠ 0 then nI 0 else -1) = _
  rfl
theorem kd_hg {u : Nat → Rat} (h : hgN u 10 ≤ 3) : (hgN u 10 ≤ 0 → kdF u = 0) ∧ (¬ hgN u 10 ≤ 0 → kdF u = 1) := by
  rw [(hgN_dg h).1]
  unfold kdF
  rcases dgI_5 u with e | e | e | e | e <;> rw [e] <;> decide
theorem keep_pst {N : Nat} {th : Nat → Th} {as : St3} {S S2 : Sc} {ct ct2 : Ct} {u : Nat → Rat} (hP : Pst N th as S ct) (hN : N < 80) (hS : S2 1 = .int (nI (N + 1))) (h1 : ct2 1 = updV (ct 1) N (.int (kdF u))) (h2 : ∀ i, i < 4 → ∃ p d : Int64, ct2 2 (4 * N + i) = .long p ∧ ct2 3 (4 * N + i) = .long d ∧ Frx p d (u i)) (h3 : ∀ x, x < 4 * N → ct2 2 x = ct 2 x ∧ ct2 3 x = ct 3 x) (h4 : ∀ a, 4 ≤ a → a ≤ 7 → ct2 a = ct a) : Pst (N + 1) (upT th N (.inl u)) as S2 ct2 := by
  have hse : ∀ k z, SeA ct k z → SeA ct2 k z := fun k z h => by
    unfold SeA
    rw [h4 4 (by decide) (by decide), h4 5 (by decide) (by decide), h4 6 (by decide) (by decide), h4 7 (by decide) (by decide)]
    exact h
  refine ⟨by omega, hS, fun k hk => ?_, hse _ _ hP.2.2.2⟩
  by_cases e : k = N
  · subst e
    rw [upT_at]
    exact ⟨by rw [h1]; exact updV_at, h2⟩
  · rw [upT_ne _ _ e]
    have hk2 := hP.2.2.1 k (by omega)
    cases ht : th k with
    | inl v =>
      rw [ht] at hk2
      refine ⟨by rw [h1, updV_ne e]; exact hk2.1, fun i hi => ?_⟩
      obtain ⟨p, d, e1, e2, e3⟩ := hk2.2 i hi
      have h9 := h3 (4 * k + i) (by omega)
      exact ⟨p, d, h9.1.trans e1, h9.2.trans e2, e3⟩
    | inr z =>
      rw [ht] at hk2
      exact ⟨by rw [h1, updV_ne e]; exact hk2.1, hse _ _ hk2.2⟩

def po_X6_keep (mo : Nat) (S : Sc) (ct : Ct) (N : Nat) (th : Nat → Th) (as : St3) (bd : Nat) (v : Nat → Rat) : Option Value → Sc → Ct → Prop := fun r S2 ct2 => KpM N th as bd (.inl v) (80 ≤ N ∨ ¬ hgN v 10 ≤ 3 ∨ tgF v = true) S ct r S2 ct2
theorem bkX6_keep_0_1 : pb_chk cX6_keep 0 [.aload_n 0] = some 1 := by decide +kernel
theorem dX6_keep_1 : decode cX6_keep 1 = .ok (.getfield 82, 3) := by decide +kernel
theorem bkX6_keep_4_6 : pb_chk cX6_keep 4 [.bipush 80] = some 6 := by decide +kernel
theorem dX6_keep_6 : decode cX6_keep 6 = .ok (.if_icmp .eq 14, 3) := by decide +kernel
theorem bkX6_keep_20_28 : pb_chk cX6_keep 20 [.iconst 1, .goto 4, .istore_n 2, .iconst 0, .istore_n 3] = some 28 := by decide +kernel
theorem bkX6_keep_9_10 : pb_chk cX6_keep 9 [.aload_n 0] = some 10 := by decide +kernel
theorem dX6_keep_10 : decode cX6_keep 10 = .ok (.getfield 33, 3) := by decide +kernel
theorem dX6_keep_13 : decode cX6_keep 13 = .ok (.invokestatic 89, 3) := by decide +kernel
theorem bkX6_keep_16_17 : pb_chk cX6_keep 16 [.iconst 3] = some 17 := by decide +kernel
theorem dX6_keep_17 : decode cX6_keep 17 = .ok (.if_icmp .le 7, 3) := by decide +kernel
theorem bkX6_keep_24_28 : pb_chk cX6_keep 24 [.iconst 0, .istore_n 2, .iconst 0, .istore_n 3] = some 28 := by decide +kernel
theorem bkX6_keep_28_30 : pb_chk cX6_keep 28 [.iload_n 3, .iconst 4] = some 30 := by decide +kernel
theorem dX6_keep_30 : decode cX6_keep 30 = .ok (.if_icmp .ge 50, 3) := by decide +kernel
theorem bkX6_keep_80_81 : pb_chk cX6_keep 80 [.iload_n 2] = some 81 := by decide +kernel
theorem dX6_keep_81 : decode cX6_keep 81 = .ok (.ifCond .eq 9, 3) := by decide +kernel
theorem bkX6_keep_90_92 : pb_chk cX6_keep 90 [.aload_n 0, .iconst 0] = some 92 := by decide +kernel
theorem dX6_keep_92 : decode cX6_keep 92 = .ok (.putfield 63, 3) := by decide +kernel
theorem bkX6_keep_95_96 : pb_chk cX6_keep 95 [.aload_n 0] = some 96 := by decide +kernel
theorem dX6_keep_96 : decode cX6_keep 96 = .ok (.getfield 7, 3) := by decide +kernel
theorem bkX6_keep_99_100 : pb_chk cX6_keep 99 [.aload_n 0] = some 100 := by decide +kernel
theorem dX6_keep_100 : decode cX6_keep 100 = .ok (.getfield 82, 3) := by decide +kernel
theorem bkX6_keep_103_104 : pb_chk cX6_keep 103 [.aload_n 0] = some 104 := by decide +kernel
theorem dX6_keep_104 : decode cX6_keep 104 = .ok (.getfield 33, 3) := by decide +kernel
theorem dX6_keep_107 : decode cX6_keep 107 = .ok (.invokestatic 89, 3) := by decide +kernel
theorem dX6_keep_110 : decode cX6_keep 110 = .ok (.ifCond .le 7, 3) := by decide +kernel
theorem bkX6_keep_117_118 : pb_chk cX6_keep 117 [.iconst 0] = some 118 := by decide +kernel
theorem dX6_keep_118 : decode cX6_keep 118 = .ok (.iastore, 1) := by decide +kernel
theorem bkX6_keep_119_121 : pb_chk cX6_keep 119 [.iconst 0, .istore_n 3] = some 121 := by decide +kernel
theorem bkX6_keep_113_118 : pb_chk cX6_keep 113 [.iconst 1, .goto 4] = some 118 := by decide +kernel
theorem bkX6_keep_84_86 : pb_chk cX6_keep 84 [.aload_n 0, .iload_n 1] = some 86 := by decide +kernel
theorem dX6_keep_86 : decode cX6_keep 86 = .ok (.invokevirtual 97, 3) := by decide +kernel
theorem dX6_keep_89 : decode cX6_keep 89 = .ok (.ireturn, 1) := by decide +kernel
theorem bkX6_keep_33_34 : pb_chk cX6_keep 33 [.iload_n 2] = some 34 := by decide +kernel
theorem dX6_keep_34 : decode cX6_keep 34 = .ok (.ifCond .ne 34, 3) := by decide +kernel
theorem bkX6_keep_68_28 : pb_chk cX6_keep 68 [.iconst 1, .goto 4, .istore_n 2, .iinc 3 1, .goto (-49)] = some 28 := by decide +kernel
theorem bkX6_keep_37_38 : pb_chk cX6_keep 37 [.aload_n 0] = some 38 := by decide +kernel
theorem dX6_keep_38 : decode cX6_keep 38 = .ok (.getfield 33, 3) := by decide +kernel
theorem bkX6_keep_41_42 : pb_chk cX6_keep 41 [.iload_n 3] = some 42 := by decide +kernel
theorem dX6_keep_42 : decode cX6_keep 42 = .ok (.laload, 1) := by decide +kernel
theorem dX6_keep_43 : decode cX6_keep 43 = .ok (.ldc2_w 93, 3) := by decide +kernel
theorem dX6_keep_46 : decode cX6_keep 46 = .ok (.ldc2_w 95, 3) := by decide +kernel
theorem dX6_keep_49 : decode cX6_keep 49 = .ok (.invokestatic 85, 3) := by decide +kernel
theorem dX6_keep_52 : decode cX6_keep 52 = .ok (.ifCond .eq 16, 3) := by decide +kernel
theorem bkX6_keep_55_56 : pb_chk cX6_keep 55 [.aload_n 0] = some 56 := by decide +kernel
theorem dX6_keep_56 : decode cX6_keep 56 = .ok (.getfield 36, 3) := by decide +kernel
theorem bkX6_keep_59_60 : pb_chk cX6_keep 59 [.iload_n 3] = some 60 := by decide +kernel
theorem dX6_keep_60 : decode cX6_keep 60 = .ok (.laload, 1) := by decide +kernel
theorem dX6_keep_61 : decode cX6_keep 61 = .ok (.ldc2_w 95, 3) := by decide +kernel
theorem bkX6_keep_64_65 : pb_chk cX6_keep 64 [.lcmp] = some 65 := by decide +kernel
theorem dX6_keep_65 : decode cX6_keep 65 = .ok (.ifCond .le 7, 3) := by decide +kernel
theorem bkX6_keep_72_28 : pb_chk cX6_keep 72 [.iconst 0, .istore_n 2, .iinc 3 1, .goto (-49)] = some 28 := by decide +kernel
theorem bkX6_keep_121_123 : pb_chk cX6_keep 121 [.iload_n 3, .iconst 4] = some 123 := by decide +kernel
theorem dX6_keep_123 : decode cX6_keep 123 = .ok (.if_icmp .ge 47, 3) := by decide +kernel
theorem bkX6_keep_170_172 : pb_chk cX6_keep 170 [.aload_n 0, .dup] = some 172 := by decide +kernel
theorem dX6_keep_172 : decode cX6_keep 172 = .ok (.getfield 82, 3) := by decide +kernel
theorem bkX6_keep_175_177 : pb_chk cX6_keep 175 [.iconst 1, .iadd] = some 177 := by decide +kernel
theorem dX6_keep_177 : decode cX6_keep 177 = .ok (.putfield 82, 3) := by decide +kernel
theorem bkX6_keep_180_181 : pb_chk cX6_keep 180 [.aload_n 0] = some 181 := by decide +kernel
theorem dX6_keep_181 : decode cX6_keep 181 = .ok (.getfield 82, 3) := by decide +kernel
theorem bkX6_keep_184_186 : pb_chk cX6_keep 184 [.iconst 1, .isub] = some 186 := by decide +kernel
theorem dX6_keep_186 : decode cX6_keep 186 = .ok (.ireturn, 1) := by decide +kernel
theorem bkX6_keep_126_127 : pb_chk cX6_keep 126 [.aload_n 0] = some 127 := by decide +kernel
theorem dX6_keep_127 : decode cX6_keep 127 = .ok (.getfield 13, 3) := by decide +kernel
theorem bkX6_keep_130_132 : pb_chk cX6_keep 130 [.iconst 4, .aload_n 0] = some 132 := by decide +kernel
theorem dX6_keep_132 : decode cX6_keep 132 = .ok (.getfield 82, 3) := by decide +kernel
theorem bkX6_keep_135_139 : pb_chk cX6_keep 135 [.imul, .iload_n 3, .iadd, .aload_n 0] = some 139 := by decide +kernel
theorem dX6_keep_139 : decode cX6_keep 139 = .ok (.getfield 33, 3) := by decide +kernel
theorem bkX6_keep_142_143 : pb_chk cX6_keep 142 [.iload_n 3] = some 143 := by decide +kernel
theorem dX6_keep_143 : decode cX6_keep 143 = .ok (.laload, 1) := by decide +kernel
theorem dX6_keep_144 : decode cX6_keep 144 = .ok (.lastore, 1) := by decide +kernel
theorem bkX6_keep_145_146 : pb_chk cX6_keep 145 [.aload_n 0] = some 146 := by decide +kernel
theorem dX6_keep_146 : decode cX6_keep 146 = .ok (.getfield 17, 3) := by decide +kernel
theorem bkX6_keep_149_151 : pb_chk cX6_keep 149 [.iconst 4, .aload_n 0] = some 151 := by decide +kernel
theorem dX6_keep_151 : decode cX6_keep 151 = .ok (.getfield 82, 3) := by decide +kernel
theorem bkX6_keep_154_158 : pb_chk cX6_keep 154 [.imul, .iload_n 3, .iadd, .aload_n 0] = some 158 := by decide +kernel
theorem dX6_keep_158 : decode cX6_keep 158 = .ok (.getfield 36, 3) := by decide +kernel
theorem bkX6_keep_161_162 : pb_chk cX6_keep 161 [.iload_n 3] = some 162 := by decide +kernel
theorem dX6_keep_162 : decode cX6_keep 162 = .ok (.laload, 1) := by decide +kernel
theorem dX6_keep_163 : decode cX6_keep 163 = .ok (.lastore, 1) := by decide +kernel
theorem bkX6_keep_164_121 : pb_chk cX6_keep 164 [.iinc 3 1, .goto (-46)] = some 121 := by decide +kernel
set_option maxHeartbeats 4000000 in
set_option maxRecDepth 100000 in
theorem c_X6_keep (l : Launch) (G : Gm) (mo : Nat) (S : Sc) (ct : Ct) (N : Nat) (th : Nat → Th) (as : St3) (bd : Nat) (v : Nat → Rat) (hP : Pst N th as S ct) (hr : RwL ct 8 9 10 v) : Mm l yX6_keep cX6_keep 4 (some .int) (⟨1, 0, 0, 25⟩ : Room) G mo S ct [.ref mo, .int (nI bd)] (po_X6_keep mo S ct N th as bd v) := by
  refine of_met (by decide) (Nat.le_of_ble_eq_true rfl) ?_
  intro p e s m below meth c ls B hA hM0 hl
  have hw := Mw.start hM0
  have hN := hP.1
  have loop2 : N < 80 → ¬ (80 ≤ N ∨ ¬ hgN v 10 ≤ 3 ∨ tgF v = true) → ∀ (n i : Nat) (H : Heap) (locs : List Loc) (ct1 : Ct) (ls : Array Slot), 5 ≤ i + n → i ≤ 4 → Mw G mo s.heap H locs (va_up S 0 (.int 0)) ct1 → (∀ j, j < i → ∃ p d : Int64, ct1 2 (4 * N + j) = .long p ∧ ct1 3 (4 * N + j) = .long d ∧ Frx p d (v j)) → (∀ x, x < 4 * N → ct1 2 x = ct 2 x ∧ ct1 3 x = ct 3 x) → (∀ a, a ≠ 2 → a ≠ 3 → ct1 a = (va_up ct 1 (updV (ct 1) N (.int (kdF v)))) a) → lv_has ls 4 [(3, .int (nI i)), (0, .ref mo)] → W p l e (⟨1, 0, 0, 25⟩ : Room) s m ([.ref mo, .int (nI bd)] : List Value).toArray below meth c H locs 0 0 (MQ below (Qm G mo (po_X6_keep mo S ct N th as bd v)) ([.ref mo, .int (nI bd)] : List Value).toArray s (⟨1, 0, 0, 25⟩ : Room).cells (⟨1, 0, 0, 25⟩ : Room).slots (FM mo)) (F0 m 121 ls []) := by
    intro hN8 hng n
    induction n with
    | zero => intro i H locs ct1 ls h1 h2; omega
    | succ n ih =>
      intro i H locs ct1 ls hn hi hw hp hx ho hl
      refine pb_blk B.hx B.hb (lv' := [(3, .int (nI i)), (0, .ref mo)]) (st' := [.int 4, .int (nI i)]) hl bkX6_keep_121_123 rfl (fun ls hl => ?_)
      refine lv_icmp_ge (tgt := 170) B.hx B.hb dX6_keep_123 (by decide) (fun h1 => ?_) (fun h1 => ?_)
      · have e4 : i = 4 := by have := nI_nlt_le (show 4 < 2 ^ 31 by decide) (k2_nlt h1); omega
        rw [e4] at hp
        refine pb_blk B.hx B.hb (lv' := [(3, .int (nI i)), (0, .ref mo)]) (st' := [.ref mo, .ref mo]) hl bkX6_keep_170_172 rfl (fun ls hl => ?_)
        refine m_get B hw 1 (by decide) wd_F_X6_82 (congrArg some hP.2.1) dX6_keep_172 ?_
        refine pb_blk B.hx B.hb (lv' := [(3, .int (nI i)), (0, .ref mo)]) (st' := [.int ((nI N) + 1), .ref mo]) hl bkX6_keep_175_177 rfl (fun ls hl => ?_)
        rw [nI_1]
        refine m_put B hw 1 (by decide) wd_F_X6_82 rfl rfl rfl rfl dX6_keep_177 (fun H locs hw => ?_)
        refine pb_blk B.hx B.hb (lv' := [(3, .int (nI i)), (0, .ref mo)]) (st' := [.ref mo]) hl bkX6_keep_180_181 rfl (fun ls hl => ?_)
        refine m_get B hw 1 (by decide) wd_F_X6_82 (congrArg some (show _ = (.int (nI (N + 1)) : Value) from rfl)) dX6_keep_181 ?_
        refine pb_blk B.hx B.hb (lv' := [(3, .int (nI i)), (0, .ref mo)]) (st' := [.int ((nI (N + 1)) - 1)]) hl bkX6_keep_184_186 rfl (fun ls hl => ?_)
        rw [nI_sub1]
        exact m_iret (v := (nI N)) B hw dX6_keep_186 (by exact (Or.inr ⟨hng, rfl, rfl, keep_pst hP hN8 rfl (ho 1 (by decide) (by decide)) hp hx (fun a g1 g2 => (ho a (by omega) (by omega)).trans (va_up_ne _ _ (by omega)))⟩)) (Nat.le_of_ble_eq_true rfl) (Nat.le_of_ble_eq_true rfl)
      · have hi4 : i < 4 := (nI_ltI (by omega) (by decide)).mp (k2_lt h1)
        obtain ⟨p0, d0, e1, e2, e3⟩ := hr i (by omega)
        refine pb_blk B.hx B.hb (lv' := [(3, .int (nI i)), (0, .ref mo)]) (st' := [.ref mo]) hl bkX6_keep_126_127 rfl (fun ls hl => ?_)
        refine m_get B hw 3 (by decide) wd_F_X6_13 rfl dX6_keep_127 ?_
        refine pb_blk B.hx B.hb (lv' := [(3, .int (nI i)), (0, .ref mo)]) (st' := [.ref mo, .int 4, .ref (mo + 2)]) hl bkX6_keep_130_132 rfl (fun ls hl => ?_)
        refine m_get B hw 1 (by decide) wd_F_X6_82 (congrArg some hP.2.1) dX6_keep_132 ?_
        refine pb_blk B.hx B.hb (lv' := [(3, .int (nI i)), (0, .ref mo)]) (st' := [.ref mo, .int ((4 * (nI N)) + (nI i)), .ref (mo + 2)]) hl bkX6_keep_135_139 rfl (fun ls hl => ?_)
        refine m_get B hw 9 (by decide) wd_F_X6_33 rfl dX6_keep_139 ?_
        refine pb_blk B.hx B.hb (lv' := [(3, .int (nI i)), (0, .ref mo)]) (st' := [.int (nI i), .ref (mo + 8), .int ((4 * (nI N)) + (nI i)), .ref (mo + 2)]) hl bkX6_keep_142_143 rfl (fun ls hl => ?_)
        rw [ix4]
        refine m_lald B hw 8 (by decide) (by decide) rfl (vp_in_nI (show i < 10 by omega) (by decide)) (v := .long p0) (by rw [nI_clamp (by omega), ho 8 (by decide) (by decide)]; exact e1) dX6_keep_143 ?_
        refine m_last B hw 2 (by decide) (by decide) rfl (vp_in_nI (show 4 * N + i < 320 by omega) (by decide)) dX6_keep_144 (fun H locs hw => ?_)
        rw [nI_clamp (show 4 * N + i < 2 ^ 31 by omega)] at hw
        refine pb_blk B.hx B.hb (lv' := [(3, .int (nI i)), (0, .ref mo)]) (st' := [.ref mo]) hl bkX6_keep_145_146 rfl (fun ls hl => ?_)
        refine m_get B hw 4 (by decide) wd_F_X6_17 rfl dX6_keep_146 ?_
        refine pb_blk B.hx B.hb (lv' := [(3, .int (nI i)), (0, .ref mo)]) (st' := [.ref mo, .int 4, .ref (mo + 3)]) hl bkX6_keep_149_151 rfl (fun ls hl => ?_)
        refine m_get B hw 1 (by decide) wd_F_X6_82 (congrArg some hP.2.1) dX6_keep_151 ?_
        refine pb_blk B.hx B.hb (lv' := [(3, .int (nI i)), (0, .ref mo)]) (st' := [.ref mo, .int ((4 * (nI N)) + (nI i)), .ref (mo + 3)]) hl bkX6_keep_154_158 rfl (fun ls hl => ?_)
        refine m_get B hw 10 (by decide) wd_F_X6_36 rfl dX6_keep_158 ?_
        refine pb_blk B.hx B.hb (lv' := [(3, .int (nI i)), (0, .ref mo)]) (st' := [.int (nI i), .ref (mo + 9), .int ((4 * (nI N)) + (nI i)), .ref (mo + 3)]) hl bkX6_keep_161_162 rfl (fun ls hl => ?_)
        rw [ix4]
        refine m_lald B hw 9 (by decide) (by decide) rfl (vp_in_nI (show i < 10 by omega) (by decide)) (v := .long d0) (by rw [nI_clamp (by omega)]; show ct1 9 i = _; rw [ho 9 (by decide) (by decide)]; exact e2) dX6_keep_162 ?_
        refine m_last B hw 3 (by decide) (by decide) rfl (vp_in_nI (show 4 * N + i < 320 by omega) (by decide)) dX6_keep_163 (fun H locs hw => ?_)
        rw [nI_clamp (show 4 * N + i < 2 ^ 31 by omega)] at hw
        refine pb_blk B.hx B.hb (lv' := [(3, .int ((nI i) + 1)), (0, .ref mo)]) (st' := []) hl bkX6_keep_164_121 rfl (fun ls hl => ?_)
        exact ih (i + 1) _ _ _ ls (by omega) hi4 hw (fun j hj => by by_cases e9 : j = i; subst e9; exact ⟨p0, d0, updV_at, updV_at, e3⟩; obtain ⟨p1, d1, g1, g2, g3⟩ := hp j (by omega); exact ⟨p1, d1, (updV_ne (by omega)).trans g1, (updV_ne (by omega)).trans g2, g3⟩) (fun x h9 => ⟨(updV_ne (by omega)).trans (hx x h9).1, (updV_ne (by omega)).trans (hx x h9).2⟩) (fun a g1 g2 => (oth2 g1 g2).trans (ho a g1 g2)) (by rw [← nI_1]; exact lv_sub hl [0, 1] rfl)
  have loop : ∀ (n k : Nat) (gr : Bool) (ls : Array Slot), 5 ≤ k + n → k ≤ 4 → (gr = true ↔ (80 ≤ N ∨ ¬ hgN v 10 ≤ 3) ∨ ∃ j, j < k ∧ tgR (v j) = true) → lv_has ls 4 [(3, .int (nI k)), (2, .int (b2i gr)), (0, .ref mo), (1, .int (nI bd))] → W p l e (⟨1, 0, 0, 25⟩ : Room) s m ([.ref mo, .int (nI bd)] : List Value).toArray below meth c s.heap [] 0 0 (MQ below (Qm G mo (po_X6_keep mo S ct N th as bd v)) ([.ref mo, .int (nI bd)] : List Value).toArray s (⟨1, 0, 0, 25⟩ : Room).cells (⟨1, 0, 0, 25⟩ : Room).slots (FM mo)) (F0 m 28 ls []) := by
    intro n
    induction n with
    | zero => intro k gr ls h1 h2; omega
    | succ n ih =>
      intro k gr ls hn hk hg hl
      refine pb_blk B.hx B.hb (lv' := [(3, .int (nI k)), (2, .int (b2i gr)), (0, .ref mo), (1, .int (nI bd))]) (st' := [.int 4, .int (nI k)]) hl bkX6_keep_28_30 rfl (fun ls hl => ?_)
      refine lv_icmp_ge (tgt := 80) B.hx B.hb dX6_keep_30 (by decide) (fun h1 => ?_) (fun h1 => ?_)
      · have e4 : k = 4 := by have := nI_nlt_le (show 4 < 2 ^ 31 by decide) (k2_nlt h1); omega
        rw [e4, ← tgF_ex, or_assoc] at hg
        refine pb_blk B.hx B.hb (lv' := [(3, .int (nI k)), (2, .int (b2i gr)), (0, .ref mo), (1, .int (nI bd))]) (st' := [.int (b2i gr)]) hl bkX6_keep_80_81 rfl (fun ls hl => ?_)
        refine lv_if_eq (tgt := 90) B.hx B.hb dX6_keep_81 (by decide) (fun h2 => ?_) (fun h2 => ?_)
        · have e0 : gr = false := (b2i_0 _).mp h2
          have hng : ¬ (80 ≤ N ∨ ¬ hgN v 10 ≤ 3 ∨ tgF v = true) := fun q => by rw [hg.mpr q] at e0; exact absurd e0 (by decide)
          have hN8 : N < 80 := by rcases Nat.lt_or_ge N 80 with q | q; exact q; exact absurd (Or.inl q) hng
          have hg3 : hgN v 10 ≤ 3 := Decidable.of_not_not (fun q => hng (Or.inr (Or.inl q)))
          refine pb_blk B.hx B.hb (lv' := [(3, .int (nI k)), (2, .int (b2i gr)), (0, .ref mo), (1, .int (nI bd))]) (st' := [.int 0, .ref mo]) hl bkX6_keep_90_92 rfl (fun ls hl => ?_)
          refine m_put B hw 0 (by decide) wd_F_X6_63 rfl rfl rfl rfl dX6_keep_92 (fun H locs hw => ?_)
          refine pb_blk B.hx B.hb (lv' := [(3, .int (nI k)), (2, .int (b2i gr)), (0, .ref mo), (1, .int (nI bd))]) (st' := [.ref mo]) hl bkX6_keep_95_96 rfl (fun ls hl => ?_)
          refine m_get B hw 2 (by decide) wd_F_X6_7 rfl dX6_keep_96 ?_
          refine pb_blk B.hx B.hb (lv' := [(3, .int (nI k)), (2, .int (b2i gr)), (0, .ref mo), (1, .int (nI bd))]) (st' := [.ref mo, .ref (mo + 1)]) hl bkX6_keep_99_100 rfl (fun ls hl => ?_)
          refine m_get B hw 1 (by decide) wd_F_X6_82 (congrArg some hP.2.1) dX6_keep_100 ?_
          refine pb_blk B.hx B.hb (lv' := [(3, .int (nI k)), (2, .int (b2i gr)), (0, .ref mo), (1, .int (nI bd))]) (st' := [.ref mo, .int (nI N), .ref (mo + 1)]) hl bkX6_keep_103_104 rfl (fun ls hl => ?_)
          refine m_get B hw 9 (by decide) wd_F_X6_33 rfl dX6_keep_104 ?_
          refine m_callS B (c_X6_high l G (fun _ => False) mo 8 9 _ _ v (by decide) (by decide) rfl rfl hr) cy_X6_high st_X6_high wd_M_X6_89 hw.1 rfl hl.1 rfl (Nat.le_of_ble_eq_true rfl) ⟨by decide, by decide⟩ ⟨rfl, rfl⟩ ⟨Nat.le_refl _, Nat.le_refl _⟩ dX6_keep_107 (fun v hv => ?_)
          rw [po_X6_high] at hv
          subst hv
          refine lv_if_le (tgt := 117) B.hx B.hb dX6_keep_110 (by decide) (fun h3 => ?_) (fun h3 => ?_)
          · have hkd : kdF v = 0 := (kd_hg hg3).1 h3
            refine pb_blk B.hx B.hb (lv' := [(3, .int (nI k)), (2, .int (b2i gr)), (0, .ref mo), (1, .int (nI bd))]) (st' := [.int 0, .int (nI N), .ref (mo + 1)]) hl bkX6_keep_117_118 rfl (fun ls hl => ?_)
            refine m_iast B hw 1 (by decide) (by decide) rfl (vp_in_nI (show N < 80 by omega) (by decide)) dX6_keep_118 (fun H locs hw => ?_)
            rw [nI_clamp (show N < 2 ^ 31 by omega)] at hw
            have hw : Mw G mo s.heap H locs (va_up S 0 (.int 0)) (va_up ct 1 (updV (ct 1) N (.int (kdF v)))) := by rw [hkd]; exact hw
            refine pb_blk B.hx B.hb (lv' := [(3, .int 0), (2, .int (b2i gr)), (0, .ref mo), (1, .int (nI bd))]) (st' := []) hl bkX6_keep_119_121 rfl (fun ls hl => ?_)
            exact loop2 hN8 hng 5 0 _ _ _ ls (by omega) (by omega) hw (fun j hj => absurd hj (Nat.not_lt_zero _)) (fun x _ => ⟨rfl, rfl⟩) (fun a _ _ => rfl) (lv_sub hl [0, 2] rfl)
          · have hkd : kdF v = 1 := (kd_hg hg3).2 h3
            refine pb_blk B.hx B.hb (lv' := [(3, .int (nI k)), (2, .int (b2i gr)), (0, .ref mo), (1, .int (nI bd))]) (st' := [.int 1, .int (nI N), .ref (mo + 1)]) hl bkX6_keep_113_118 rfl (fun ls hl => ?_)
            refine m_iast B hw 1 (by decide) (by decide) rfl (vp_in_nI (show N < 80 by omega) (by decide)) dX6_keep_118 (fun H locs hw => ?_)
            rw [nI_clamp (show N < 2 ^ 31 by omega)] at hw
            have hw : Mw G mo s.heap H locs (va_up S 0 (.int 0)) (va_up ct 1 (updV (ct 1) N (.int (kdF v)))) := by rw [hkd]; exact hw
            refine pb_blk B.hx B.hb (lv' := [(3, .int 0), (2, .int (b2i gr)), (0, .ref mo), (1, .int (nI bd))]) (st' := []) hl bkX6_keep_119_121 rfl (fun ls hl => ?_)
            exact loop2 hN8 hng 5 0 _ _ _ ls (by omega) (by omega) hw (fun j hj => absurd hj (Nat.not_lt_zero _)) (fun x _ => ⟨rfl, rfl⟩) (fun a _ _ => rfl) (lv_sub hl [0, 2] rfl)
        · have e0 : gr = true := ts9 (fun q => h2 ((b2i_0 _).mpr q))
          refine pb_blk B.hx B.hb (lv' := [(3, .int (nI k)), (2, .int (b2i gr)), (0, .ref mo), (1, .int (nI bd))]) (st' := [.int (nI bd), .ref mo]) hl bkX6_keep_84_86 rfl (fun ls hl => ?_)
          refine m_callV B hw (c_X6_raise l G mo S ct (nI bd)) cy_X6_raise im_X6_raise se_X6_raise wd_M_X6_97 rfl hl.1 rfl (Nat.le_of_ble_eq_true rfl) ⟨by decide, by decide⟩ ⟨rfl, rfl⟩ ⟨Nat.le_refl _, Nat.le_refl _⟩ dX6_keep_86 (fun v H locs S1 ct1 hw_4 hv => ?_)
          obtain ⟨rfl, rfl, rfl⟩ := hv
          have hw := hw_4
          exact m_iret (v := 0) B hw dX6_keep_89 (by exact (Or.inl ⟨hg.mp e0, rfl, rfl, rfl⟩)) (Nat.le_of_ble_eq_true rfl) (Nat.le_of_ble_eq_true rfl)
      · have hk4 : k < 4 := (nI_ltI (by omega) (by decide)).mp (k2_lt h1)
        obtain ⟨p0, d0, e1, e2, e3⟩ := hr k (by omega)
        have htg := tg_in e3
        refine pb_blk B.hx B.hb (lv' := [(3, .int (nI k)), (2, .int (b2i gr)), (0, .ref mo), (1, .int (nI bd))]) (st' := [.int (b2i gr)]) hl bkX6_keep_33_34 rfl (fun ls hl => ?_)
        refine lv_if_ne (tgt := 68) B.hx B.hb dX6_keep_34 (by decide) (fun h2 => ?_) (fun h2 => ?_)
        · have e0 : gr = true := ts9 (fun q => h2 ((b2i_0 _).mpr q))
          refine pb_blk B.hx B.hb (lv' := [(3, .int ((nI k) + 1)), (2, .int 1), (0, .ref mo), (1, .int (nI bd))]) (st' := []) hl bkX6_keep_68_28 rfl (fun ls hl => ?_)
          exact ih (k + 1) true ls (by omega) hk4 ⟨fun _ => (hg.mp e0).imp id (fun ⟨j, hj, g⟩ => ⟨j, by omega, g⟩), fun _ => rfl⟩ (by rw [← nI_1]; exact lv_sub hl [0, 1, 2, 3] rfl)
        · have e0 : gr = false := (b2i_0 _).mp h2
          refine pb_blk B.hx B.hb (lv' := [(3, .int (nI k)), (2, .int (b2i gr)), (0, .ref mo), (1, .int (nI bd))]) (st' := [.ref mo]) hl bkX6_keep_37_38 rfl (fun ls hl => ?_)
          refine m_get B hw 9 (by decide) wd_F_X6_33 rfl dX6_keep_38 ?_
          refine pb_blk B.hx B.hb (lv' := [(3, .int (nI k)), (2, .int (b2i gr)), (0, .ref mo), (1, .int (nI bd))]) (st' := [.int (nI k), .ref (mo + 8)]) hl bkX6_keep_41_42 rfl (fun ls hl => ?_)
          refine m_lald B hw 8 (by decide) (by decide) rfl (vp_in_nI (show k < 10 by omega) (by decide)) (v := .long p0) (by rw [nI_clamp (by omega)]; exact e1) dX6_keep_42 ?_
          refine z_ldc2 B wd_L_X6_93 dX6_keep_43 ?_
          refine z_ldc2 B wd_L_X6_95 dX6_keep_46 ?_
          refine m_callS B (c_X6_in l G (fun _ => False) p0 (-60) 60) cy_X6_in st_X6_in wd_M_X6_85 trivial rfl hl.1 rfl (Nat.le_of_ble_eq_true rfl) ⟨by decide, by decide⟩ ⟨rfl, rfl⟩ ⟨Nat.le_refl _, Nat.le_refl _⟩ dX6_keep_49 (fun v hv => ?_)
          rw [po_X6_in] at hv
          subst hv
          refine lv_if_eq (tgt := 68) B.hx B.hb dX6_keep_52 (by decide) (fun h3 => ?_) (fun h3 => ?_)
          · have g1 : ¬ inB p0 (-60) 60 = true := by rw [(b2i_0 _).mp h3]; decide
            refine pb_blk B.hx B.hb (lv' := [(3, .int ((nI k) + 1)), (2, .int 1), (0, .ref mo), (1, .int (nI bd))]) (st' := []) hl bkX6_keep_68_28 rfl (fun ls hl => ?_)
            exact ih (k + 1) true ls (by omega) hk4 ⟨fun _ => Or.inr ⟨k, by omega, htg.mpr (Or.inl g1)⟩, fun _ => rfl⟩ (by rw [← nI_1]; exact lv_sub hl [0, 1, 2, 3] rfl)
          · have g1 := ts9 (fun q => h3 ((b2i_0 _).mpr q))
            refine pb_blk B.hx B.hb (lv' := [(3, .int (nI k)), (2, .int (b2i gr)), (0, .ref mo), (1, .int (nI bd))]) (st' := [.ref mo]) hl bkX6_keep_55_56 rfl (fun ls hl => ?_)
            refine m_get B hw 10 (by decide) wd_F_X6_36 rfl dX6_keep_56 ?_
            refine pb_blk B.hx B.hb (lv' := [(3, .int (nI k)), (2, .int (b2i gr)), (0, .ref mo), (1, .int (nI bd))]) (st' := [.int (nI k), .ref (mo + 9)]) hl bkX6_keep_59_60 rfl (fun ls hl => ?_)
            refine m_lald B hw 9 (by decide) (by decide) rfl (vp_in_nI (show k < 10 by omega) (by decide)) (v := .long d0) (by rw [nI_clamp (by omega)]; exact e2) dX6_keep_60 ?_
            refine z_ldc2 B wd_L_X6_95 dX6_keep_61 ?_
            refine pb_blk B.hx B.hb (lv' := [(3, .int (nI k)), (2, .int (b2i gr)), (0, .ref mo), (1, .int (nI bd))]) (st' := [.int (lg_cmp d0 60)]) hl bkX6_keep_64_65 rfl (fun ls hl => ?_)
            refine lv_if_le (tgt := 72) B.hx B.hb dX6_keep_65 (by decide) (fun h4 => ?_) (fun h4 => ?_)
            · have g2 : ¬ 60 < d0.toInt := by have h9 := (lg_cmp_le _ _).mp h4; rw [Int64.le_iff_toInt_le, show (60 : Int64).toInt = 60 from rfl] at h9; omega
              refine pb_blk B.hx B.hb (lv' := [(3, .int ((nI k) + 1)), (2, .int 0), (0, .ref mo), (1, .int (nI bd))]) (st' := []) hl bkX6_keep_72_28 rfl (fun ls hl => ?_)
              exact ih (k + 1) false ls (by omega) hk4 ⟨fun h9 => (by cases h9), fun h9 => by rcases h9 with h8 | ⟨j, hj, h8⟩; rw [hg.mpr (Or.inl h8)] at e0; exact e0.symm; rcases Nat.lt_succ_iff_lt_or_eq.mp hj with h7 | h7; rw [hg.mpr (Or.inr ⟨j, h7, h8⟩)] at e0; exact e0.symm; rw [h7] at h8; exact (htg.mp h8).elim (fun h6 => absurd g1 h6) (fun h6 => absurd h6 g2)⟩ (by rw [← nI_1]; exact lv_sub hl [0, 1, 2, 3] rfl)
            · have g2 : 60 < d0.toInt := by have h9 : ¬ d0 ≤ 60 := fun q => h4 ((lg_cmp_le _ _).mpr q); rw [Int64.le_iff_toInt_le, show (60 : Int64).toInt = 60 from rfl] at h9; omega
              refine pb_blk B.hx B.hb (lv' := [(3, .int ((nI k) + 1)), (2, .int 1), (0, .ref mo), (1, .int (nI bd))]) (st' := []) hl bkX6_keep_68_28 rfl (fun ls hl => ?_)
              exact ih (k + 1) true ls (by omega) hk4 ⟨fun _ => Or.inr ⟨k, by omega, htg.mpr (Or.inr g2)⟩, fun _ => rfl⟩ (by rw [← nI_1]; exact lv_sub hl [0, 1, 2, 3] rfl)
  refine pb_blk B.hx B.hb (lv' := [(0, .ref mo), (1, .int (nI bd))]) (st' := [.ref mo]) hl bkX6_keep_0_1 rfl (fun ls hl => ?_)
  refine m_get B hw 1 (by decide) wd_F_X6_82 (congrArg some hP.2.1) dX6_keep_1 ?_
  refine pb_blk B.hx B.hb (lv' := [(0, .ref mo), (1, .int (nI bd))]) (st' := [.int 80, .int (nI N)]) hl bkX6_keep_4_6 rfl (fun ls hl => ?_)
  refine lv_icmp_eq (tgt := 20) B.hx B.hb dX6_keep_6 (by decide) (fun h1 => ?_) (fun h1 => ?_)
  · have he : 80 ≤ N := by have := (nI_eq (show N < 2 ^ 31 by omega) (show 80 < 2 ^ 31 by decide)).mp h1; omega
    refine pb_blk B.hx B.hb (lv' := [(3, .int 0), (2, .int 1), (0, .ref mo), (1, .int (nI bd))]) (st' := []) hl bkX6_keep_20_28 rfl (fun ls hl => ?_)
    exact loop 5 0 true ls (by omega) (by omega) ⟨fun _ => Or.inl (Or.inl he), fun _ => rfl⟩ (lv_sub hl [0, 1, 2, 3] rfl)
  · have hne : N ≠ 80 := fun q => h1 (by rw [q]; rfl)
    have hl8 : ¬ 80 ≤ N := by omega
    refine pb_blk B.hx B.hb (lv' := [(0, .ref mo), (1, .int (nI bd))]) (st' := [.ref mo]) hl bkX6_keep_9_10 rfl (fun ls hl => ?_)
    refine m_get B hw 9 (by decide) wd_F_X6_33 rfl dX6_keep_10 ?_
    refine m_callS B (c_X6_high l G (fun _ => False) mo 8 9 S ct v (by decide) (by decide) rfl rfl hr) cy_X6_high st_X6_high wd_M_X6_89 hw.1 rfl hl.1 rfl (Nat.le_of_ble_eq_true rfl) ⟨by decide, by decide⟩ ⟨rfl, rfl⟩ ⟨Nat.le_refl _, Nat.le_refl _⟩ dX6_keep_13 (fun v hv => ?_)
    rw [po_X6_high] at hv
    subst hv
    refine pb_blk B.hx B.hb (lv' := [(0, .ref mo), (1, .int (nI bd))]) (st' := [.int 3, .int (hgN v 10)]) hl bkX6_keep_16_17 rfl (fun ls hl => ?_)
    refine lv_icmp_le (tgt := 24) B.hx B.hb dX6_keep_17 (by decide) (fun h2 => ?_) (fun h2 => ?_)
    · refine pb_blk B.hx B.hb (lv' := [(3, .int 0), (2, .int 0), (0, .ref mo), (1, .int (nI bd))]) (st' := []) hl bkX6_keep_24_28 rfl (fun ls hl => ?_)
      exact loop 5 0 false ls (by omega) (by omega) ⟨fun h9 => (by cases h9), fun h9 => h9.elim (fun h8 => h8.elim (fun h8 => absurd h8 hl8) (fun h7 => absurd h2 h7)) (fun ⟨j, hj, _⟩ => absurd hj (Nat.not_lt_zero _))⟩ (lv_sub hl [0, 1, 2, 3] rfl)
    · refine pb_blk B.hx B.hb (lv' := [(3, .int 0), (2, .int 1), (0, .ref mo), (1, .int (nI bd))]) (st' := []) hl bkX6_keep_20_28 rfl (fun ls hl => ?_)
      exact loop 5 0 true ls (by omega) (by omega) ⟨fun _ => Or.inl (Or.inr h2), fun _ => rfl⟩ (lv_sub hl [0, 1, 2, 3] rfl)

