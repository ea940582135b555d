def apS (z : St3) (r : Rat) (x y : Bool) : St3 := if z.2.2 (2 * z.1) = x ∧ x = y then z else (z.1 + 1, fun i => if i = z.1 then r else z.2.1 i, fun j => if j = 2 * z.1 + 1 then x else if j = 2 * z.1 + 2 then y else z.2.2 j)
theorem ixm1 (n : Nat) : 26001 + 2 * nI n + 1 = nI (26001 + 2 * n + 1) := by rw [ix0, show (26001 : Int32) + nI (2 * n) = nI (26001 + 2 * n) from nI_add 26001 (2 * n), nI_1]
theorem ixm2 (n : Nat) : 26001 + 2 * nI n + 2 = nI (26001 + 2 * n + 2) := by rw [ix0, show (26001 : Int32) + nI (2 * n) = nI (26001 + 2 * n) from nI_add 26001 (2 * n), show nI (26001 + 2 * n) + 2 = nI (26001 + 2 * n + 2) from nI_add _ 2]
theorem ixp (n : Nat) : 12960 + nI n = nI (12960 + n) := nI_add 12960 n
def apC (ct : Ct) (n : Nat) (a b : Int64) (x y : Bool) : Ct := va_up (va_up (va_up (va_up (va_up ct 5 (updV (ct 5) (12960 + n) (.long a))) 6 (updV (ct 6) (12960 + n) (.long b))) 7 (updV (ct 7) (26001 + 2 * n + 1) (.int (b2i x)))) 7 (updV (updV (ct 7) (26001 + 2 * n + 1) (.int (b2i x))) (26001 + 2 * n + 2) (.int (b2i y)))) 4 (updV (ct 4) 81 (.int (nI (n + 1))))
theorem updV_ne {f : Nat → Value} {k j : Nat} {v : Value} (h : j ≠ k) : updV f k v j = f j := by simp [updV, h]
theorem apC_4 {ct : Ct} {n : Nat} {a b : Int64} {x y : Bool} : apC ct n a b x y 4 = updV (ct 4) 81 (.int (nI (n + 1))) := rfl
theorem apC_5 {ct : Ct} {n : Nat} {a b : Int64} {x y : Bool} : apC ct n a b x y 5 = updV (ct 5) (12960 + n) (.long a) := rfl
theorem apC_6 {ct : Ct} {n : Nat} {a b : Int64} {x y : Bool} : apC ct n a b x y 6 = updV (ct 6) (12960 + n) (.long b) := rfl
theorem apC_7 {ct : Ct} {n : Nat} {a b : Int64} {x y : Bool} : apC ct n a b x y 7 = updV (updV (ct 7) (26001 + 2 * n + 1) (.int (b2i x))) (26001 + 2 * n + 2) (.int (b2i y)) := rfl
theorem apC_o {ct : Ct} {n : Nat} {a b : Int64} {x y : Bool} {k : Nat} (h : k < 4 ∨ 8 ≤ k) : apC ct n a b x y k = ct k := by
  unfold apC
  rw [va_up_ne _ _ (by omega), va_up_ne _ _ (by omega), va_up_ne _ _ (by omega), va_up_ne _ _ (by omega), va_up_ne _ _ (by omega)]
theorem apC_se {ct : Ct} {z : St3} {a b : Int64} {x y : Bool} {r : Rat} (h : SeA ct 81 z) (hn : z.1 < 160) (hf : Frx a b r) (hc : ¬ (z.2.2 (2 * z.1) = x ∧ x = y)) : SeA (apC ct z.1 a b x y) 81 (apS z r x y) ∧ Ag ct (apC ct z.1 a b x y) := by
  obtain ⟨h0, h1, h2, h3⟩ := h
  refine ⟨?_, apC_o (by omega), apC_o (by omega), apC_o (by omega), fun i hi => by rw [apC_4]; exact updV_ne (by omega), fun i hi => ⟨by rw [apC_5]; exact updV_ne (by omega), by rw [apC_6]; exact updV_ne (by omega)⟩, fun i hi => by rw [apC_7, updV_ne (by omega)]; exact updV_ne (by omega)⟩
  unfold apS
  rw [if_neg hc]
  refine ⟨by show z.1 + 1 ≤ 160; omega, by rw [apC_4]; exact updV_at, fun i hi => ?_, fun j hj => ?_⟩
  · rw [apC_5, apC_6]
    have hi : i < z.1 + 1 := hi
    show ∃ p d : Int64, _ ∧ _ ∧ Frx p d (if i = z.1 then r else z.2.1 i)
    by_cases e : i = z.1
    · subst e; rw [if_pos rfl]; exact ⟨a, b, updV_at, updV_at, hf⟩
    · rw [if_neg e, updV_ne (by omega), updV_ne (by omega)]; exact h2 i (by omega)
  · rw [apC_7]
    have hj : j < 2 * (z.1 + 1) + 1 := hj
    show _ = Value.int (b2i (if j = 2 * z.1 + 1 then x else if j = 2 * z.1 + 2 then y else z.2.2 j))
    by_cases e1 : j = 2 * z.1 + 1
    · subst e1; rw [if_pos rfl, updV_ne (by omega)]; exact updV_at
    · rw [if_neg e1]
      by_cases e2 : j = 2 * z.1 + 2
      · subst e2; rw [if_pos rfl]; exact updV_at
      · rw [if_neg e2, updV_ne (by omega), updV_ne (by omega)]; exact h3 j (by omega)

def po_X6_append (mo : Nat) (S : Sc) (ct : Ct) (a b : Int64) (x y : Bool) (r : Rat) (z : St3) : Option Value → Sc → Ct → Prop := fun v S2 ct2 => v = none ∧ S2 = S ∧ SeA ct2 81 (apS z r x y) ∧ Ag ct ct2 ∧ ∀ a, 8 ≤ a → ct2 a = ct a
theorem bkX6_append_0_1 : pb_chk cX6_append 0 [.aload_n 0] = some 1 := by decide +kernel
theorem dX6_append_1 : decode cX6_append 1 = .ok (.getfield 20, 3) := by decide +kernel
theorem bkX6_append_4_6 : pb_chk cX6_append 4 [.bipush 81] = some 6 := by decide +kernel
theorem dX6_append_6 : decode cX6_append 6 = .ok (.iaload, 1) := by decide +kernel
theorem bkX6_append_7_16 : pb_chk cX6_append 7 [.istore 7, .aload_n 0, .bipush 81, .iconst 2, .iload 7, .imul] = some 16 := by decide +kernel
theorem dX6_append_16 : decode cX6_append 16 = .ok (.invokevirtual 161, 3) := by decide +kernel
theorem bkX6_append_19_21 : pb_chk cX6_append 19 [.iload 5] = some 21 := by decide +kernel
theorem dX6_append_21 : decode cX6_append 21 = .ok (.if_icmp .ne 11, 3) := by decide +kernel
theorem bkX6_append_32_33 : pb_chk cX6_append 32 [.aload_n 0] = some 33 := by decide +kernel
theorem dX6_append_33 : decode cX6_append 33 = .ok (.getfield 23, 3) := by decide +kernel
theorem bkX6_append_36_43 : pb_chk cX6_append 36 [.sipush 12960, .iload 7, .iadd, .lload_n 1] = some 43 := by decide +kernel
theorem dX6_append_43 : decode cX6_append 43 = .ok (.lastore, 1) := by decide +kernel
theorem bkX6_append_44_45 : pb_chk cX6_append 44 [.aload_n 0] = some 45 := by decide +kernel
theorem dX6_append_45 : decode cX6_append 45 = .ok (.getfield 26, 3) := by decide +kernel
theorem bkX6_append_48_55 : pb_chk cX6_append 48 [.sipush 12960, .iload 7, .iadd, .lload_n 3] = some 55 := by decide +kernel
theorem dX6_append_55 : decode cX6_append 55 = .ok (.lastore, 1) := by decide +kernel
theorem bkX6_append_56_57 : pb_chk cX6_append 56 [.aload_n 0] = some 57 := by decide +kernel
theorem dX6_append_57 : decode cX6_append 57 = .ok (.getfield 29, 3) := by decide +kernel
theorem bkX6_append_60_72 : pb_chk cX6_append 60 [.sipush 26001, .iconst 2, .iload 7, .imul, .iadd, .iconst 1, .iadd, .iload 5] = some 72 := by decide +kernel
theorem dX6_append_72 : decode cX6_append 72 = .ok (.bastore, 1) := by decide +kernel
theorem bkX6_append_73_74 : pb_chk cX6_append 73 [.aload_n 0] = some 74 := by decide +kernel
theorem dX6_append_74 : decode cX6_append 74 = .ok (.getfield 29, 3) := by decide +kernel
theorem bkX6_append_77_89 : pb_chk cX6_append 77 [.sipush 26001, .iconst 2, .iload 7, .imul, .iadd, .iconst 2, .iadd, .iload 6] = some 89 := by decide +kernel
theorem dX6_append_89 : decode cX6_append 89 = .ok (.bastore, 1) := by decide +kernel
theorem bkX6_append_90_91 : pb_chk cX6_append 90 [.aload_n 0] = some 91 := by decide +kernel
theorem dX6_append_91 : decode cX6_append 91 = .ok (.getfield 20, 3) := by decide +kernel
theorem bkX6_append_94_100 : pb_chk cX6_append 94 [.bipush 81, .iload 7, .iconst 1, .iadd] = some 100 := by decide +kernel
theorem dX6_append_100 : decode cX6_append 100 = .ok (.iastore, 1) := by decide +kernel
theorem dX6_append_101 : decode cX6_append 101 = .ok (.return_, 1) := by decide +kernel
theorem bkX6_append_24_28 : pb_chk cX6_append 24 [.iload 5, .iload 6] = some 28 := by decide +kernel
theorem dX6_append_28 : decode cX6_append 28 = .ok (.if_icmp .ne 4, 3) := by decide +kernel
theorem dX6_append_31 : decode cX6_append 31 = .ok (.return_, 1) := by decide +kernel
set_option maxHeartbeats 4000000 in
set_option maxRecDepth 100000 in
theorem c_X6_append (l : Launch) (G : Gm) (mo : Nat) (S : Sc) (ct : Ct) (a b : Int64) (x y : Bool) (r : Rat) (z : St3) (hf : Frx a b r) (hz : SeA ct 81 z) (hroom : ¬ (z.2.2 (2 * z.1) = x ∧ x = y) → z.1 < 160) : Mm l yX6_append cX6_append 8 none (⟨1, 0, 0, 22⟩ : Room) G mo S ct [.ref mo, .long a, .long b, .int (b2i x), .int (b2i y)] (po_X6_append mo S ct a b x y r z) := by
  refine of_met (by decide) (Nat.le_of_ble_eq_true rfl) ?_
  intro p e s m below meth c ls B hA hM0 hl
  have hw := Mw.start hM0
  have hz1 := hz.1
  refine pb_blk B.hx B.hb (lv' := [(0, .ref mo), (1, .long a), (3, .long b), (5, .int (b2i x)), (6, .int (b2i y))]) (st' := [.ref mo]) hl bkX6_append_0_1 rfl (fun ls hl => ?_)
  refine m_get B hw 5 (by decide) wd_F_X6_20 rfl dX6_append_1 ?_
  refine pb_blk B.hx B.hb (lv' := [(0, .ref mo), (1, .long a), (3, .long b), (5, .int (b2i x)), (6, .int (b2i y))]) (st' := [.int 81, .ref (mo + 4)]) hl bkX6_append_4_6 rfl (fun ls hl => ?_)
  rw [show (81 : Int32) = nI 81 from rfl]
  refine m_iald B hw 4 (by decide) (by decide) rfl (vp_in_nI (show 81 < 82 by omega) (by decide)) (v := .int (nI z.1)) (by rw [nI_clamp (by omega)]; exact hz.2.1) dX6_append_6 ?_
  refine pb_blk B.hx B.hb (lv' := [(7, .int (nI z.1)), (0, .ref mo), (1, .long a), (3, .long b), (5, .int (b2i x)), (6, .int (b2i y))]) (st' := [.int (2 * (nI z.1)), .int 81, .ref mo]) hl bkX6_append_7_16 rfl (fun ls hl => ?_)
  rw [ix0, show (81 : Int32) = nI 81 from rfl]
  refine m_callN B hw (c_X6_mark l G (fun _ => False) mo S ct 81 (2 * z.1) (z.2.2 (2 * z.1)) (by omega) (hz.2.2.2 (2 * z.1) (by omega))) cy_X6_mark im_X6_mark se_X6_mark wd_M_X6_161 hw.1 rfl hl.1 rfl (Nat.le_of_ble_eq_true rfl) ⟨by decide, by decide⟩ ⟨rfl, rfl⟩ ⟨Nat.le_refl _, Nat.le_refl _⟩ dX6_append_16 (fun v hv => ?_)
  rw [po_X6_mark] at hv
  subst hv
  refine pb_blk B.hx B.hb (lv' := [(7, .int (nI z.1)), (0, .ref mo), (1, .long a), (3, .long b), (5, .int (b2i x)), (6, .int (b2i y))]) (st' := [.int (b2i x), .int (b2i (z.2.2 (2 * z.1)))]) hl bkX6_append_19_21 rfl (fun ls hl => ?_)
  refine lv_icmp_ne (tgt := 32) B.hx B.hb dX6_append_21 (by decide) (fun h1 => ?_) (fun h1 => ?_)
  · have hc : ¬ (z.2.2 (2 * z.1) = x ∧ x = y) := fun q => h1 (by rw [q.1])
    have hn := hroom hc
    obtain ⟨k1, k2⟩ := apC_se hz hn hf hc
    refine pb_blk B.hx B.hb (lv' := [(7, .int (nI z.1)), (0, .ref mo), (1, .long a), (3, .long b), (5, .int (b2i x)), (6, .int (b2i y))]) (st' := [.ref mo]) hl bkX6_append_32_33 rfl (fun ls hl => ?_)
    refine m_get B hw 6 (by decide) wd_F_X6_23 rfl dX6_append_33 ?_
    refine pb_blk B.hx B.hb (lv' := [(7, .int (nI z.1)), (0, .ref mo), (1, .long a), (3, .long b), (5, .int (b2i x)), (6, .int (b2i y))]) (st' := [.long a, .int (12960 + (nI z.1)), .ref (mo + 5)]) hl bkX6_append_36_43 rfl (fun ls hl => ?_)
    rw [ixp]
    refine m_last B hw 5 (by decide) (by decide) rfl (vp_in_nI (show 12960 + z.1 < 13120 by omega) (by decide)) dX6_append_43 (fun H locs hw => ?_)
    rw [nI_clamp (show 12960 + z.1 < 2 ^ 31 by omega)] at hw
    refine pb_blk B.hx B.hb (lv' := [(7, .int (nI z.1)), (0, .ref mo), (1, .long a), (3, .long b), (5, .int (b2i x)), (6, .int (b2i y))]) (st' := [.ref mo]) hl bkX6_append_44_45 rfl (fun ls hl => ?_)
    refine m_get B hw 7 (by decide) wd_F_X6_26 rfl dX6_append_45 ?_
    refine pb_blk B.hx B.hb (lv' := [(7, .int (nI z.1)), (0, .ref mo), (1, .long a), (3, .long b), (5, .int (b2i x)), (6, .int (b2i y))]) (st' := [.long b, .int (12960 + (nI z.1)), .ref (mo + 6)]) hl bkX6_append_48_55 rfl (fun ls hl => ?_)
    rw [ixp]
    refine m_last B hw 6 (by decide) (by decide) rfl (vp_in_nI (show 12960 + z.1 < 13120 by omega) (by decide)) dX6_append_55 (fun H locs hw => ?_)
    rw [nI_clamp (show 12960 + z.1 < 2 ^ 31 by omega)] at hw
    refine pb_blk B.hx B.hb (lv' := [(7, .int (nI z.1)), (0, .ref mo), (1, .long a), (3, .long b), (5, .int (b2i x)), (6, .int (b2i y))]) (st' := [.ref mo]) hl bkX6_append_56_57 rfl (fun ls hl => ?_)
    refine m_get B hw 8 (by decide) wd_F_X6_29 rfl dX6_append_57 ?_
    refine pb_blk B.hx B.hb (lv' := [(7, .int (nI z.1)), (0, .ref mo), (1, .long a), (3, .long b), (5, .int (b2i x)), (6, .int (b2i y))]) (st' := [.int (b2i x), .int ((26001 + (2 * (nI z.1))) + 1), .ref (mo + 7)]) hl bkX6_append_60_72 rfl (fun ls hl => ?_)
    rw [ixm1]
    refine m_zast B hw 7 (by decide) (by decide) rfl (vp_in_nI (show 26001 + 2 * z.1 + 1 < 26322 by omega) (by decide)) (b2i_n _) dX6_append_72 (fun H locs hw => ?_)
    rw [nI_clamp (show 26001 + 2 * z.1 + 1 < 2 ^ 31 by omega)] at hw
    refine pb_blk B.hx B.hb (lv' := [(7, .int (nI z.1)), (0, .ref mo), (1, .long a), (3, .long b), (5, .int (b2i x)), (6, .int (b2i y))]) (st' := [.ref mo]) hl bkX6_append_73_74 rfl (fun ls hl => ?_)
    refine m_get B hw 8 (by decide) wd_F_X6_29 rfl dX6_append_74 ?_
    refine pb_blk B.hx B.hb (lv' := [(7, .int (nI z.1)), (0, .ref mo), (1, .long a), (3, .long b), (5, .int (b2i x)), (6, .int (b2i y))]) (st' := [.int (b2i y), .int ((26001 + (2 * (nI z.1))) + 2), .ref (mo + 7)]) hl bkX6_append_77_89 rfl (fun ls hl => ?_)
    rw [ixm2]
    refine m_zast B hw 7 (by decide) (by decide) rfl (vp_in_nI (show 26001 + 2 * z.1 + 2 < 26322 by omega) (by decide)) (b2i_n _) dX6_append_89 (fun H locs hw => ?_)
    rw [nI_clamp (show 26001 + 2 * z.1 + 2 < 2 ^ 31 by omega)] at hw
    refine pb_blk B.hx B.hb (lv' := [(7, .int (nI z.1)), (0, .ref mo), (1, .long a), (3, .long b), (5, .int (b2i x)), (6, .int (b2i y))]) (st' := [.ref mo]) hl bkX6_append_90_91 rfl (fun ls hl => ?_)
    refine m_get B hw 5 (by decide) wd_F_X6_20 rfl dX6_append_91 ?_
    refine pb_blk B.hx B.hb (lv' := [(7, .int (nI z.1)), (0, .ref mo), (1, .long a), (3, .long b), (5, .int (b2i x)), (6, .int (b2i y))]) (st' := [.int ((nI z.1) + 1), .int 81, .ref (mo + 4)]) hl bkX6_append_94_100 rfl (fun ls hl => ?_)
    rw [nI_1, show (81 : Int32) = nI 81 from rfl]
    refine m_iast B hw 4 (by decide) (by decide) rfl (vp_in_nI (show 81 < 82 by omega) (by decide)) dX6_append_100 (fun H locs hw => ?_)
    rw [nI_clamp (show 81 < 2 ^ 31 by omega)] at hw
    exact m_vret B hw dX6_append_101 (by exact ⟨rfl, rfl, k1, k2, fun a ha => apC_o (Or.inr ha)⟩) (Nat.le_of_ble_eq_true rfl) (Nat.le_of_ble_eq_true rfl)
  · have e1 := b2i_inj.mp h1
    refine pb_blk B.hx B.hb (lv' := [(7, .int (nI z.1)), (0, .ref mo), (1, .long a), (3, .long b), (5, .int (b2i x)), (6, .int (b2i y))]) (st' := [.int (b2i y), .int (b2i x)]) hl bkX6_append_24_28 rfl (fun ls hl => ?_)
    refine lv_icmp_ne (tgt := 32) B.hx B.hb dX6_append_28 (by decide) (fun h2 => ?_) (fun h2 => ?_)
    · have hc : ¬ (z.2.2 (2 * z.1) = x ∧ x = y) := fun q => h2 (by rw [q.2])
      have hn := hroom hc
      obtain ⟨k1, k2⟩ := apC_se hz hn hf hc
      refine pb_blk B.hx B.hb (lv' := [(7, .int (nI z.1)), (0, .ref mo), (1, .long a), (3, .long b), (5, .int (b2i x)), (6, .int (b2i y))]) (st' := [.ref mo]) hl bkX6_append_32_33 rfl (fun ls hl => ?_)
      refine m_get B hw 6 (by decide) wd_F_X6_23 rfl dX6_append_33 ?_
      refine pb_blk B.hx B.hb (lv' := [(7, .int (nI z.1)), (0, .ref mo), (1, .long a), (3, .long b), (5, .int (b2i x)), (6, .int (b2i y))]) (st' := [.long a, .int (12960 + (nI z.1)), .ref (mo + 5)]) hl bkX6_append_36_43 rfl (fun ls hl => ?_)
      rw [ixp]
      refine m_last B hw 5 (by decide) (by decide) rfl (vp_in_nI (show 12960 + z.1 < 13120 by omega) (by decide)) dX6_append_43 (fun H locs hw => ?_)
      rw [nI_clamp (show 12960 + z.1 < 2 ^ 31 by omega)] at hw
      refine pb_blk B.hx B.hb (lv' := [(7, .int (nI z.1)), (0, .ref mo), (1, .long a), (3, .long b), (5, .int (b2i x)), (6, .int (b2i y))]) (st' := [.ref mo]) hl bkX6_append_44_45 rfl (fun ls hl => ?_)
      refine m_get B hw 7 (by decide) wd_F_X6_26 rfl dX6_append_45 ?_
      refine pb_blk B.hx B.hb (lv' := [(7, .int (nI z.1)), (0, .ref mo), (1, .long a), (3, .long b), (5, .int (b2i x)), (6, .int (b2i y))]) (st' := [.long b, .int (12960 + (nI z.1)), .ref (mo + 6)]) hl bkX6_append_48_55 rfl (fun ls hl => ?_)
      rw [ixp]
      refine m_last B hw 6 (by decide) (by decide) rfl (vp_in_nI (show 12960 + z.1 < 13120 by omega) (by decide)) dX6_append_55 (fun H locs hw => ?_)
      rw [nI_clamp (show 12960 + z.1 < 2 ^ 31 by omega)] at hw
      refine pb_blk B.hx B.hb (lv' := [(7, .int (nI z.1)), (0, .ref mo), (1, .long a), (3, .long b), (5, .int (b2i x)), (6, .int (b2i y))]) (st' := [.ref mo]) hl bkX6_append_56_57 rfl (fun ls hl => ?_)
      refine m_get B hw 8 (by decide) wd_F_X6_29 rfl dX6_append_57 ?_
      refine pb_blk B.hx B.hb (lv' := [(7, .int (nI z.1)), (0, .ref mo), (1, .long a), (3, .long b), (5, .int (b2i x)), (6, .int (b2i y))]) (st' := [.int (b2i x), .int ((26001 + (2 * (nI z.1))) + 1), .ref (mo + 7)]) hl bkX6_append_60_72 rfl (fun ls hl => ?_)
      rw [ixm1]
      refine m_zast B hw 7 (by decide) (by decide) rfl (vp_in_nI (show 26001 + 2 * z.1 + 1 < 26322 by omega) (by decide)) (b2i_n _) dX6_append_72 (fun H locs hw => ?_)
      rw [nI_clamp (show 26001 + 2 * z.1 + 1 < 2 ^ 31 by omega)] at hw
      refine pb_blk B.hx B.hb (lv' := [(7, .int (nI z.1)), (0, .ref mo), (1, .long a), (3, .long b), (5, .int (b2i x)), (6, .int (b2i y))]) (st' := [.ref mo]) hl bkX6_append_73_74 rfl (fun ls hl => ?_)
      refine m_get B hw 8 (by decide) wd_F_X6_29 rfl dX6_append_74 ?_
      refine pb_blk B.hx B.hb (lv' := [(7, .int (nI z.1)), (0, .ref mo), (1, .long a), (3, .long b), (5, .int (b2i x)), (6, .int (b2i y))]) (st' := [.int (b2i y), .int ((26001 + (2 * (nI z.1))) + 2), .ref (mo + 7)]) hl bkX6_append_77_89 rfl (fun ls hl => ?_)
      rw [ixm2]
      refine m_zast B hw 7 (by decide) (by decide) rfl (vp_in_nI (show 26001 + 2 * z.1 + 2 < 26322 by omega) (by decide)) (b2i_n _) dX6_append_89 (fun H locs hw => ?_)
      rw [nI_clamp (show 26001 + 2 * z.1 + 2 < 2 ^ 31 by omega)] at hw
      refine pb_blk B.hx B.hb (lv' := [(7, .int (nI z.1)), (0, .ref mo), (1, .long a), (3, .long b), (5, .int (b2i x)), (6, .int (b2i y))]) (st' := [.ref mo]) hl bkX6_append_90_91 rfl (fun ls hl => ?_)
      refine m_get B hw 5 (by decide) wd_F_X6_20 rfl dX6_append_91 ?_
      refine pb_blk B.hx B.hb (lv' := [(7, .int (nI z.1)), (0, .ref mo), (1, .long a), (3, .long b), (5, .int (b2i x)), (6, .int (b2i y))]) (st' := [.int ((nI z.1) + 1), .int 81, .ref (mo + 4)]) hl bkX6_append_94_100 rfl (fun ls hl => ?_)
      rw [nI_1, show (81 : Int32) = nI 81 from rfl]
      refine m_iast B hw 4 (by decide) (by decide) rfl (vp_in_nI (show 81 < 82 by omega) (by decide)) dX6_append_100 (fun H locs hw => ?_)
      rw [nI_clamp (show 81 < 2 ^ 31 by omega)] at hw
      exact m_vret B hw dX6_append_101 (by exact ⟨rfl, rfl, k1, k2, fun a ha => apC_o (Or.inr ha)⟩) (Nat.le_of_ble_eq_true rfl) (Nat.le_of_ble_eq_true rfl)
    · have e2 := b2i_inj.mp h2
      exact m_vret B hw dX6_append_31 (by exact ⟨rfl, rfl, by rw [apS, if_pos ⟨e1, e2⟩]; exact hz, Ag.rf, fun _ _ => rfl⟩) (Nat.le_of_ble_eq_true rfl) (Nat.le_of_ble_eq_true rfl)

/-- all but the slot t is as it was -/
def Cp (ct ct2 : Ct) (t : Nat) : Prop := (∀ a, a < 4 ∨ 8 ≤ a → ct2 a = ct a) ∧ (∀ i, i ≠ t → ct2 4 i = ct 4 i) ∧ (∀ i, (i < 160 * t ∨ 160 * t + 160 ≤ i) → ct2 5 i = ct 5 i ∧ ct2 6 i = ct 6 i) ∧ ∀ i, (i < 321 * t ∨ 321 * t + 321 ≤ i) → ct2 7 i = ct 7 i
theorem SeA.cp {ct ct2 : Ct} {t k : Nat} {z : St3} (h : SeA ct k z) (g : Cp ct ct2 t) (hk : k ≠ t) : SeA ct2 k z := by
  obtain ⟨h0, h1, h2, h3⟩ := h
  obtain ⟨g1, g2, g3, g4⟩ := g
  refine ⟨h0, (g2 k hk).trans h1, fun i hi => ?_, fun j hj => (g4 _ (by omega)).trans (h3 j hj)⟩
  obtain ⟨p, d, e1, e2, e3⟩ := h2 i hi
  exact ⟨p, d, (g3 _ (by omega)).1.trans e1, (g3 _ (by omega)).2.trans e2, e3⟩
theorem ThA.cp {ct ct2 : Ct} {t k : Nat} {x : Th} (h : ThA ct k x) (g : Cp ct ct2 t) (hk : k ≠ t) : ThA ct2 k x := by
  have e1 := g.1 1 (by omega)
  have e2 := g.1 2 (by omega)
  have e3 := g.1 3 (by omega)
  cases x with
  | inl u => exact ⟨by rw [e1]; exact h.1, by rw [e2, e3]; exact h.2⟩
  | inr z => exact ⟨by rw [e1]; exact h.1, h.2.cp g hk⟩
theorem Cp.p4 {ct ct2 : Ct} {t : Nat} {v : Value} (h : Cp ct ct2 t) : Cp ct (va_up ct2 4 (updV (ct2 4) t v)) t := ⟨fun a ha => by rw [va_up_ne _ _ (by omega)]; exact h.1 a ha, fun i hi => by show updV (ct2 4) t v i = _; rw [updV_ne hi]; exact h.2.1 i hi, h.2.2.1, h.2.2.2⟩
theorem Cp.p5 {ct ct2 : Ct} {t i : Nat} {v : Value} (h : Cp ct ct2 t) (hi : i < 160) : Cp ct (va_up ct2 5 (updV (ct2 5) (160 * t + i) v)) t := ⟨fun a ha => by rw [va_up_ne _ _ (by omega)]; exact h.1 a ha, h.2.1, fun j hj => ⟨by show updV (ct2 5) (160 * t + i) v j = _; rw [updV_ne (by omega)]; exact (h.2.2.1 j hj).1, (h.2.2.1 j hj).2⟩, h.2.2.2⟩
theorem Cp.p6 {ct ct2 : Ct} {t i : Nat} {v : Value} (h : Cp ct ct2 t) (hi : i < 160) : Cp ct (va_up ct2 6 (updV (ct2 6) (160 * t + i) v)) t := ⟨fun a ha => by rw [va_up_ne _ _ (by omega)]; exact h.1 a ha, h.2.1, fun j hj => ⟨(h.2.2.1 j hj).1, by show updV (ct2 6) (160 * t + i) v j = _; rw [updV_ne (by omega)]; exact (h.2.2.1 j hj).2⟩, h.2.2.2⟩
theorem Cp.p7 {ct ct2 : Ct} {t i : Nat} {v : Value} (h : Cp ct ct2 t) (hi : i < 321) : Cp ct (va_up ct2 7 (updV (ct2 7) (321 * t + i) v)) t := ⟨fun a ha => by rw [va_up_ne _ _ (by omega)]; exact h.1 a ha, h.2.1, h.2.2.1, fun j hj => by show updV (ct2 7) (321 * t + i) v j = _; rw [updV_ne (by omega)]; exact h.2.2.2 j hj⟩
def CpL (ct : Ct) (t i : Nat) (z : St3) : Prop := ct 4 t = .int (nI z.1) ∧ ∀ j, j < i → ∃ p d : Int64, ct 5 (160 * t + j) = .long p ∧ ct 6 (160 * t + j) = .long d ∧ Frx p d (z.2.1 j)

def po_X6_copySet (mo : Nat) (S : Sc) (ct : Ct) (t f : Nat) (z : St3) : Option Value → Sc → Ct → Prop := fun v S2 ct2 => v = none ∧ S2 = S ∧ SeA ct2 t z ∧ Cp ct ct2 t
theorem bkX6_copySet_0_1 : pb_chk cX6_copySet 0 [.aload_n 0] = some 1 := by decide +kernel
theorem dX6_copySet_1 : decode cX6_copySet 1 = .ok (.getfield 20, 3) := by decide +kernel
theorem bkX6_copySet_4_6 : pb_chk cX6_copySet 4 [.iload_n 1, .aload_n 0] = some 6 := by decide +kernel
theorem dX6_copySet_6 : decode cX6_copySet 6 = .ok (.getfield 20, 3) := by decide +kernel
theorem bkX6_copySet_9_10 : pb_chk cX6_copySet 9 [.iload_n 2] = some 10 := by decide +kernel
theorem dX6_copySet_10 : decode cX6_copySet 10 = .ok (.iaload, 1) := by decide +kernel
theorem dX6_copySet_11 : decode cX6_copySet 11 = .ok (.iastore, 1) := by decide +kernel
theorem bkX6_copySet_12_14 : pb_chk cX6_copySet 12 [.iconst 0, .istore_n 3] = some 14 := by decide +kernel
theorem bkX6_copySet_14_16 : pb_chk cX6_copySet 14 [.iload_n 3, .aload_n 0] = some 16 := by decide +kernel
theorem dX6_copySet_16 : decode cX6_copySet 16 = .ok (.getfield 20, 3) := by decide +kernel
theorem bkX6_copySet_19_20 : pb_chk cX6_copySet 19 [.iload_n 2] = some 20 := by decide +kernel
theorem dX6_copySet_20 : decode cX6_copySet 20 = .ok (.iaload, 1) := by decide +kernel
theorem dX6_copySet_21 : decode cX6_copySet 21 = .ok (.if_icmp .ge 57, 3) := by decide +kernel
theorem bkX6_copySet_78_80 : pb_chk cX6_copySet 78 [.iconst 0, .istore_n 3] = some 80 := by decide +kernel
theorem bkX6_copySet_24_25 : pb_chk cX6_copySet 24 [.aload_n 0] = some 25 := by decide +kernel
theorem dX6_copySet_25 : decode cX6_copySet 25 = .ok (.getfield 23, 3) := by decide +kernel
theorem bkX6_copySet_28_36 : pb_chk cX6_copySet 28 [.sipush 160, .iload_n 1, .imul, .iload_n 3, .iadd, .aload_n 0] = some 36 := by decide +kernel
theorem dX6_copySet_36 : decode cX6_copySet 36 = .ok (.getfield 23, 3) := by decide +kernel
theorem bkX6_copySet_39_46 : pb_chk cX6_copySet 39 [.sipush 160, .iload_n 2, .imul, .iload_n 3, .iadd] = some 46 := by decide +kernel
theorem dX6_copySet_46 : decode cX6_copySet 46 = .ok (.laload, 1) := by decide +kernel
theorem dX6_copySet_47 : decode cX6_copySet 47 = .ok (.lastore, 1) := by decide +kernel
theorem bkX6_copySet_48_49 : pb_chk cX6_copySet 48 [.aload_n 0] = some 49 := by decide +kernel
theorem dX6_copySet_49 : decode cX6_copySet 49 = .ok (.getfield 26, 3) := by decide +kernel
theorem bkX6_copySet_52_60 : pb_chk cX6_copySet 52 [.sipush 160, .iload_n 1, .imul, .iload_n 3, .iadd, .aload_n 0] = some 60 := by decide +kernel
theorem dX6_copySet_60 : decode cX6_copySet 60 = .ok (.getfield 26, 3) := by decide +kernel
theorem bkX6_copySet_63_70 : pb_chk cX6_copySet 63 [.sipush 160, .iload_n 2, .imul, .iload_n 3, .iadd] = some 70 := by decide +kernel
theorem dX6_copySet_70 : decode cX6_copySet 70 = .ok (.laload, 1) := by decide +kernel
theorem dX6_copySet_71 : decode cX6_copySet 71 = .ok (.lastore, 1) := by decide +kernel
theorem bkX6_copySet_72_14 : pb_chk cX6_copySet 72 [.iinc 3 1, .goto (-61)] = some 14 := by decide +kernel
theorem bkX6_copySet_80_83 : pb_chk cX6_copySet 80 [.iload_n 3, .iconst 2, .aload_n 0] = some 83 := by decide +kernel
theorem dX6_copySet_83 : decode cX6_copySet 83 = .ok (.getfield 20, 3) := by decide +kernel
theorem bkX6_copySet_86_87 : pb_chk cX6_copySet 86 [.iload_n 2] = some 87 := by decide +kernel
theorem dX6_copySet_87 : decode cX6_copySet 87 = .ok (.iaload, 1) := by decide +kernel
theorem bkX6_copySet_88_89 : pb_chk cX6_copySet 88 [.imul] = some 89 := by decide +kernel
theorem dX6_copySet_89 : decode cX6_copySet 89 = .ok (.if_icmp .gt 33, 3) := by decide +kernel
theorem dX6_copySet_122 : decode cX6_copySet 122 = .ok (.return_, 1) := by decide +kernel
theorem bkX6_copySet_92_93 : pb_chk cX6_copySet 92 [.aload_n 0] = some 93 := by decide +kernel
theorem dX6_copySet_93 : decode cX6_copySet 93 = .ok (.getfield 29, 3) := by decide +kernel
theorem bkX6_copySet_96_104 : pb_chk cX6_copySet 96 [.sipush 321, .iload_n 1, .imul, .iload_n 3, .iadd, .aload_n 0] = some 104 := by decide +kernel
theorem dX6_copySet_104 : decode cX6_copySet 104 = .ok (.getfield 29, 3) := by decide +kernel
theorem bkX6_copySet_107_114 : pb_chk cX6_copySet 107 [.sipush 321, .iload_n 2, .imul, .iload_n 3, .iadd] = some 114 := by decide +kernel
theorem dX6_copySet_114 : decode cX6_copySet 114 = .ok (.baload, 1) := by decide +kernel
theorem dX6_copySet_115 : decode cX6_copySet 115 = .ok (.bastore, 1) := by decide +kernel
theorem bkX6_copySet_116_80 : pb_chk cX6_copySet 116 [.iinc 3 1, .goto (-39)] = some 80 := by decide +kernel
set_option maxHeartbeats 4000000 in
set_option maxRecDepth 100000 in
theorem c_X6_copySet (l : Launch) (G : Gm) (mo : Nat) (S : Sc) (ct : Ct) (t f : Nat) (z : St3) (hz : SeA ct f z) (ht : t ≤ 80) (hf : f ≤ 81) (htf : f ≠ t) : Mm l yX6_copySet cX6_copySet 4 none (⟨0, 0, 0, 0⟩ : Room) G mo S ct [.ref mo, .int (nI t), .int (nI f)] (po_X6_copySet mo S ct t f z) := by
  refine of_met (by decide) (Nat.le_of_ble_eq_true rfl) ?_
  intro p e s m below meth c ls B hA hM0 hl
  have hw := Mw.start hM0
  have hz1 := hz.1
  have loop2 : ∀ (n i : Nat) (H : Heap) (locs : List Loc) (ct1 : Ct) (ls : Array Slot), 2 * z.1 + 2 ≤ i + n → i ≤ 2 * z.1 + 1 → Mw G mo s.heap H locs S ct1 → Cp ct ct1 t → CpL ct1 t z.1 z → (∀ j, j < i → ct1 7 (321 * t + j) = .int (b2i (z.2.2 j))) → lv_has ls 4 [(3, .int (nI i)), (0, .ref mo), (1, .int (nI t)), (2, .int (nI f))] → W p l e (⟨0, 0, 0, 0⟩ : Room) s m ([.ref mo, .int (nI t), .int (nI f)] : List Value).toArray below meth c H locs 0 0 (MQ below (Qm G mo (po_X6_copySet mo S ct t f z)) ([.ref mo, .int (nI t), .int (nI f)] : List Value).toArray s (⟨0, 0, 0, 0⟩ : Room).cells (⟨0, 0, 0, 0⟩ : Room).slots (FM mo)) (F0 m 80 ls []) := by
    intro n
    induction n with
    | zero => intro i H locs ct1 ls h1 h2; omega
    | succ n ih =>
      intro i H locs ct1 ls hn hi hw hc hp hm hl
      refine pb_blk B.hx B.hb (lv' := [(3, .int (nI i)), (0, .ref mo), (1, .int (nI t)), (2, .int (nI f))]) (st' := [.ref mo, .int 2, .int (nI i)]) hl bkX6_copySet_80_83 rfl (fun ls hl => ?_)
      refine m_get B hw 5 (by decide) wd_F_X6_20 rfl dX6_copySet_83 ?_
      refine pb_blk B.hx B.hb (lv' := [(3, .int (nI i)), (0, .ref mo), (1, .int (nI t)), (2, .int (nI f))]) (st' := [.int (nI f), .ref (mo + 4), .int 2, .int (nI i)]) hl bkX6_copySet_86_87 rfl (fun ls hl => ?_)
      refine m_iald B hw 4 (by decide) (by decide) rfl (vp_in_nI (show f < 82 by omega) (by decide)) (v := .int (nI z.1)) (by rw [nI_clamp (by omega)]; exact (hc.2.1 f htf).trans hz.2.1) dX6_copySet_87 ?_
      refine pb_blk B.hx B.hb (lv' := [(3, .int (nI i)), (0, .ref mo), (1, .int (nI t)), (2, .int (nI f))]) (st' := [.int (2 * (nI z.1)), .int (nI i)]) hl bkX6_copySet_88_89 rfl (fun ls hl => ?_)
      rw [ix0]
      refine lv_icmp_gt (tgt := 122) B.hx B.hb dX6_copySet_89 (by decide) (fun h1 => ?_) (fun h1 => ?_)
      · have e4 : 2 * z.1 < i := (nI_ltI (by omega) (by omega)).mp h1
        exact m_vret B hw dX6_copySet_122 (by exact ⟨rfl, rfl, ⟨hz1, hp.1, hp.2, fun j hj => hm j (by omega)⟩, hc⟩) (Nat.le_of_ble_eq_true rfl) (Nat.le_of_ble_eq_true rfl)
      · have hi4 : i ≤ 2 * z.1 := by rcases Nat.lt_or_ge (2 * z.1) i with g | g; exact absurd ((nI_ltI (by omega) (by omega)).mpr g) h1; exact g
        refine pb_blk B.hx B.hb (lv' := [(3, .int (nI i)), (0, .ref mo), (1, .int (nI t)), (2, .int (nI f))]) (st' := [.ref mo]) hl bkX6_copySet_92_93 rfl (fun ls hl => ?_)
        refine m_get B hw 8 (by decide) wd_F_X6_29 rfl dX6_copySet_93 ?_
        refine pb_blk B.hx B.hb (lv' := [(3, .int (nI i)), (0, .ref mo), (1, .int (nI t)), (2, .int (nI f))]) (st' := [.ref mo, .int ((321 * (nI t)) + (nI i)), .ref (mo + 7)]) hl bkX6_copySet_96_104 rfl (fun ls hl => ?_)
        refine m_get B hw 8 (by decide) wd_F_X6_29 rfl dX6_copySet_104 ?_
        refine pb_blk B.hx B.hb (lv' := [(3, .int (nI i)), (0, .ref mo), (1, .int (nI t)), (2, .int (nI f))]) (st' := [.int ((321 * (nI f)) + (nI i)), .ref (mo + 7), .int ((321 * (nI t)) + (nI i)), .ref (mo + 7)]) hl bkX6_copySet_107_114 rfl (fun ls hl => ?_)
        rw [ix321]
        rw [ix321]
        refine m_zald B hw 7 (by decide) (by decide) rfl (vp_in_nI (show 321 * f + i < 26322 by omega) (by decide)) (v := .int (b2i (z.2.2 i))) (by rw [nI_clamp (by omega)]; exact (hc.2.2.2 _ (by omega)).trans (hz.2.2.2 i (by omega))) dX6_copySet_114 ?_
        refine m_zast B hw 7 (by decide) (by decide) rfl (vp_in_nI (show 321 * t + i < 26322 by omega) (by decide)) (b2i_n _) dX6_copySet_115 (fun H locs hw => ?_)
        rw [nI_clamp (show 321 * t + i < 2 ^ 31 by omega)] at hw
        have hc := hc.p7 (v := .int (b2i (z.2.2 i))) (show i < 321 by omega)
        refine pb_blk B.hx B.hb (lv' := [(3, .int ((nI i) + 1)), (0, .ref mo), (1, .int (nI t)), (2, .int (nI f))]) (st' := []) hl bkX6_copySet_116_80 rfl (fun ls hl => ?_)
        exact ih (i + 1) _ _ _ ls (by omega) (by omega) hw hc hp (fun j hj => by by_cases e9 : j = i; subst e9; exact updV_at; exact (updV_ne (by omega)).trans (hm j (by omega))) (by rw [← nI_1]; exact lv_sub hl [0, 1, 2, 3] rfl)
  have loop1 : ∀ (n i : Nat) (H : Heap) (locs : List Loc) (ct1 : Ct) (ls : Array Slot), z.1 + 1 ≤ i + n → i ≤ z.1 → Mw G mo s.heap H locs S ct1 → Cp ct ct1 t → CpL ct1 t i z → lv_has ls 4 [(3, .int (nI i)), (0, .ref mo), (1, .int (nI t)), (2, .int (nI f))] → W p l e (⟨0, 0, 0, 0⟩ : Room) s m ([.ref mo, .int (nI t), .int (nI f)] : List Value).toArray below meth c H locs 0 0 (MQ below (Qm G mo (po_X6_copySet mo S ct t f z)) ([.ref mo, .int (nI t), .int (nI f)] : List Value).toArray s (⟨0, 0, 0, 0⟩ : Room).cells (⟨0, 0, 0, 0⟩ : Room).slots (FM mo)) (F0 m 14 ls []) := by
    intro n
    induction n with
    | zero => intro i H locs ct1 ls h1 h2; omega
    | succ n ih =>
      intro i H locs ct1 ls hn hi hw hc hp hl
      refine pb_blk B.hx B.hb (lv' := [(3, .int (nI i)), (0, .ref mo), (1, .int (nI t)), (2, .int (nI f))]) (st' := [.ref mo, .int (nI i)]) hl bkX6_copySet_14_16 rfl (fun ls hl => ?_)
      refine m_get B hw 5 (by decide) wd_F_X6_20 rfl dX6_copySet_16 ?_
      refine pb_blk B.hx B.hb (lv' := [(3, .int (nI i)), (0, .ref mo), (1, .int (nI t)), (2, .int (nI f))]) (st' := [.int (nI f), .ref (mo + 4), .int (nI i)]) hl bkX6_copySet_19_20 rfl (fun ls hl => ?_)
      refine m_iald B hw 4 (by decide) (by decide) rfl (vp_in_nI (show f < 82 by omega) (by decide)) (v := .int (nI z.1)) (by rw [nI_clamp (by omega)]; exact (hc.2.1 f htf).trans hz.2.1) dX6_copySet_20 ?_
      refine lv_icmp_ge (tgt := 78) B.hx B.hb dX6_copySet_21 (by decide) (fun h1 => ?_) (fun h1 => ?_)
      · have e4 : i = z.1 := by have := nI_nlt_le (show z.1 < 2 ^ 31 by omega) (k2_nlt h1); omega
        rw [e4] at hp
        refine pb_blk B.hx B.hb (lv' := [(3, .int 0), (0, .ref mo), (1, .int (nI t)), (2, .int (nI f))]) (st' := []) hl bkX6_copySet_78_80 rfl (fun ls hl => ?_)
        exact loop2 (2 * z.1 + 2) 0 _ _ _ ls (by omega) (by omega) hw hc hp (fun j hj => absurd hj (Nat.not_lt_zero _)) (lv_sub hl [0, 1, 2, 3] rfl)
      · have hi4 : i < z.1 := (nI_ltI (by omega) (by omega)).mp (k2_lt h1)
        obtain ⟨p0, d0, e1, e2, e3⟩ := hz.2.2.1 i hi4
        refine pb_blk B.hx B.hb (lv' := [(3, .int (nI i)), (0, .ref mo), (1, .int (nI t)), (2, .int (nI f))]) (st' := [.ref mo]) hl bkX6_copySet_24_25 rfl (fun ls hl => ?_)
        refine m_get B hw 6 (by decide) wd_F_X6_23 rfl dX6_copySet_25 ?_
        refine pb_blk B.hx B.hb (lv' := [(3, .int (nI i)), (0, .ref mo), (1, .int (nI t)), (2, .int (nI f))]) (st' := [.ref mo, .int ((160 * (nI t)) + (nI i)), .ref (mo + 5)]) hl bkX6_copySet_28_36 rfl (fun ls hl => ?_)
        refine m_get B hw 6 (by decide) wd_F_X6_23 rfl dX6_copySet_36 ?_
        refine pb_blk B.hx B.hb (lv' := [(3, .int (nI i)), (0, .ref mo), (1, .int (nI t)), (2, .int (nI f))]) (st' := [.int ((160 * (nI f)) + (nI i)), .ref (mo + 5), .int ((160 * (nI t)) + (nI i)), .ref (mo + 5)]) hl bkX6_copySet_39_46 rfl (fun ls hl => ?_)
        rw [ix160]
        rw [ix160]
        refine m_lald B hw 5 (by decide) (by decide) rfl (vp_in_nI (show 160 * f + i < 13120 by omega) (by decide)) (v := .long p0) (by rw [nI_clamp (by omega)]; exact (hc.2.2.1 _ (by omega)).1.trans e1) dX6_copySet_46 ?_
        refine m_last B hw 5 (by decide) (by decide) rfl (vp_in_nI (show 160 * t + i < 13120 by omega) (by decide)) dX6_copySet_47 (fun H locs hw => ?_)
        rw [nI_clamp (show 160 * t + i < 2 ^ 31 by omega)] at hw
        have hc := hc.p5 (v := .long p0) (show i < 160 by omega)
        refine pb_blk B.hx B.hb (lv' := [(3, .int (nI i)), (0, .ref mo), (1, .int (nI t)), (2, .int (nI f))]) (st' := [.ref mo]) hl bkX6_copySet_48_49 rfl (fun ls hl => ?_)
        refine m_get B hw 7 (by decide) wd_F_X6_26 rfl dX6_copySet_49 ?_
        refine pb_blk B.hx B.hb (lv' := [(3, .int (nI i)), (0, .ref mo), (1, .int (nI t)), (2, .int (nI f))]) (st' := [.ref mo, .int ((160 * (nI t)) + (nI i)), .ref (mo + 6)]) hl bkX6_copySet_52_60 rfl (fun ls hl => ?_)
        refine m_get B hw 7 (by decide) wd_F_X6_26 rfl dX6_copySet_60 ?_
        refine pb_blk B.hx B.hb (lv' := [(3, .int (nI i)), (0, .ref mo), (1, .int (nI t)), (2, .int (nI f))]) (st' := [.int ((160 * (nI f)) + (nI i)), .ref (mo + 6), .int ((160 * (nI t)) + (nI i)), .ref (mo + 6)]) hl bkX6_copySet_63_70 rfl (fun ls hl => ?_)
        rw [ix160]
        rw [ix160]
        refine m_lald B hw 6 (by decide) (by decide) rfl (vp_in_nI (show 160 * f + i < 13120 by omega) (by decide)) (v := .long d0) (by rw [nI_clamp (by omega)]; exact (hc.2.2.1 _ (by omega)).2.trans e2) dX6_copySet_70 ?_
        refine m_last B hw 6 (by decide) (by decide) rfl (vp_in_nI (show 160 * t + i < 13120 by omega) (by decide)) dX6_copySet_71 (fun H locs hw => ?_)
        rw [nI_clamp (show 160 * t + i < 2 ^ 31 by omega)] at hw
        have hc := hc.p6 (v := .long d0) (show i < 160 by omega)
        refine pb_blk B.hx B.hb (lv' := [(3, .int ((nI i) + 1)), (0, .ref mo), (1, .int (nI t)), (2, .int (nI f))]) (st' := []) hl bkX6_copySet_72_14 rfl (fun ls hl => ?_)
        exact ih (i + 1) _ _ _ ls (by omega) hi4 hw hc ⟨hp.1, fun j hj => by by_cases e9 : j = i; subst e9; exact ⟨p0, d0, updV_at, updV_at, e3⟩; obtain ⟨p1, d1, g1, g2, g3⟩ := hp.2 j (by omega); exact ⟨p1, d1, (updV_ne (by omega)).trans g1, (updV_ne (by omega)).trans g2, g3⟩⟩ (by rw [← nI_1]; exact lv_sub hl [0, 1, 2, 3] rfl)
  refine pb_blk B.hx B.hb (lv' := [(0, .ref mo), (1, .int (nI t)), (2, .int (nI f))]) (st' := [.ref mo]) hl bkX6_copySet_0_1 rfl (fun ls hl => ?_)
  refine m_get B hw 5 (by decide) wd_F_X6_20 rfl dX6_copySet_1 ?_
  refine pb_blk B.hx B.hb (lv' := [(0, .ref mo), (1, .int (nI t)), (2, .int (nI f))]) (st' := [.ref mo, .int (nI t), .ref (mo + 4)]) hl bkX6_copySet_4_6 rfl (fun ls hl => ?_)
  refine m_get B hw 5 (by decide) wd_F_X6_20 rfl dX6_copySet_6 ?_
  refine pb_blk B.hx B.hb (lv' := [(0, .ref mo), (1, .int (nI t)), (2, .int (nI f))]) (st' := [.int (nI f), .ref (mo + 4), .int (nI t), .ref (mo + 4)]) hl bkX6_copySet_9_10 rfl (fun ls hl => ?_)
  refine m_iald B hw 4 (by decide) (by decide) rfl (vp_in_nI (show f < 82 by omega) (by decide)) (v := .int (nI z.1)) (by rw [nI_clamp (by omega)]; exact hz.2.1) dX6_copySet_10 ?_
  refine m_iast B hw 4 (by decide) (by decide) rfl (vp_in_nI (show t < 82 by omega) (by decide)) dX6_copySet_11 (fun H locs hw => ?_)
  rw [nI_clamp (show t < 2 ^ 31 by omega)] at hw
  refine pb_blk B.hx B.hb (lv' := [(3, .int 0), (0, .ref mo), (1, .int (nI t)), (2, .int (nI f))]) (st' := []) hl bkX6_copySet_12_14 rfl (fun ls hl => ?_)
  exact loop1 (z.1 + 1) 0 _ _ _ ls (by omega) (by omega) hw (Cp.p4 ⟨fun _ _ => rfl, fun _ _ => rfl, fun _ _ => ⟨rfl, rfl⟩, fun _ _ => rfl⟩) ⟨updV_at, fun j hj => absurd hj (Nat.not_lt_zero _)⟩ (lv_sub hl [0, 1, 2, 3] rfl)

theorem fx_lt {n1 d1 n2 d2 : Int64} {r1 r2 : Rat} (h1 : Frx n1 d1 r1) (h2 : Frx n2 d2 r2) (hn : r1.num.natAbs * r2.den < 2 ^ 62) (hm : r2.num.natAbs * r1.den < 2 ^ 62) : (n1 * d2 < n2 * d1 ↔ r1 < r2) ∧ (n1 * d2).toInt = r1.num * r2.den ∧ (n2 * d1).toInt = r2.num * r1.den := by
  obtain ⟨e1, e2⟩ := h1
  obtain ⟨f1, f2⟩ := h2
  have c1 : (r1.num * (r2.den : Int)).natAbs < 2 ^ 62 := by rw [Int.natAbs_mul]; exact hn
  have c2 : (r2.num * (r1.den : Int)).natAbs < 2 ^ 62 := by rw [Int.natAbs_mul]; exact hm
  have m1 : (n1 * d2).toInt = r1.num * r2.den := by rw [Kit.i64_mul (by rw [e1, f2]; omega) (by rw [e1, f2]; omega), e1, f2]
  have m2 : (n2 * d1).toInt = r2.num * r1.den := by rw [Kit.i64_mul (by rw [f1, e2]; omega) (by rw [f1, e2]; omega), f1, e2]
  exact ⟨by rw [Int64.lt_iff_toInt_lt, m1, m2, Rat.lt_iff], m1, m2⟩
theorem fx_eq {n1 d1 n2 d2 : Int64} {r1 r2 : Rat} (h1 : Frx n1 d1 r1) (h2 : Frx n2 d2 r2) : (n1 = n2 ∧ d1 = d2) ↔ r1 = r2 := by
  constructor
  · rintro ⟨rfl, rfl⟩
    exact Rat.ext (h1.1.symm.trans h2.1) (by have := h1.2.symm.trans h2.2; omega)
  · intro e
    subst e
    exact ⟨i64_eq (h1.1.trans h2.1.symm), i64_eq (h1.2.trans h2.2.symm)⟩

def po_X6_placeOf (G : Gm) (A : Nat → Prop) (mo : Nat) (S : Sc) (ct : Ct) (k : Nat) (a b : Int64) (r : Rat) (z : St3) : Option Value → Prop := fun v => ∃ t, v = some (.int (nI t)) ∧ IsPos z.1 z.2.1 r t
theorem bkX6_placeOf_0_8 : pb_chk cX6_placeOf 0 [.iconst 0, .istore 6, .sipush 160, .iload_n 1, .imul] = some 8 := by decide +kernel
theorem bkX6_placeOf_8_10 : pb_chk cX6_placeOf 8 [.istore 7] = some 10 := by decide +kernel
theorem bkX6_placeOf_10_13 : pb_chk cX6_placeOf 10 [.iload 6, .aload_n 0] = some 13 := by decide +kernel
theorem dX6_placeOf_13 : decode cX6_placeOf 13 = .ok (.getfield 20, 3) := by decide +kernel
theorem bkX6_placeOf_16_17 : pb_chk cX6_placeOf 16 [.iload_n 1] = some 17 := by decide +kernel
theorem dX6_placeOf_17 : decode cX6_placeOf 17 = .ok (.iaload, 1) := by decide +kernel
theorem dX6_placeOf_18 : decode cX6_placeOf 18 = .ok (.if_icmp .ge 38, 3) := by decide +kernel
theorem bkX6_placeOf_56_59 : pb_chk cX6_placeOf 56 [.iload 6, .aload_n 0] = some 59 := by decide +kernel
theorem dX6_placeOf_59 : decode cX6_placeOf 59 = .ok (.getfield 20, 3) := by decide +kernel
theorem bkX6_placeOf_62_63 : pb_chk cX6_placeOf 62 [.iload_n 1] = some 63 := by decide +kernel
theorem dX6_placeOf_63 : decode cX6_placeOf 63 = .ok (.iaload, 1) := by decide +kernel
theorem dX6_placeOf_64 : decode cX6_placeOf 64 = .ok (.if_icmp .ge 43, 3) := by decide +kernel
theorem bkX6_placeOf_107_111 : pb_chk cX6_placeOf 107 [.iconst 2, .iload 6, .imul] = some 111 := by decide +kernel
theorem dX6_placeOf_111 : decode cX6_placeOf 111 = .ok (.ireturn, 1) := by decide +kernel
theorem bkX6_placeOf_21_22 : pb_chk cX6_placeOf 21 [.aload_n 0] = some 22 := by decide +kernel
theorem dX6_placeOf_22 : decode cX6_placeOf 22 = .ok (.getfield 23, 3) := by decide +kernel
theorem bkX6_placeOf_25_30 : pb_chk cX6_placeOf 25 [.iload 7, .iload 6, .iadd] = some 30 := by decide +kernel
theorem dX6_placeOf_30 : decode cX6_placeOf 30 = .ok (.laload, 1) := by decide +kernel
theorem bkX6_placeOf_31_36 : pb_chk cX6_placeOf 31 [.lload 4, .lmul, .lload_n 2, .aload_n 0] = some 36 := by decide +kernel
theorem dX6_placeOf_36 : decode cX6_placeOf 36 = .ok (.getfield 26, 3) := by decide +kernel
theorem bkX6_placeOf_39_44 : pb_chk cX6_placeOf 39 [.iload 7, .iload 6, .iadd] = some 44 := by decide +kernel
theorem dX6_placeOf_44 : decode cX6_placeOf 44 = .ok (.laload, 1) := by decide +kernel
theorem bkX6_placeOf_45_47 : pb_chk cX6_placeOf 45 [.lmul, .lcmp] = some 47 := by decide +kernel
theorem dX6_placeOf_47 : decode cX6_placeOf 47 = .ok (.ifCond .ge 9, 3) := by decide +kernel
theorem bkX6_placeOf_67_68 : pb_chk cX6_placeOf 67 [.aload_n 0] = some 68 := by decide +kernel
theorem dX6_placeOf_68 : decode cX6_placeOf 68 = .ok (.getfield 23, 3) := by decide +kernel
theorem bkX6_placeOf_71_76 : pb_chk cX6_placeOf 71 [.iload 7, .iload 6, .iadd] = some 76 := by decide +kernel
theorem dX6_placeOf_76 : decode cX6_placeOf 76 = .ok (.laload, 1) := by decide +kernel
theorem bkX6_placeOf_77_79 : pb_chk cX6_placeOf 77 [.lload_n 2, .lcmp] = some 79 := by decide +kernel
theorem dX6_placeOf_79 : decode cX6_placeOf 79 = .ok (.ifCond .ne 28, 3) := by decide +kernel
theorem bkX6_placeOf_82_83 : pb_chk cX6_placeOf 82 [.aload_n 0] = some 83 := by decide +kernel
theorem dX6_placeOf_83 : decode cX6_placeOf 83 = .ok (.getfield 26, 3) := by decide +kernel
theorem bkX6_placeOf_86_91 : pb_chk cX6_placeOf 86 [.iload 7, .iload 6, .iadd] = some 91 := by decide +kernel
theorem dX6_placeOf_91 : decode cX6_placeOf 91 = .ok (.laload, 1) := by decide +kernel
theorem bkX6_placeOf_92_95 : pb_chk cX6_placeOf 92 [.lload 4, .lcmp] = some 95 := by decide +kernel
theorem dX6_placeOf_95 : decode cX6_placeOf 95 = .ok (.ifCond .ne 12, 3) := by decide +kernel
theorem bkX6_placeOf_98_111 : pb_chk cX6_placeOf 98 [.iconst 2, .iload 6, .imul, .iconst 1, .iadd, .goto 7] = some 111 := by decide +kernel
theorem bkX6_placeOf_50_10 : pb_chk cX6_placeOf 50 [.iinc 6 1, .goto (-43)] = some 10 := by decide +kernel
set_option maxHeartbeats 4000000 in
set_option maxRecDepth 100000 in
theorem c_X6_placeOf (l : Launch) (G : Gm) (A : Nat → Prop) (mo : Nat) (S : Sc) (ct : Ct) (k : Nat) (a b : Int64) (r : Rat) (z : St3) (hk : k ≤ 81) (hz : SeA ct k z) (hf : Frx a b r) (hb : ∀ i, i < z.1 → Bg (z.2.1 i)) (hbr : Bg r) : Mn l yX6_placeOf cX6_placeOf 8 (some .int) (⟨0, 0, 0, 0⟩ : Room) G [.ref mo, .int (nI k), .long a, .long b] (fun H => MS G H mo S ct) (po_X6_placeOf G A mo S ct k a b r z) := by
  refine of_met (by decide) (Nat.le_of_ble_eq_true rfl) ?_
  intro p e s m below meth c ls B hA hM0 hl
  have hw := Mw.start hM0
  have hz1 := hz.1
  have loop : ∀ (n i : Nat) (ls : Array Slot), z.1 + 1 ≤ i + n → i ≤ z.1 → (∀ j, j < i → z.2.1 j < r) → lv_has ls 8 [(7, .int (nI (160 * k))), (6, .int (nI i)), (0, .ref mo), (1, .int (nI k)), (2, .long a), (4, .long b)] → W p l e (⟨0, 0, 0, 0⟩ : Room) s m ([.ref mo, .int (nI k), .long a, .long b] : List Value).toArray below meth c s.heap [] 0 0 (MQ below (Qn (po_X6_placeOf G A mo S ct k a b r z)) ([.ref mo, .int (nI k), .long a, .long b] : List Value).toArray s (⟨0, 0, 0, 0⟩ : Room).cells (⟨0, 0, 0, 0⟩ : Room).slots (fun _ => False)) (F0 m 10 ls []) := by
    intro n
    induction n with
    | zero => intro i ls h1 h2; omega
    | succ n ih =>
      intro i ls hn hi hlt hl
      refine pb_blk B.hx B.hb (lv' := [(7, .int (nI (160 * k))), (6, .int (nI i)), (0, .ref mo), (1, .int (nI k)), (2, .long a), (4, .long b)]) (st' := [.ref mo, .int (nI i)]) hl bkX6_placeOf_10_13 rfl (fun ls hl => ?_)
      refine m_get B hw 5 (by decide) wd_F_X6_20 rfl dX6_placeOf_13 ?_
      refine pb_blk B.hx B.hb (lv' := [(7, .int (nI (160 * k))), (6, .int (nI i)), (0, .ref mo), (1, .int (nI k)), (2, .long a), (4, .long b)]) (st' := [.int (nI k), .ref (mo + 4), .int (nI i)]) hl bkX6_placeOf_16_17 rfl (fun ls hl => ?_)
      refine m_iald B hw 4 (by decide) (by decide) rfl (vp_in_nI (show k < 82 by omega) (by decide)) (v := .int (nI z.1)) (by rw [nI_clamp (by omega)]; exact hz.2.1) dX6_placeOf_17 ?_
      refine lv_icmp_ge (tgt := 56) B.hx B.hb dX6_placeOf_18 (by decide) (fun h1 => ?_) (fun h1 => ?_)
      · have e4 : i = z.1 := by have := nI_nlt_le (show z.1 < 2 ^ 31 by omega) (k2_nlt h1); omega
        refine pb_blk B.hx B.hb (lv' := [(7, .int (nI (160 * k))), (6, .int (nI i)), (0, .ref mo), (1, .int (nI k)), (2, .long a), (4, .long b)]) (st' := [.ref mo, .int (nI i)]) hl bkX6_placeOf_56_59 rfl (fun ls hl => ?_)
        refine m_get B hw 5 (by decide) wd_F_X6_20 rfl dX6_placeOf_59 ?_
        refine pb_blk B.hx B.hb (lv' := [(7, .int (nI (160 * k))), (6, .int (nI i)), (0, .ref mo), (1, .int (nI k)), (2, .long a), (4, .long b)]) (st' := [.int (nI k), .ref (mo + 4), .int (nI i)]) hl bkX6_placeOf_62_63 rfl (fun ls hl => ?_)
        refine m_iald B hw 4 (by decide) (by decide) rfl (vp_in_nI (show k < 82 by omega) (by decide)) (v := .int (nI z.1)) (by rw [nI_clamp (by omega)]; exact hz.2.1) dX6_placeOf_63 ?_
        refine lv_icmp_ge (tgt := 107) B.hx B.hb dX6_placeOf_64 (by decide) (fun h2 => ?_) (fun h2 => ?_)
        · refine pb_blk B.hx B.hb (lv' := [(7, .int (nI (160 * k))), (6, .int (nI i)), (0, .ref mo), (1, .int (nI k)), (2, .long a), (4, .long b)]) (st' := [.int (2 * (nI i))]) hl bkX6_placeOf_107_111 rfl (fun ls hl => ?_)
          rw [ix0]
          exact n_iret B dX6_placeOf_111 ⟨2 * i, rfl, i, hi, hlt, Or.inr ⟨fun h9 => by omega, rfl⟩⟩ (Nat.le_refl _) (Nat.le_refl _)
        · exact absurd h1 h2
      · have hi4 : i < z.1 := (nI_ltI (by omega) (by omega)).mp (k2_lt h1)
        obtain ⟨p0, d0, e1, e2, e3⟩ := hz.2.2.1 i hi4
        have hc := (hb i hi4).cmp hbr
        have hq := fx_lt e3 hf hc.1 hc.2
        refine pb_blk B.hx B.hb (lv' := [(7, .int (nI (160 * k))), (6, .int (nI i)), (0, .ref mo), (1, .int (nI k)), (2, .long a), (4, .long b)]) (st' := [.ref mo]) hl bkX6_placeOf_21_22 rfl (fun ls hl => ?_)
        refine m_get B hw 6 (by decide) wd_F_X6_23 rfl dX6_placeOf_22 ?_
        refine pb_blk B.hx B.hb (lv' := [(7, .int (nI (160 * k))), (6, .int (nI i)), (0, .ref mo), (1, .int (nI k)), (2, .long a), (4, .long b)]) (st' := [.int ((nI (160 * k)) + (nI i)), .ref (mo + 5)]) hl bkX6_placeOf_25_30 rfl (fun ls hl => ?_)
        rw [nI_add]
        refine m_lald B hw 5 (by decide) (by decide) rfl (vp_in_nI (show 160 * k + i < 13120 by omega) (by decide)) (v := .long p0) (by rw [nI_clamp (by omega)]; exact e1) dX6_placeOf_30 ?_
        refine pb_blk B.hx B.hb (lv' := [(7, .int (nI (160 * k))), (6, .int (nI i)), (0, .ref mo), (1, .int (nI k)), (2, .long a), (4, .long b)]) (st' := [.ref mo, .long a, .long (p0 * b)]) hl bkX6_placeOf_31_36 rfl (fun ls hl => ?_)
        refine m_get B hw 7 (by decide) wd_F_X6_26 rfl dX6_placeOf_36 ?_
        refine pb_blk B.hx B.hb (lv' := [(7, .int (nI (160 * k))), (6, .int (nI i)), (0, .ref mo), (1, .int (nI k)), (2, .long a), (4, .long b)]) (st' := [.int ((nI (160 * k)) + (nI i)), .ref (mo + 6), .long a, .long (p0 * b)]) hl bkX6_placeOf_39_44 rfl (fun ls hl => ?_)
        rw [nI_add]
        refine m_lald B hw 6 (by decide) (by decide) rfl (vp_in_nI (show 160 * k + i < 13120 by omega) (by decide)) (v := .long d0) (by rw [nI_clamp (by omega)]; exact e2) dX6_placeOf_44 ?_
        refine pb_blk B.hx B.hb (lv' := [(7, .int (nI (160 * k))), (6, .int (nI i)), (0, .ref mo), (1, .int (nI k)), (2, .long a), (4, .long b)]) (st' := [.int (lg_cmp (p0 * b) (a * d0))]) hl bkX6_placeOf_45_47 rfl (fun ls hl => ?_)
        refine lv_if_ge (tgt := 56) B.hx B.hb dX6_placeOf_47 (by decide) (fun h2 => ?_) (fun h2 => ?_)
        · have g1 : ¬ z.2.1 i < r := fun q => absurd ((lg_cmp_ge _ _).mp h2) (by have h9 := hq.1.mpr q; rw [Int64.lt_iff_toInt_lt] at h9; rw [Int64.le_iff_toInt_le]; omega)
          have g2 : r ≤ z.2.1 i := Rat.not_lt.mp g1
          refine pb_blk B.hx B.hb (lv' := [(7, .int (nI (160 * k))), (6, .int (nI i)), (0, .ref mo), (1, .int (nI k)), (2, .long a), (4, .long b)]) (st' := [.ref mo, .int (nI i)]) hl bkX6_placeOf_56_59 rfl (fun ls hl => ?_)
          refine m_get B hw 5 (by decide) wd_F_X6_20 rfl dX6_placeOf_59 ?_
          refine pb_blk B.hx B.hb (lv' := [(7, .int (nI (160 * k))), (6, .int (nI i)), (0, .ref mo), (1, .int (nI k)), (2, .long a), (4, .long b)]) (st' := [.int (nI k), .ref (mo + 4), .int (nI i)]) hl bkX6_placeOf_62_63 rfl (fun ls hl => ?_)
          refine m_iald B hw 4 (by decide) (by decide) rfl (vp_in_nI (show k < 82 by omega) (by decide)) (v := .int (nI z.1)) (by rw [nI_clamp (by omega)]; exact hz.2.1) dX6_placeOf_63 ?_
          refine lv_icmp_ge (tgt := 107) B.hx B.hb dX6_placeOf_64 (by decide) (fun h3 => ?_) (fun h3 => ?_)
          · exact absurd h3 h1
          · refine pb_blk B.hx B.hb (lv' := [(7, .int (nI (160 * k))), (6, .int (nI i)), (0, .ref mo), (1, .int (nI k)), (2, .long a), (4, .long b)]) (st' := [.ref mo]) hl bkX6_placeOf_67_68 rfl (fun ls hl => ?_)
            refine m_get B hw 6 (by decide) wd_F_X6_23 rfl dX6_placeOf_68 ?_
            refine pb_blk B.hx B.hb (lv' := [(7, .int (nI (160 * k))), (6, .int (nI i)), (0, .ref mo), (1, .int (nI k)), (2, .long a), (4, .long b)]) (st' := [.int ((nI (160 * k)) + (nI i)), .ref (mo + 5)]) hl bkX6_placeOf_71_76 rfl (fun ls hl => ?_)
            rw [nI_add]
            refine m_lald B hw 5 (by decide) (by decide) rfl (vp_in_nI (show 160 * k + i < 13120 by omega) (by decide)) (v := .long p0) (by rw [nI_clamp (by omega)]; exact e1) dX6_placeOf_76 ?_
            refine pb_blk B.hx B.hb (lv' := [(7, .int (nI (160 * k))), (6, .int (nI i)), (0, .ref mo), (1, .int (nI k)), (2, .long a), (4, .long b)]) (st' := [.int (lg_cmp p0 a)]) hl bkX6_placeOf_77_79 rfl (fun ls hl => ?_)
            refine lv_if_ne (tgt := 107) B.hx B.hb dX6_placeOf_79 (by decide) (fun h4 => ?_) (fun h4 => ?_)
            · have gn : r ≠ z.2.1 i := fun q => h4 ((lg_cmp_eq _ _).mpr ((fx_eq e3 hf).mpr q.symm).1)
              have gl : r < z.2.1 i := Rat.lt_of_le_of_ne g2 gn
              refine pb_blk B.hx B.hb (lv' := [(7, .int (nI (160 * k))), (6, .int (nI i)), (0, .ref mo), (1, .int (nI k)), (2, .long a), (4, .long b)]) (st' := [.int (2 * (nI i))]) hl bkX6_placeOf_107_111 rfl (fun ls hl => ?_)
              rw [ix0]
              exact n_iret B dX6_placeOf_111 ⟨2 * i, rfl, i, hi, hlt, Or.inr ⟨fun _ => gl, rfl⟩⟩ (Nat.le_refl _) (Nat.le_refl _)
            · have q1 := (lg_cmp_eq _ _).mp h4
              refine pb_blk B.hx B.hb (lv' := [(7, .int (nI (160 * k))), (6, .int (nI i)), (0, .ref mo), (1, .int (nI k)), (2, .long a), (4, .long b)]) (st' := [.ref mo]) hl bkX6_placeOf_82_83 rfl (fun ls hl => ?_)
              refine m_get B hw 7 (by decide) wd_F_X6_26 rfl dX6_placeOf_83 ?_
              refine pb_blk B.hx B.hb (lv' := [(7, .int (nI (160 * k))), (6, .int (nI i)), (0, .ref mo), (1, .int (nI k)), (2, .long a), (4, .long b)]) (st' := [.int ((nI (160 * k)) + (nI i)), .ref (mo + 6)]) hl bkX6_placeOf_86_91 rfl (fun ls hl => ?_)
              rw [nI_add]
              refine m_lald B hw 6 (by decide) (by decide) rfl (vp_in_nI (show 160 * k + i < 13120 by omega) (by decide)) (v := .long d0) (by rw [nI_clamp (by omega)]; exact e2) dX6_placeOf_91 ?_
              refine pb_blk B.hx B.hb (lv' := [(7, .int (nI (160 * k))), (6, .int (nI i)), (0, .ref mo), (1, .int (nI k)), (2, .long a), (4, .long b)]) (st' := [.int (lg_cmp d0 b)]) hl bkX6_placeOf_92_95 rfl (fun ls hl => ?_)
              refine lv_if_ne (tgt := 107) B.hx B.hb dX6_placeOf_95 (by decide) (fun h5 => ?_) (fun h5 => ?_)
              · have gn : r ≠ z.2.1 i := fun q => h5 ((lg_cmp_eq _ _).mpr ((fx_eq e3 hf).mpr q.symm).2)
                have gl : r < z.2.1 i := Rat.lt_of_le_of_ne g2 gn
                refine pb_blk B.hx B.hb (lv' := [(7, .int (nI (160 * k))), (6, .int (nI i)), (0, .ref mo), (1, .int (nI k)), (2, .long a), (4, .long b)]) (st' := [.int (2 * (nI i))]) hl bkX6_placeOf_107_111 rfl (fun ls hl => ?_)
                rw [ix0]
                exact n_iret B dX6_placeOf_111 ⟨2 * i, rfl, i, hi, hlt, Or.inr ⟨fun _ => gl, rfl⟩⟩ (Nat.le_refl _) (Nat.le_refl _)
              · have q2 := (lg_cmp_eq _ _).mp h5
                have ge := (fx_eq e3 hf).mp ⟨q1, q2⟩
                refine pb_blk B.hx B.hb (lv' := [(7, .int (nI (160 * k))), (6, .int (nI i)), (0, .ref mo), (1, .int (nI k)), (2, .long a), (4, .long b)]) (st' := [.int ((2 * (nI i)) + 1)]) hl bkX6_placeOf_98_111 rfl (fun ls hl => ?_)
                rw [ix1]
                exact n_iret B dX6_placeOf_111 ⟨2 * i + 1, rfl, i, hi, hlt, Or.inl ⟨hi4, ge.symm, rfl⟩⟩ (Nat.le_refl _) (Nat.le_refl _)
        · have g1 : z.2.1 i < r := hq.1.mp (Int64.lt_iff_toInt_lt.mpr (Int.not_le.mp fun q => h2 ((lg_cmp_ge _ _).mpr (Int64.le_iff_toInt_le.mpr q))))
          refine pb_blk B.hx B.hb (lv' := [(6, .int ((nI i) + 1)), (7, .int (nI (160 * k))), (0, .ref mo), (1, .int (nI k)), (2, .long a), (4, .long b)]) (st' := []) hl bkX6_placeOf_50_10 rfl (fun ls hl => ?_)
          exact ih (i + 1) ls (by omega) hi4 (fun j hj => (Nat.lt_succ_iff_lt_or_eq.mp hj).elim (hlt j) (fun e9 => by rw [e9]; exact g1)) (by rw [← nI_1]; exact lv_sub hl [1, 0, 2, 3, 4, 5] rfl)
  refine pb_blk B.hx B.hb (lv' := [(6, .int 0), (0, .ref mo), (1, .int (nI k)), (2, .long a), (4, .long b)]) (st' := [.int (160 * (nI k))]) hl bkX6_placeOf_0_8 rfl (fun ls hl => ?_)
  rw [show (160 : Int32) * nI k = nI (160 * k) from pk_mul 160 k]
  refine pb_blk B.hx B.hb (lv' := [(7, .int (nI (160 * k))), (6, .int 0), (0, .ref mo), (1, .int (nI k)), (2, .long a), (4, .long b)]) (st' := []) hl bkX6_placeOf_8_10 rfl (fun ls hl => ?_)
  exact loop (z.1 + 1) 0 ls (by omega) (by omega) (fun j hj => absurd hj (Nat.not_lt_zero _)) (lv_sub hl [0, 1, 2, 3, 4, 5] rfl)

