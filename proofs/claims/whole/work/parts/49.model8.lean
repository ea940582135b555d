/-- a formula's degree and one more, as a number -/
theorem dg_ex (u : Nat → Rat) : ∃ d, d ≤ 4 ∧ dgI u = jm d ∧ (∀ o, d ≤ o → ext u o = 0) ∧ (0 < d → ext u (d - 1) ≠ 0) := by
  by_cases h3 : u 3 = 0
  · by_cases h2 : u 2 = 0
    · by_cases h1 : u 1 = 0
      · by_cases h0 : u 0 = 0
        · refine ⟨0, by decide, dgI_no (fun j hj => ?_), fun o _ => ?_, fun h => absurd h (by decide)⟩
          · rcases (show j = 0 ∨ j = 1 ∨ j = 2 ∨ j = 3 by omega) with rfl | rfl | rfl | rfl <;> assumption
          · rcases Nat.lt_or_ge o 4 with q | q
            · rw [ext_lo q]; rcases (show o = 0 ∨ o = 1 ∨ o = 2 ∨ o = 3 by omega) with rfl | rfl | rfl | rfl <;> assumption
            · exact ext_hi q
        · refine ⟨1, by decide, dgI_at (k := 0) (by decide) h0 (fun j g1 g2 => ?_), fun o ho => ?_, fun _ => h0⟩
          · rcases (show j = 1 ∨ j = 2 ∨ j = 3 by omega) with rfl | rfl | rfl <;> assumption
          · rcases Nat.lt_or_ge o 4 with q | q
            · rw [ext_lo q]; rcases (show o = 1 ∨ o = 2 ∨ o = 3 by omega) with rfl | rfl | rfl <;> assumption
            · exact ext_hi q
      · refine ⟨2, by decide, dgI_at (k := 1) (by decide) h1 (fun j g1 g2 => ?_), fun o ho => ?_, fun _ => h1⟩
        · rcases (show j = 2 ∨ j = 3 by omega) with rfl | rfl <;> assumption
        · rcases Nat.lt_or_ge o 4 with q | q
          · rw [ext_lo q]; rcases (show o = 2 ∨ o = 3 by omega) with rfl | rfl <;> assumption
          · exact ext_hi q
    · refine ⟨3, by decide, dgI_at (k := 2) (by decide) h2 (fun j g1 g2 => ?_), fun o ho => ?_, fun _ => h2⟩
      · rw [show j = 3 by omega]; exact h3
      · rcases Nat.lt_or_ge o 4 with q | q
        · rw [ext_lo q, show o = 3 by omega]; exact h3
        · exact ext_hi q
  · exact ⟨4, by decide, dgI_at (k := 3) (by decide) h3 (fun j g1 g2 => by omega), fun o ho => ext_hi ho, fun _ => h3⟩
theorem psum_cg {u v u2 v2 : Nat → Rat} {m : Nat} : ∀ n, n ≤ m + 1 → (∀ o, o < n → u o * v (m - o) = u2 o * v2 (m - o)) → psum u v m n = psum u2 v2 m n := by
  intro n
  induction n with
  | zero => intro _ _; rfl
  | succ n ih =>
    intro hn h
    show psum u v m n + u n * v (m - n) = psum u2 v2 m n + u2 n * v2 (m - n)
    rw [ih (by omega) (fun o ho => h o (by omega)), h n (by omega)]
theorem psum_z {u v : Nat → Rat} {m : Nat} : ∀ n, (∀ o, o < n → u o * v (m - o) = 0) → psum u v m n = 0 := by
  intro n
  induction n with
  | zero => intro _; rfl
  | succ n ih =>
    intro h
    show psum u v m n + u n * v (m - n) = 0
    rw [ih (fun o ho => h o (by omega)), h n (by omega), Rat.add_zero]
theorem psum_1 {u v : Nat → Rat} {m k : Nat} : ∀ n, k < n → (∀ o, o < n → o ≠ k → u o * v (m - o) = 0) → psum u v m n = u k * v (m - k) := by
  intro n
  induction n with
  | zero => intro h; omega
  | succ n ih =>
    intro hk h
    show psum u v m n + u n * v (m - n) = _
    by_cases e : k = n
    · subst e
      rw [psum_z k (fun o ho => h o (by omega) (by omega)), Rat.zero_add]
    · rw [ih (by omega) (fun o ho h9 => h o (by omega) h9), h n (by omega) (fun q => e q.symm), Rat.add_zero]
theorem jm_sum : ∀ a b : Fin 5, (jm a.val + jm b.val ≤ 3 ↔ a.val + b.val ≤ 5) := by decide
theorem mul_row (u v : Nat → Rat) : (∀ k, k < 4 → psum (ext u) (ext v) k (k + 1) = mulF u v k) ∧ (dgI u + dgI v ≤ 3 → ∀ m, 4 ≤ m → m < 10 → psum (ext u) (ext v) m (m + 1) = 0) ∧ (¬ dgI u + dgI v ≤ 3 → ∃ m, 4 ≤ m ∧ m < 10 ∧ psum (ext u) (ext v) m (m + 1) ≠ 0) := by
  obtain ⟨a, ha, ea, za, na⟩ := dg_ex u
  obtain ⟨b, hb, eb, zb, nb⟩ := dg_ex v
  have hj := jm_sum ⟨a, by omega⟩ ⟨b, by omega⟩
  refine ⟨fun k hk => psum_cg (k + 1) (Nat.le_refl _) (fun o ho => by rw [ext_lo (by omega), ext_lo (by omega)]), fun h m h1 h2 => psum_z _ (fun o ho => ?_), fun h => ⟨a + b - 2, ?_, ?_, ?_⟩⟩
  · rw [ea, eb] at h
    have h9 := hj.mp h
    dsimp only at h9
    rcases Nat.lt_or_ge o a with q | q
    · rw [zb (m - o) (by omega), Rat.mul_zero]
    · rw [za o q, Rat.zero_mul]
  · rw [ea, eb] at h
    have h9 := mt hj.mpr h
    dsimp only at h9
    omega
  · omega
  · rw [ea, eb] at h
    have h9 := mt hj.mpr h
    dsimp only at h9
    rw [psum_1 (k := a - 1) _ (by omega) (fun o ho hne => by
      rcases Nat.lt_or_ge o a with q | q
      · rw [zb _ (by omega), Rat.mul_zero]
      · rw [za o q, Rat.zero_mul])]
    rw [show a + b - 2 - (a - 1) = b - 1 by omega]
    exact fun q => (Rat.mul_eq_zero.mp q).elim (na (by omega)) (nb (by omega))
def hq (u v : Nat → Rat) : Nat → (Nat → Rat)
  | 0 => fun _ => 0
  | t + 1 => fun m => psum (hq u v t) (ext v) m (m + 1) + (if m = 0 then u (3 - t) else 0)
def P10 (u v : Nat → Rat) : Prop := (∀ t, t < 4 → M10 (hq u v t) (ext v) ∧ Pb (psum (hq u v t) (ext v) 0 1) (u (3 - t))) ∧ (∀ m, m < 4 → hq u v 4 m = putF u v m) ∧ ∀ m, 4 ≤ m → m < 10 → hq u v 4 m = 0
def Bdm (N : Nat) (th : Nat → Th) : Prop := ∀ i j, i < N → j < N → ∀ u v, th i = .inl u → th j = .inl v → M10 (ext u) (ext v) ∧ (dgI u * dgI v ≤ 3 → P10 u v)
theorem OtS.p {N : Nat} {th : Nat → Th} {as : St3} {S S1 : Sc} {ct ct1 : Ct} (h : OtS S S1) (hP : Pst N th as S ct) (hg : ∀ a, 1 ≤ a → a ≤ 7 → ct1 a = ct a) : Pst N th as S1 ct1 := hP.ag (h 1 (by decide) (by decide)) (Ag.hi hg)

def po_X6_times (mo : Nat) (S : Sc) (ct : Ct) (N : Nat) (th : Nat → Th) (as : St3) (f0 g0 : Int32) : Option Value → Sc → Ct → Prop := fun v S2 ct2 => MkK N th as (R_times N th f0 g0) v S2 ct2
theorem bkX6_times_0_3 : pb_chk cX6_times 0 [.aload_n 0, .iload_n 1, .iload_n 2] = some 3 := by decide +kernel
theorem dX6_times_3 : decode cX6_times 3 = .ok (.invokevirtual 118, 3) := by decide +kernel
theorem dX6_times_6 : decode cX6_times 6 = .ok (.ifCond .ne 5, 3) := by decide +kernel
theorem bkX6_times_9_10 : pb_chk cX6_times 9 [.iconst 0] = some 10 := by decide +kernel
theorem dX6_times_10 : decode cX6_times 10 = .ok (.ireturn, 1) := by decide +kernel
theorem bkX6_times_11_12 : pb_chk cX6_times 11 [.aload_n 0] = some 12 := by decide +kernel
theorem dX6_times_12 : decode cX6_times 12 = .ok (.invokevirtual 135, 3) := by decide +kernel
theorem bkX6_times_15_17 : pb_chk cX6_times 15 [.aload_n 0, .iconst 3] = some 17 := by decide +kernel
theorem dX6_times_17 : decode cX6_times 17 = .ok (.invokevirtual 104, 3) := by decide +kernel
theorem dX6_times_20 : decode cX6_times 20 = .ok (.ireturn, 1) := by decide +kernel
set_option maxHeartbeats 4000000 in
set_option maxRecDepth 100000 in
theorem c_X6_times (l : Launch) (G : Gm) (mo : Nat) (S : Sc) (ct : Ct) (N : Nat) (th : Nat → Th) (as : St3) (f0 g0 : Int32) (hP : Pst N th as S ct) (hB : Bds N th as) (hm : Bdm N th) : Mm l yX6_times cX6_times 3 (some .int) (⟨4, 0, 0, 110⟩ : Room) G mo S ct [.ref mo, .int f0, .int g0] (po_X6_times mo S ct N th as f0 g0) := by
  refine of_met (by decide) (Nat.le_of_ble_eq_true rfl) ?_
  intro p e s m below meth c ls B hA hM0 hl
  have hw := Mw.start hM0
  refine pb_blk B.hx B.hb (lv' := [(0, .ref mo), (1, .int f0), (2, .int g0)]) (st' := [.int g0, .int f0, .ref mo]) hl bkX6_times_0_3 rfl (fun ls hl => ?_)
  refine m_callV B hw (c_X6_are l G mo S ct N th as f0 g0 hP) cy_X6_are im_X6_are se_X6_are wd_M_X6_118 rfl hl.1 rfl (Nat.le_of_ble_eq_true rfl) ⟨by decide, by decide⟩ ⟨rfl, rfl⟩ ⟨Nat.le_refl _, Nat.le_refl _⟩ dX6_times_3 (fun v H locs Sa cta hw_24 hv => ?_)
  have har := hv
  have hw := hw_24
  rcases har with ⟨rfl, hc, hbad⟩ | ⟨rfl, rfl, i, j, u, u2, hi, hj, ei, ej, hu, hu2, r1, r2, o1⟩
  · refine lv_if_ne (tgt := 11) B.hx B.hb dX6_times_6 (by decide) (fun h => absurd h (by decide)) (fun _ => ?_)
    refine pb_blk B.hx B.hb (lv' := [(0, .ref mo), (1, .int f0), (2, .int g0)]) (st' := [.int 0]) hl bkX6_times_9_10 rfl (fun ls hl => ?_)
    exact m_iret (v := 0) B hw dX6_times_10 (by exact arf_bad hP hbad hc) (Nat.le_of_ble_eq_true rfl) (Nat.le_of_ble_eq_true rfl)
  · refine lv_if_ne (tgt := 11) B.hx B.hb dX6_times_6 (by decide) (fun _ => ?_) (fun h => absurd h (by decide))
    have hN := hP.1
    have hPa : Pst N th as (va_up S 0 (.int 0)) cta := hP.ag rfl (Ag.hi (fun a g1 g2 => o1 a (by omega)))
    refine pb_blk B.hx B.hb (lv' := [(0, .ref mo), (1, .int f0), (2, .int g0)]) (st' := [.ref mo]) hl bkX6_times_11_12 rfl (fun ls hl => ?_)
    refine m_callV B hw (c_X6_multiply l G mo _ cta (ext u) (ext u2) r1 r2 (hm i j hi hj u u2 hu hu2).1) cy_X6_multiply im_X6_multiply se_X6_multiply wd_M_X6_135 rfl hl.1 rfl (Nat.le_of_ble_eq_true rfl) ⟨by decide, by decide⟩ ⟨rfl, rfl⟩ ⟨Nat.le_refl _, Nat.le_refl _⟩ dX6_times_12 (fun v H locs Sb ctb hw_25 hv => ?_)
    obtain ⟨rfl, hS, rr, oo⟩ := hv
    have hw := hw_25
    have hPb := hS.p hPa (fun a g1 g2 => oo a (by omega) (by omega) (by omega) (by omega))
    obtain ⟨mr1, mr2, mr3⟩ := mul_row u u2
    refine pb_blk B.hx B.hb (lv' := [(0, .ref mo), (1, .int f0), (2, .int g0)]) (st' := [.int 3, .ref mo]) hl bkX6_times_15_17 rfl (fun ls hl => ?_)
    rw [show (3 : Int32) = nI 3 from rfl]
    refine m_callV B hw (c_X6_keep l G mo Sb ctb N th as 3 _ hPb rr) cy_X6_keep im_X6_keep se_X6_keep wd_M_X6_104 rfl hl.1 rfl (Nat.le_of_ble_eq_true rfl) ⟨by decide, by decide⟩ ⟨rfl, rfl⟩ ⟨Nat.le_refl _, Nat.le_refl _⟩ dX6_times_17 (fun v H locs Sd ctd hw_26 hv => ?_)
    have hk0 := hv
    have hw := hw_26
    have hk : MkK N th as (R_times N th f0 g0) v Sd ctd := by
      by_cases hd : dgI u + dgI u2 ≤ 3
      · exact (kp_of (w := mulF u u2) hPb (by decide) hk0 mr1 (mr2 hd)).mono (fun c t h => Or.inr ⟨i, j, hi, hj, ei, ej, Or.inr ⟨u, u2, hu, hu2, Or.inr ⟨hd, h⟩⟩⟩)
      · obtain ⟨m0, g1, g2, g3⟩ := mr3 hd
        obtain ⟨b1, b2, b3, b4⟩ := kp_big hPb (by decide) hk0 g1 g2 g3
        exact ⟨3, .inl (fun _ => 0), Or.inr ⟨i, j, hi, hj, ei, ej, Or.inr ⟨u, u2, hu, hu2, Or.inl ⟨rfl, hd⟩⟩⟩, b1, Or.inr ⟨b2, b3, b4⟩⟩
    obtain ⟨c9, t9, g1, g2, g3⟩ := hk
    have hval : ∃ r, v = some (.int r) := by rcases g3 with ⟨-, e9, -⟩ | ⟨-, ⟨r9, e9⟩, -⟩; exact ⟨_, e9⟩; exact ⟨_, e9⟩
    obtain ⟨r9, rfl⟩ := hval
    exact m_iret (v := r9) B hw dX6_times_20 (by exact ⟨c9, t9, g1, g2, g3⟩) (Nat.le_of_ble_eq_true rfl) (Nat.le_of_ble_eq_true rfl)

theorem frx_inv {c d : Int64} {r : Rat} (h : Frx c d r) (hs : Sm r) (h0 : r ≠ 0) : (c < 0 → Frx (-d) (-c) (Rat.divInt r.den r.num)) ∧ (¬ c < 0 → Frx d c (Rat.divInt r.den r.num)) := by
  have hb := sm_nat h hs
  have hn : r.num ≠ 0 := fun e => h0 (Rat.num_eq_zero.mp e)
  have e : Rat.divInt (r.den : Int) r.num = r⁻¹ := (Rat.inv_def r).symm
  rw [e]
  refine ⟨fun q => ?_, fun q => ?_⟩
  · rw [Int64.lt_iff_toInt_lt, Int64.toInt_zero] at q
    refine ⟨?_, ?_⟩
    · rw [Kit.i64_neg (by omega), h.2, Rat.num_inv, Int.sign_eq_neg_one_of_neg (by rw [← h.1]; exact q)]; omega
    · rw [Kit.i64_neg (by omega), Rat.den_inv, if_neg hn, h.1]; have := h.1; omega
  · rw [Int64.lt_iff_toInt_lt, Int64.toInt_zero] at q
    have hp : 0 < r.num := by have := h.1; omega
    refine ⟨?_, ?_⟩
    · rw [h.2, Rat.num_inv, Int.sign_eq_one_of_pos hp]; omega
    · rw [Rat.den_inv, if_neg hn, h.1]; omega
theorem kdF_0 {u : Nat → Rat} : kdF u = 0 ↔ dgI u ≤ 0 := by
  unfold kdF
  rcases dgI_5 u with e | e | e | e | e <;> rw [e] <;> decide
theorem Sm.lt62 {r : Rat} (h : Sm r) : r.num.natAbs < 2 ^ 62 := by have := h.1; omega

def po_X6_over (mo : Nat) (S : Sc) (ct : Ct) (N : Nat) (th : Nat → Th) (as : St3) (f0 g0 : Int32) : Option Value → Sc → Ct → Prop := fun v S2 ct2 => MkK N th as (R_over N th f0 g0) v S2 ct2
theorem bkX6_over_0_3 : pb_chk cX6_over 0 [.aload_n 0, .iload_n 1, .iload_n 2] = some 3 := by decide +kernel
theorem dX6_over_3 : decode cX6_over 3 = .ok (.invokevirtual 118, 3) := by decide +kernel
theorem dX6_over_6 : decode cX6_over 6 = .ok (.ifCond .ne 5, 3) := by decide +kernel
theorem bkX6_over_9_10 : pb_chk cX6_over 9 [.iconst 0] = some 10 := by decide +kernel
theorem dX6_over_10 : decode cX6_over 10 = .ok (.ireturn, 1) := by decide +kernel
theorem bkX6_over_11_12 : pb_chk cX6_over 11 [.aload_n 0] = some 12 := by decide +kernel
theorem dX6_over_12 : decode cX6_over 12 = .ok (.getfield 7, 3) := by decide +kernel
theorem bkX6_over_15_16 : pb_chk cX6_over 15 [.iload_n 2] = some 16 := by decide +kernel
theorem dX6_over_16 : decode cX6_over 16 = .ok (.iaload, 1) := by decide +kernel
theorem dX6_over_17 : decode cX6_over 17 = .ok (.ifCond .eq 9, 3) := by decide +kernel
theorem bkX6_over_26_27 : pb_chk cX6_over 26 [.aload_n 0] = some 27 := by decide +kernel
theorem dX6_over_27 : decode cX6_over 27 = .ok (.getfield 39, 3) := by decide +kernel
theorem bkX6_over_30_31 : pb_chk cX6_over 30 [.iconst 0] = some 31 := by decide +kernel
theorem dX6_over_31 : decode cX6_over 31 = .ok (.laload, 1) := by decide +kernel
theorem bkX6_over_32_34 : pb_chk cX6_over 32 [.lconst 0, .lcmp] = some 34 := by decide +kernel
theorem dX6_over_34 : decode cX6_over 34 = .ok (.ifCond .ne 9, 3) := by decide +kernel
theorem bkX6_over_43_45 : pb_chk cX6_over 43 [.iconst 0, .istore_n 3] = some 45 := by decide +kernel
theorem bkX6_over_37_39 : pb_chk cX6_over 37 [.aload_n 0, .iconst 3] = some 39 := by decide +kernel
theorem dX6_over_39 : decode cX6_over 39 = .ok (.invokevirtual 97, 3) := by decide +kernel
theorem dX6_over_42 : decode cX6_over 42 = .ok (.ireturn, 1) := by decide +kernel
theorem bkX6_over_20_22 : pb_chk cX6_over 20 [.aload_n 0, .iconst 2] = some 22 := by decide +kernel
theorem dX6_over_22 : decode cX6_over 22 = .ok (.invokevirtual 97, 3) := by decide +kernel
theorem dX6_over_25 : decode cX6_over 25 = .ok (.ireturn, 1) := by decide +kernel
theorem bkX6_over_45_47 : pb_chk cX6_over 45 [.iload_n 3, .iconst 4] = some 47 := by decide +kernel
theorem dX6_over_47 : decode cX6_over 47 = .ok (.if_icmp .ge 99, 3) := by decide +kernel
theorem bkX6_over_146_148 : pb_chk cX6_over 146 [.aload_n 0, .iconst 4] = some 148 := by decide +kernel
theorem dX6_over_148 : decode cX6_over 148 = .ok (.invokevirtual 104, 3) := by decide +kernel
theorem dX6_over_151 : decode cX6_over 151 = .ok (.ireturn, 1) := by decide +kernel
theorem bkX6_over_50_52 : pb_chk cX6_over 50 [.aload_n 0, .aload_n 0] = some 52 := by decide +kernel
theorem dX6_over_52 : decode cX6_over 52 = .ok (.getfield 33, 3) := by decide +kernel
theorem bkX6_over_55_56 : pb_chk cX6_over 55 [.iload_n 3] = some 56 := by decide +kernel
theorem dX6_over_56 : decode cX6_over 56 = .ok (.laload, 1) := by decide +kernel
theorem bkX6_over_57_58 : pb_chk cX6_over 57 [.aload_n 0] = some 58 := by decide +kernel
theorem dX6_over_58 : decode cX6_over 58 = .ok (.getfield 36, 3) := by decide +kernel
theorem bkX6_over_61_62 : pb_chk cX6_over 61 [.iload_n 3] = some 62 := by decide +kernel
theorem dX6_over_62 : decode cX6_over 62 = .ok (.laload, 1) := by decide +kernel
theorem bkX6_over_63_64 : pb_chk cX6_over 63 [.aload_n 0] = some 64 := by decide +kernel
theorem dX6_over_64 : decode cX6_over 64 = .ok (.getfield 39, 3) := by decide +kernel
theorem bkX6_over_67_68 : pb_chk cX6_over 67 [.iconst 0] = some 68 := by decide +kernel
theorem dX6_over_68 : decode cX6_over 68 = .ok (.laload, 1) := by decide +kernel
theorem bkX6_over_69_71 : pb_chk cX6_over 69 [.lconst 0, .lcmp] = some 71 := by decide +kernel
theorem dX6_over_71 : decode cX6_over 71 = .ok (.ifCond .ge 13, 3) := by decide +kernel
theorem bkX6_over_84_85 : pb_chk cX6_over 84 [.aload_n 0] = some 85 := by decide +kernel
theorem dX6_over_85 : decode cX6_over 85 = .ok (.getfield 42, 3) := by decide +kernel
theorem bkX6_over_88_89 : pb_chk cX6_over 88 [.iconst 0] = some 89 := by decide +kernel
theorem dX6_over_89 : decode cX6_over 89 = .ok (.laload, 1) := by decide +kernel
theorem bkX6_over_90_91 : pb_chk cX6_over 90 [.aload_n 0] = some 91 := by decide +kernel
theorem dX6_over_91 : decode cX6_over 91 = .ok (.getfield 39, 3) := by decide +kernel
theorem bkX6_over_94_95 : pb_chk cX6_over 94 [.iconst 0] = some 95 := by decide +kernel
theorem dX6_over_95 : decode cX6_over 95 = .ok (.laload, 1) := by decide +kernel
theorem bkX6_over_96_98 : pb_chk cX6_over 96 [.lconst 0, .lcmp] = some 98 := by decide +kernel
theorem dX6_over_98 : decode cX6_over 98 = .ok (.ifCond .ge 13, 3) := by decide +kernel
theorem bkX6_over_111_112 : pb_chk cX6_over 111 [.aload_n 0] = some 112 := by decide +kernel
theorem dX6_over_112 : decode cX6_over 112 = .ok (.getfield 39, 3) := by decide +kernel
theorem bkX6_over_115_116 : pb_chk cX6_over 115 [.iconst 0] = some 116 := by decide +kernel
theorem dX6_over_116 : decode cX6_over 116 = .ok (.laload, 1) := by decide +kernel
theorem dX6_over_117 : decode cX6_over 117 = .ok (.invokevirtual 132, 3) := by decide +kernel
theorem bkX6_over_120_121 : pb_chk cX6_over 120 [.aload_n 0] = some 121 := by decide +kernel
theorem dX6_over_121 : decode cX6_over 121 = .ok (.getfield 33, 3) := by decide +kernel
theorem bkX6_over_124_126 : pb_chk cX6_over 124 [.iload_n 3, .aload_n 0] = some 126 := by decide +kernel
theorem dX6_over_126 : decode cX6_over 126 = .ok (.getfield 71, 3) := by decide +kernel
theorem dX6_over_129 : decode cX6_over 129 = .ok (.lastore, 1) := by decide +kernel
theorem bkX6_over_130_131 : pb_chk cX6_over 130 [.aload_n 0] = some 131 := by decide +kernel
theorem dX6_over_131 : decode cX6_over 131 = .ok (.getfield 36, 3) := by decide +kernel
theorem bkX6_over_134_136 : pb_chk cX6_over 134 [.iload_n 3, .aload_n 0] = some 136 := by decide +kernel
theorem dX6_over_136 : decode cX6_over 136 = .ok (.getfield 75, 3) := by decide +kernel
theorem dX6_over_139 : decode cX6_over 139 = .ok (.lastore, 1) := by decide +kernel
theorem bkX6_over_140_45 : pb_chk cX6_over 140 [.iinc 3 1, .goto (-98)] = some 45 := by decide +kernel
theorem bkX6_over_74_75 : pb_chk cX6_over 74 [.aload_n 0] = some 75 := by decide +kernel
theorem dX6_over_75 : decode cX6_over 75 = .ok (.getfield 42, 3) := by decide +kernel
theorem bkX6_over_78_79 : pb_chk cX6_over 78 [.iconst 0] = some 79 := by decide +kernel
theorem dX6_over_79 : decode cX6_over 79 = .ok (.laload, 1) := by decide +kernel
theorem bkX6_over_80_91 : pb_chk cX6_over 80 [.lneg, .goto 9, .aload_n 0] = some 91 := by decide +kernel
theorem bkX6_over_101_102 : pb_chk cX6_over 101 [.aload_n 0] = some 102 := by decide +kernel
theorem dX6_over_102 : decode cX6_over 102 = .ok (.getfield 39, 3) := by decide +kernel
theorem bkX6_over_105_106 : pb_chk cX6_over 105 [.iconst 0] = some 106 := by decide +kernel
theorem dX6_over_106 : decode cX6_over 106 = .ok (.laload, 1) := by decide +kernel
theorem bkX6_over_107_117 : pb_chk cX6_over 107 [.lneg, .goto 9] = some 117 := by decide +kernel
set_option maxHeartbeats 4000000 in
set_option maxRecDepth 100000 in
theorem c_X6_over (l : Launch) (G : Gm) (mo : Nat) (S : Sc) (ct : Ct) (N : Nat) (th : Nat → Th) (as : St3) (f0 g0 : Int32) (hP : Pst N th as S ct) (hB : Bds N th as) : Mm l yX6_over cX6_over 4 (some .int) (⟨3, 0, 0, 88⟩ : Room) G mo S ct [.ref mo, .int f0, .int g0] (po_X6_over mo S ct N th as f0 g0) := by
  refine of_met (by decide) (Nat.le_of_ble_eq_true rfl) ?_
  intro p e s m below meth c ls B hA hM0 hl
  have hw := Mw.start hM0
  have loop : ∀ (i j : Nat) (u u2 : Nat → Rat) (pc dc : Int64), i < N → j < N → f0 = nI i → g0 = nI j → th i = .inl u → th j = .inl u2 → (∀ k, k < 4 → Sm (u k)) → (∀ k, k < 4 → Sm (u2 k)) → dgI u2 ≤ 0 → u2 0 ≠ 0 → Frx pc dc (u2 0) → ∀ (n k : Nat) (H : Heap) (locs : List Loc) (S1 : Sc) (ct1 : Ct) (ls : Array Slot), 5 ≤ k + n → k ≤ 4 → Mw G mo s.heap H locs S1 ct1 → Pst N th as S1 ct1 → RwL ct1 8 9 10 (mixR (ext u) (fun k => ext u k * (Rat.divInt (u2 0).den (u2 0).num)) k) → ct1 10 0 = .long pc → ct1 11 0 = .long dc → lv_has ls 4 [(3, .int (nI k)), (0, .ref mo)] → W p l e (⟨3, 0, 0, 88⟩ : Room) s m ([.ref mo, .int f0, .int g0] : List Value).toArray below meth c H locs 0 0 (MQ below (Qm G mo (po_X6_over mo S ct N th as f0 g0)) ([.ref mo, .int f0, .int g0] : List Value).toArray s (⟨3, 0, 0, 88⟩ : Room).cells (⟨3, 0, 0, 88⟩ : Room).slots (FM mo)) (F0 m 45 ls []) := by
    intro i j u u2 pc dc hi hj ei ej hu hu2 hs1 hs2 hd hv0 c3 n
    induction n with
    | zero => intro k H locs S1 ct1 ls h1 h2; omega
    | succ n ih =>
      intro k H locs S1 ct1 ls hn hk hw hP1 ra e8 e9 hl
      refine pb_blk B.hx B.hb (lv' := [(3, .int (nI k)), (0, .ref mo)]) (st' := [.int 4, .int (nI k)]) hl bkX6_over_45_47 rfl (fun ls hl => ?_)
      refine lv_icmp_ge (tgt := 146) B.hx B.hb dX6_over_47 (by decide) (fun h1 => ?_) (fun h1 => ?_)
      · have e4 : k = 4 := by have := nI_nlt_le (show 4 < 2 ^ 31 by decide) (k2_nlt h1); omega
        rw [e4] at ra
        refine pb_blk B.hx B.hb (lv' := [(3, .int (nI k)), (0, .ref mo)]) (st' := [.int 4, .ref mo]) hl bkX6_over_146_148 rfl (fun ls hl => ?_)
        rw [show (4 : Int32) = nI 4 from rfl]
        refine m_callV B hw (c_X6_keep l G mo S1 ct1 N th as 4 (mixR (ext u) (fun k => ext u k * (Rat.divInt (u2 0).den (u2 0).num)) 4) hP1 ra) cy_X6_keep im_X6_keep se_X6_keep wd_M_X6_104 rfl hl.1 rfl (Nat.le_of_ble_eq_true rfl) ⟨by decide, by decide⟩ ⟨rfl, rfl⟩ ⟨Nat.le_refl _, Nat.le_refl _⟩ dX6_over_148 (fun v H locs Sd ctd hw_30 hv => ?_)
        have hk := kp_of (w := fun k => u k * (Rat.divInt (u2 0).den (u2 0).num)) hP1 (by decide) hv (fun k hk => by show (if k < 4 then ext u k * (Rat.divInt (u2 0).den (u2 0).num) else ext u k) = _; rw [if_pos hk, ext_lo hk]) (fun i g1 g2 => by show (if i < 4 then ext u i * (Rat.divInt (u2 0).den (u2 0).num) else ext u i) = _; rw [if_neg (by omega), ext_hi g1])
        have hw := hw_30
        obtain ⟨c9, t9, g1, g2, g3⟩ := hk
        have hval : ∃ r, v = some (.int r) := by rcases g3 with ⟨-, e9, -⟩ | ⟨-, ⟨r9, e9⟩, -⟩; exact ⟨_, e9⟩; exact ⟨_, e9⟩
        obtain ⟨r9, rfl⟩ := hval
        exact m_iret (v := r9) B hw dX6_over_151 (by exact ⟨c9, t9, Or.inr ⟨i, j, hi, hj, ei, ej, Or.inr ⟨u, u2, hu, hu2, Or.inr ⟨hd, Or.inr ⟨hv0, g1⟩⟩⟩⟩, g2, g3⟩) (Nat.le_of_ble_eq_true rfl) (Nat.le_of_ble_eq_true rfl)
      · have hk4 : k < 4 := (nI_ltI (by omega) (by decide)).mp (k2_lt h1)
        obtain ⟨p1, d1, a1, a2, a3⟩ := ra k (by omega)
        have a3 : Frx p1 d1 (u k) := by have h9 : (mixR (ext u) (fun k => ext u k * (Rat.divInt (u2 0).den (u2 0).num)) k) k = u k := (if_neg (by omega)).trans (ext_lo hk4); rw [h9] at a3; exact a3
        have hiv := frx_inv c3 (hs2 0 (by decide)) hv0
        have hsi := sm_inv (hs2 0 (by decide)) hv0
        have hmu := Sm.mul (hs1 k hk4) hsi
        refine pb_blk B.hx B.hb (lv' := [(3, .int (nI k)), (0, .ref mo)]) (st' := [.ref mo, .ref mo]) hl bkX6_over_50_52 rfl (fun ls hl => ?_)
        refine m_get B hw 9 (by decide) wd_F_X6_33 rfl dX6_over_52 ?_
        refine pb_blk B.hx B.hb (lv' := [(3, .int (nI k)), (0, .ref mo)]) (st' := [.int (nI k), .ref (mo + 8), .ref mo]) hl bkX6_over_55_56 rfl (fun ls hl => ?_)
        refine m_lald B hw 8 (by decide) (by decide) rfl (vp_in_nI (show k < 10 by omega) (by decide)) (v := .long p1) (by rw [nI_clamp (by omega)]; exact a1) dX6_over_56 ?_
        refine pb_blk B.hx B.hb (lv' := [(3, .int (nI k)), (0, .ref mo)]) (st' := [.ref mo, .long p1, .ref mo]) hl bkX6_over_57_58 rfl (fun ls hl => ?_)
        refine m_get B hw 10 (by decide) wd_F_X6_36 rfl dX6_over_58 ?_
        refine pb_blk B.hx B.hb (lv' := [(3, .int (nI k)), (0, .ref mo)]) (st' := [.int (nI k), .ref (mo + 9), .long p1, .ref mo]) hl bkX6_over_61_62 rfl (fun ls hl => ?_)
        refine m_lald B hw 9 (by decide) (by decide) rfl (vp_in_nI (show k < 10 by omega) (by decide)) (v := .long d1) (by rw [nI_clamp (by omega)]; exact a2) dX6_over_62 ?_
        refine pb_blk B.hx B.hb (lv' := [(3, .int (nI k)), (0, .ref mo)]) (st' := [.ref mo, .long d1, .long p1, .ref mo]) hl bkX6_over_63_64 rfl (fun ls hl => ?_)
        refine m_get B hw 11 (by decide) wd_F_X6_39 rfl dX6_over_64 ?_
        refine pb_blk B.hx B.hb (lv' := [(3, .int (nI k)), (0, .ref mo)]) (st' := [.int 0, .ref (mo + 10), .long d1, .long p1, .ref mo]) hl bkX6_over_67_68 rfl (fun ls hl => ?_)
        rw [show (0 : Int32) = nI 0 from rfl]
        refine m_lald B hw 10 (by decide) (by decide) rfl (vp_in_nI (show 0 < 10 by omega) (by decide)) (v := .long pc) (by rw [nI_clamp (by omega)]; exact e8) dX6_over_68 ?_
        refine pb_blk B.hx B.hb (lv' := [(3, .int (nI k)), (0, .ref mo)]) (st' := [.int (lg_cmp pc 0), .long d1, .long p1, .ref mo]) hl bkX6_over_69_71 rfl (fun ls hl => ?_)
        refine lv_if_ge (tgt := 84) B.hx B.hb dX6_over_71 (by decide) (fun h2 => ?_) (fun h2 => ?_)
        · have hn : ¬ pc < 0 := fun q => absurd ((lg_cmp_ge _ _).mp h2) (by rw [Int64.lt_iff_toInt_lt] at q; rw [Int64.le_iff_toInt_le]; omega)
          refine pb_blk B.hx B.hb (lv' := [(3, .int (nI k)), (0, .ref mo)]) (st' := [.ref mo, .long d1, .long p1, .ref mo]) hl bkX6_over_84_85 rfl (fun ls hl => ?_)
          refine m_get B hw 12 (by decide) wd_F_X6_42 rfl dX6_over_85 ?_
          refine pb_blk B.hx B.hb (lv' := [(3, .int (nI k)), (0, .ref mo)]) (st' := [.int 0, .ref (mo + 11), .long d1, .long p1, .ref mo]) hl bkX6_over_88_89 rfl (fun ls hl => ?_)
          rw [show (0 : Int32) = nI 0 from rfl]
          refine m_lald B hw 11 (by decide) (by decide) rfl (vp_in_nI (show 0 < 10 by omega) (by decide)) (v := .long dc) (by rw [nI_clamp (by omega)]; exact e9) dX6_over_89 ?_
          refine pb_blk B.hx B.hb (lv' := [(3, .int (nI k)), (0, .ref mo)]) (st' := [.ref mo, .long dc, .long d1, .long p1, .ref mo]) hl bkX6_over_90_91 rfl (fun ls hl => ?_)
          refine m_get B hw 11 (by decide) wd_F_X6_39 rfl dX6_over_91 ?_
          refine pb_blk B.hx B.hb (lv' := [(3, .int (nI k)), (0, .ref mo)]) (st' := [.int 0, .ref (mo + 10), .long dc, .long d1, .long p1, .ref mo]) hl bkX6_over_94_95 rfl (fun ls hl => ?_)
          rw [show (0 : Int32) = nI 0 from rfl]
          refine m_lald B hw 10 (by decide) (by decide) rfl (vp_in_nI (show 0 < 10 by omega) (by decide)) (v := .long pc) (by rw [nI_clamp (by omega)]; exact e8) dX6_over_95 ?_
          refine pb_blk B.hx B.hb (lv' := [(3, .int (nI k)), (0, .ref mo)]) (st' := [.int (lg_cmp pc 0), .long dc, .long d1, .long p1, .ref mo]) hl bkX6_over_96_98 rfl (fun ls hl => ?_)
          refine lv_if_ge (tgt := 111) B.hx B.hb dX6_over_98 (by decide) (fun h3 => ?_) (fun h3 => ?_)
          · refine pb_blk B.hx B.hb (lv' := [(3, .int (nI k)), (0, .ref mo)]) (st' := [.ref mo, .long dc, .long d1, .long p1, .ref mo]) hl bkX6_over_111_112 rfl (fun ls hl => ?_)
            refine m_get B hw 11 (by decide) wd_F_X6_39 rfl dX6_over_112 ?_
            refine pb_blk B.hx B.hb (lv' := [(3, .int (nI k)), (0, .ref mo)]) (st' := [.int 0, .ref (mo + 10), .long dc, .long d1, .long p1, .ref mo]) hl bkX6_over_115_116 rfl (fun ls hl => ?_)
            rw [show (0 : Int32) = nI 0 from rfl]
            refine m_lald B hw 10 (by decide) (by decide) rfl (vp_in_nI (show 0 < 10 by omega) (by decide)) (v := .long pc) (by rw [nI_clamp (by omega)]; exact e8) dX6_over_116 ?_
            refine m_callV B hw (c_X6_product l G mo S1 ct1 p1 d1 (dc) (pc) (u k) (Rat.divInt (u2 0).den (u2 0).num) a3 (hiv.2 hn) hmu.1 hmu.2 (hs1 k hk4).lt62 hsi.lt62) cy_X6_product im_X6_product se_X6_product wd_M_X6_132 rfl hl.1 rfl (Nat.le_of_ble_eq_true rfl) ⟨by decide, by decide⟩ ⟨rfl, rfl⟩ ⟨Nat.le_refl _, Nat.le_refl _⟩ dX6_over_117 (fun v H locs Sb ctb hw_31 hv => ?_)
            obtain ⟨rfl, rfl, n, d, rfl, hf⟩ := hv
            have hw := hw_31
            refine pb_blk B.hx B.hb (lv' := [(3, .int (nI k)), (0, .ref mo)]) (st' := [.ref mo]) hl bkX6_over_120_121 rfl (fun ls hl => ?_)
            refine m_get B hw 9 (by decide) wd_F_X6_33 rfl dX6_over_121 ?_
            refine pb_blk B.hx B.hb (lv' := [(3, .int (nI k)), (0, .ref mo)]) (st' := [.ref mo, .int (nI k), .ref (mo + 8)]) hl bkX6_over_124_126 rfl (fun ls hl => ?_)
            refine m_get B hw 13 (by decide) wd_F_X6_71 (congrArg some (show _ = Value.long n from rfl)) dX6_over_126 ?_
            refine m_last B hw 8 (by decide) (by decide) rfl (vp_in_nI (show k < 10 by omega) (by decide)) dX6_over_129 (fun H locs hw => ?_)
            rw [nI_clamp (show k < 2 ^ 31 by omega)] at hw
            refine pb_blk B.hx B.hb (lv' := [(3, .int (nI k)), (0, .ref mo)]) (st' := [.ref mo]) hl bkX6_over_130_131 rfl (fun ls hl => ?_)
            refine m_get B hw 10 (by decide) wd_F_X6_36 rfl dX6_over_131 ?_
            refine pb_blk B.hx B.hb (lv' := [(3, .int (nI k)), (0, .ref mo)]) (st' := [.ref mo, .int (nI k), .ref (mo + 9)]) hl bkX6_over_134_136 rfl (fun ls hl => ?_)
            refine m_get B hw 14 (by decide) wd_F_X6_75 (congrArg some (show _ = Value.long d from rfl)) dX6_over_136 ?_
            refine m_last B hw 9 (by decide) (by decide) rfl (vp_in_nI (show k < 10 by omega) (by decide)) dX6_over_139 (fun H locs hw => ?_)
            rw [nI_clamp (show k < 2 ^ 31 by omega)] at hw
            refine pb_blk B.hx B.hb (lv' := [(3, .int ((nI k) + 1)), (0, .ref mo)]) (st' := []) hl bkX6_over_140_45 rfl (fun ls hl => ?_)
            exact ih (k + 1) _ _ _ _ ls (by omega) hk4 hw (hP1.ag rfl (Ag.hi (fun a g1 g2 => oth2 (by omega) (by omega)))) (row_put (by decide) ra (by show Frx n d (if k < k + 1 then ext u k * (Rat.divInt (u2 0).den (u2 0).num) else ext u k); rw [if_pos (by omega), ext_lo hk4]; exact hf) (fun i _ hi => by show (if i < k + 1 then _ else _) = (if i < k then _ else _); by_cases q : i < k; rw [if_pos q, if_pos (by omega)]; rw [if_neg q, if_neg (by omega)])) e8 e9 (by rw [← nI_1]; exact lv_sub hl [0, 1] rfl)
          · exact absurd h2 h3
        · have hn : pc < 0 := Int64.lt_iff_toInt_lt.mpr (Int.not_le.mp fun q => h2 ((lg_cmp_ge _ _).mpr (Int64.le_iff_toInt_le.mpr q)))
          refine pb_blk B.hx B.hb (lv' := [(3, .int (nI k)), (0, .ref mo)]) (st' := [.ref mo, .long d1, .long p1, .ref mo]) hl bkX6_over_74_75 rfl (fun ls hl => ?_)
          refine m_get B hw 12 (by decide) wd_F_X6_42 rfl dX6_over_75 ?_
          refine pb_blk B.hx B.hb (lv' := [(3, .int (nI k)), (0, .ref mo)]) (st' := [.int 0, .ref (mo + 11), .long d1, .long p1, .ref mo]) hl bkX6_over_78_79 rfl (fun ls hl => ?_)
          rw [show (0 : Int32) = nI 0 from rfl]
          refine m_lald B hw 11 (by decide) (by decide) rfl (vp_in_nI (show 0 < 10 by omega) (by decide)) (v := .long dc) (by rw [nI_clamp (by omega)]; exact e9) dX6_over_79 ?_
          refine pb_blk B.hx B.hb (lv' := [(3, .int (nI k)), (0, .ref mo)]) (st' := [.ref mo, .long (-dc), .long d1, .long p1, .ref mo]) hl bkX6_over_80_91 rfl (fun ls hl => ?_)
          refine m_get B hw 11 (by decide) wd_F_X6_39 rfl dX6_over_91 ?_
          refine pb_blk B.hx B.hb (lv' := [(3, .int (nI k)), (0, .ref mo)]) (st' := [.int 0, .ref (mo + 10), .long (-dc), .long d1, .long p1, .ref mo]) hl bkX6_over_94_95 rfl (fun ls hl => ?_)
          rw [show (0 : Int32) = nI 0 from rfl]
          refine m_lald B hw 10 (by decide) (by decide) rfl (vp_in_nI (show 0 < 10 by omega) (by decide)) (v := .long pc) (by rw [nI_clamp (by omega)]; exact e8) dX6_over_95 ?_
          refine pb_blk B.hx B.hb (lv' := [(3, .int (nI k)), (0, .ref mo)]) (st' := [.int (lg_cmp pc 0), .long (-dc), .long d1, .long p1, .ref mo]) hl bkX6_over_96_98 rfl (fun ls hl => ?_)
          refine lv_if_ge (tgt := 111) B.hx B.hb dX6_over_98 (by decide) (fun h3 => ?_) (fun h3 => ?_)
          · exact absurd h3 h2
          · refine pb_blk B.hx B.hb (lv' := [(3, .int (nI k)), (0, .ref mo)]) (st' := [.ref mo, .long (-dc), .long d1, .long p1, .ref mo]) hl bkX6_over_101_102 rfl (fun ls hl => ?_)
            refine m_get B hw 11 (by decide) wd_F_X6_39 rfl dX6_over_102 ?_
            refine pb_blk B.hx B.hb (lv' := [(3, .int (nI k)), (0, .ref mo)]) (st' := [.int 0, .ref (mo + 10), .long (-dc), .long d1, .long p1, .ref mo]) hl bkX6_over_105_106 rfl (fun ls hl => ?_)
            rw [show (0 : Int32) = nI 0 from rfl]
            refine m_lald B hw 10 (by decide) (by decide) rfl (vp_in_nI (show 0 < 10 by omega) (by decide)) (v := .long pc) (by rw [nI_clamp (by omega)]; exact e8) dX6_over_106 ?_
            refine pb_blk B.hx B.hb (lv' := [(3, .int (nI k)), (0, .ref mo)]) (st' := [.long (-pc), .long (-dc), .long d1, .long p1, .ref mo]) hl bkX6_over_107_117 rfl (fun ls hl => ?_)
            refine m_callV B hw (c_X6_product l G mo S1 ct1 p1 d1 (-dc) (-pc) (u k) (Rat.divInt (u2 0).den (u2 0).num) a3 (hiv.1 hn) hmu.1 hmu.2 (hs1 k hk4).lt62 hsi.lt62) cy_X6_product im_X6_product se_X6_product wd_M_X6_132 rfl hl.1 rfl (Nat.le_of_ble_eq_true rfl) ⟨by decide, by decide⟩ ⟨rfl, rfl⟩ ⟨Nat.le_refl _, Nat.le_refl _⟩ dX6_over_117 (fun v H locs Sb ctb hw_32 hv => ?_)
            obtain ⟨rfl, rfl, n, d, rfl, hf⟩ := hv
            have hw := hw_32
            refine pb_blk B.hx B.hb (lv' := [(3, .int (nI k)), (0, .ref mo)]) (st' := [.ref mo]) hl bkX6_over_120_121 rfl (fun ls hl => ?_)
            refine m_get B hw 9 (by decide) wd_F_X6_33 rfl dX6_over_121 ?_
            refine pb_blk B.hx B.hb (lv' := [(3, .int (nI k)), (0, .ref mo)]) (st' := [.ref mo, .int (nI k), .ref (mo + 8)]) hl bkX6_over_124_126 rfl (fun ls hl => ?_)
            refine m_get B hw 13 (by decide) wd_F_X6_71 (congrArg some (show _ = Value.long n from rfl)) dX6_over_126 ?_
            refine m_last B hw 8 (by decide) (by decide) rfl (vp_in_nI (show k < 10 by omega) (by decide)) dX6_over_129 (fun H locs hw => ?_)
            rw [nI_clamp (show k < 2 ^ 31 by omega)] at hw
            refine pb_blk B.hx B.hb (lv' := [(3, .int (nI k)), (0, .ref mo)]) (st' := [.ref mo]) hl bkX6_over_130_131 rfl (fun ls hl => ?_)
            refine m_get B hw 10 (by decide) wd_F_X6_36 rfl dX6_over_131 ?_
            refine pb_blk B.hx B.hb (lv' := [(3, .int (nI k)), (0, .ref mo)]) (st' := [.ref mo, .int (nI k), .ref (mo + 9)]) hl bkX6_over_134_136 rfl (fun ls hl => ?_)
            refine m_get B hw 14 (by decide) wd_F_X6_75 (congrArg some (show _ = Value.long d from rfl)) dX6_over_136 ?_
            refine m_last B hw 9 (by decide) (by decide) rfl (vp_in_nI (show k < 10 by omega) (by decide)) dX6_over_139 (fun H locs hw => ?_)
            rw [nI_clamp (show k < 2 ^ 31 by omega)] at hw
            refine pb_blk B.hx B.hb (lv' := [(3, .int ((nI k) + 1)), (0, .ref mo)]) (st' := []) hl bkX6_over_140_45 rfl (fun ls hl => ?_)
            exact ih (k + 1) _ _ _ _ ls (by omega) hk4 hw (hP1.ag rfl (Ag.hi (fun a g1 g2 => oth2 (by omega) (by omega)))) (row_put (by decide) ra (by show Frx n d (if k < k + 1 then ext u k * (Rat.divInt (u2 0).den (u2 0).num) else ext u k); rw [if_pos (by omega), ext_lo hk4]; exact hf) (fun i _ hi => by show (if i < k + 1 then _ else _) = (if i < k then _ else _); by_cases q : i < k; rw [if_pos q, if_pos (by omega)]; rw [if_neg q, if_neg (by omega)])) e8 e9 (by rw [← nI_1]; exact lv_sub hl [0, 1] rfl)
  refine pb_blk B.hx B.hb (lv' := [(0, .ref mo), (1, .int f0), (2, .int g0)]) (st' := [.int g0, .int f0, .ref mo]) hl bkX6_over_0_3 rfl (fun ls hl => ?_)
  refine m_callV B hw (c_X6_are l G mo S ct N th as f0 g0 hP) cy_X6_are im_X6_are se_X6_are wd_M_X6_118 rfl hl.1 rfl (Nat.le_of_ble_eq_true rfl) ⟨by decide, by decide⟩ ⟨rfl, rfl⟩ ⟨Nat.le_refl _, Nat.le_refl _⟩ dX6_over_3 (fun v H locs Sa cta hw_27 hv => ?_)
  have har := hv
  have hw := hw_27
  rcases har with ⟨rfl, hc, hbad⟩ | ⟨rfl, rfl, i, j, u, u2, hi, hj, ei, ej, hu, hu2, r1, r2, o1⟩
  · refine lv_if_ne (tgt := 11) B.hx B.hb dX6_over_6 (by decide) (fun h => absurd h (by decide)) (fun _ => ?_)
    refine pb_blk B.hx B.hb (lv' := [(0, .ref mo), (1, .int f0), (2, .int g0)]) (st' := [.int 0]) hl bkX6_over_9_10 rfl (fun ls hl => ?_)
    exact m_iret (v := 0) B hw dX6_over_10 (by exact arf_bad hP hbad hc) (Nat.le_of_ble_eq_true rfl) (Nat.le_of_ble_eq_true rfl)
  · refine lv_if_ne (tgt := 11) B.hx B.hb dX6_over_6 (by decide) (fun _ => ?_) (fun h => absurd h (by decide))
    have hN := hP.1
    have hPa : Pst N th as (va_up S 0 (.int 0)) cta := hP.ag rfl (Ag.hi (fun a g1 g2 => o1 a (by omega)))
    have hs2 := hB.1 j hj u2 hu2
    have hs1 := hB.1 i hi u hu
    have fj := hP.2.2.1 j hj
    rw [hu2] at fj
    refine pb_blk B.hx B.hb (lv' := [(0, .ref mo), (1, .int f0), (2, .int g0)]) (st' := [.ref mo]) hl bkX6_over_11_12 rfl (fun ls hl => ?_)
    refine m_get B hw 2 (by decide) wd_F_X6_7 rfl dX6_over_12 ?_
    refine pb_blk B.hx B.hb (lv' := [(0, .ref mo), (1, .int f0), (2, .int g0)]) (st' := [.int g0, .ref (mo + 1)]) hl bkX6_over_15_16 rfl (fun ls hl => ?_)
    have hkj : cta 1 j = .int (kdF u2) := by rw [o1 1 (by omega)]; exact fj.1
    refine m_iald B hw 1 (by decide) (by decide) rfl (by rw [ej]; exact vp_in_nI (show j < 80 by omega) (by decide)) (v := .int (kdF u2)) (by rw [ej, nI_clamp (by omega)]; exact hkj) dX6_over_16 ?_
    refine lv_if_eq (tgt := 26) B.hx B.hb dX6_over_17 (by decide) (fun h1 => ?_) (fun h1 => ?_)
    · have hd : dgI u2 ≤ 0 := kdF_0.mp h1
      obtain ⟨pc, dc, c1, c2, c3⟩ := r2 0 (by decide)
      rw [ext_lo (show 0 < 4 by decide)] at c3
      refine pb_blk B.hx B.hb (lv' := [(0, .ref mo), (1, .int f0), (2, .int g0)]) (st' := [.ref mo]) hl bkX6_over_26_27 rfl (fun ls hl => ?_)
      refine m_get B hw 11 (by decide) wd_F_X6_39 rfl dX6_over_27 ?_
      refine pb_blk B.hx B.hb (lv' := [(0, .ref mo), (1, .int f0), (2, .int g0)]) (st' := [.int 0, .ref (mo + 10)]) hl bkX6_over_30_31 rfl (fun ls hl => ?_)
      rw [show (0 : Int32) = nI 0 from rfl]
      refine m_lald B hw 10 (by decide) (by decide) rfl (vp_in_nI (show 0 < 10 by omega) (by decide)) (v := .long pc) (by rw [nI_clamp (by omega)]; exact c1) dX6_over_31 ?_
      refine pb_blk B.hx B.hb (lv' := [(0, .ref mo), (1, .int f0), (2, .int g0)]) (st' := [.int (lg_cmp pc 0)]) hl bkX6_over_32_34 rfl (fun ls hl => ?_)
      refine lv_if_ne (tgt := 43) B.hx B.hb dX6_over_34 (by decide) (fun h2 => ?_) (fun h2 => ?_)
      · have hv0 : u2 0 ≠ 0 := fun q => h2 ((lg_cmp_eq _ _).mpr ((frx0 c3).mpr q))
        refine pb_blk B.hx B.hb (lv' := [(3, .int 0), (0, .ref mo), (1, .int f0), (2, .int g0)]) (st' := []) hl bkX6_over_43_45 rfl (fun ls hl => ?_)
        exact loop i j u u2 pc dc hi hj ei ej hu hu2 hs1 hs2 hd hv0 c3 5 0 _ _ _ cta ls (by omega) (by omega) hw hPa (by exact r1) c1 c2 (lv_sub hl [0, 1] rfl)
      · have hv0 : u2 0 = 0 := (frx0 c3).mp ((lg_cmp_eq _ _).mp h2)
        refine pb_blk B.hx B.hb (lv' := [(0, .ref mo), (1, .int f0), (2, .int g0)]) (st' := [.int 3, .ref mo]) hl bkX6_over_37_39 rfl (fun ls hl => ?_)
        refine m_callV B hw (c_X6_raise l G mo _ cta 3) cy_X6_raise im_X6_raise se_X6_raise wd_M_X6_97 rfl hl.1 rfl (Nat.le_of_ble_eq_true rfl) ⟨by decide, by decide⟩ ⟨rfl, rfl⟩ ⟨Nat.le_refl _, Nat.le_refl _⟩ dX6_over_39 (fun v H locs S1 ct1 hw_28 hv => ?_)
        obtain ⟨rfl, rfl, rfl⟩ := hv
        have hw := hw_28
        exact m_iret (v := 0) B hw dX6_over_42 (by exact ⟨3, .inl (fun _ => 0), Or.inr ⟨i, j, hi, hj, ei, ej, Or.inr ⟨u, u2, hu, hu2, Or.inr ⟨hd, Or.inl ⟨rfl, hv0⟩⟩⟩⟩, rfl, Or.inr ⟨by decide, ⟨_, rfl⟩, hPa.ag rfl Ag.rf⟩⟩) (Nat.le_of_ble_eq_true rfl) (Nat.le_of_ble_eq_true rfl)
    · have hd : ¬ dgI u2 ≤ 0 := fun q => h1 (kdF_0.mpr q)
      refine pb_blk B.hx B.hb (lv' := [(0, .ref mo), (1, .int f0), (2, .int g0)]) (st' := [.int 2, .ref mo]) hl bkX6_over_20_22 rfl (fun ls hl => ?_)
      refine m_callV B hw (c_X6_raise l G mo _ cta 2) cy_X6_raise im_X6_raise se_X6_raise wd_M_X6_97 rfl hl.1 rfl (Nat.le_of_ble_eq_true rfl) ⟨by decide, by decide⟩ ⟨rfl, rfl⟩ ⟨Nat.le_refl _, Nat.le_refl _⟩ dX6_over_22 (fun v H locs S1 ct1 hw_29 hv => ?_)
      obtain ⟨rfl, rfl, rfl⟩ := hv
      have hw := hw_29
      exact m_iret (v := 0) B hw dX6_over_25 (by exact ⟨2, .inl (fun _ => 0), Or.inr ⟨i, j, hi, hj, ei, ej, Or.inr ⟨u, u2, hu, hu2, Or.inl ⟨rfl, hd⟩⟩⟩, rfl, Or.inr ⟨by decide, ⟨_, rfl⟩, hPa.ag rfl Ag.rf⟩⟩) (Nat.le_of_ble_eq_true rfl) (Nat.le_of_ble_eq_true rfl)

theorem frx_k1 {k : Nat} (h : k < 100) : Frx ((nI k).toInt64 + 1) 1 ((k + 1 : Nat) : Rat) ∧ ((nI k).toInt64 + 1).toInt = (k : Int) + 1 := by
  have e : ((nI k).toInt64 + 1).toInt = (k : Int) + 1 := by
    have e1 : (nI k).toInt64.toInt = (k : Int) := by rw [Int32.toInt_toInt64, nI_toI (by omega)]
    rw [Kit.i64_add (by rw [e1, show (1 : Int64).toInt = 1 from rfl]; omega) (by rw [e1, show (1 : Int64).toInt = 1 from rfl]; omega), e1]; rfl
  exact ⟨⟨by rw [e]; rfl, rfl⟩, e⟩
theorem frx_i1 {k : Nat} (h : k < 4) : Frx 1 ((nI k).toInt64 + 1) (inv (k + 1)) := by
  rcases (show k = 0 ∨ k = 1 ∨ k = 2 ∨ k = 3 by omega) with rfl | rfl | rfl | rfl <;> exact ⟨by decide +kernel, by decide +kernel⟩
theorem sm_k1 {k : Nat} (h : k < 4) : Sm ((k + 1 : Nat) : Rat) := ⟨by show k + 1 ≤ 60; omega, by show 1 ≤ 60; omega⟩
theorem sm_i1 {k : Nat} (h : k < 4) : Sm (inv (k + 1)) := by
  rcases (show k = 0 ∨ k = 1 ∨ k = 2 ∨ k = 3 by omega) with rfl | rfl | rfl | rfl <;> exact ⟨by decide +kernel, by decide +kernel⟩

def po_X6_derive (mo : Nat) (S : Sc) (ct : Ct) (N : Nat) (th : Nat → Th) (as : St3) (f0 : Int32) : Option Value → Sc → Ct → Prop := fun v S2 ct2 => MkK N th as (R_derive N th f0) v S2 ct2
theorem bkX6_derive_0_3 : pb_chk cX6_derive 0 [.aload_n 0, .iload_n 1, .iload_n 1] = some 3 := by decide +kernel
theorem dX6_derive_3 : decode cX6_derive 3 = .ok (.invokevirtual 118, 3) := by decide +kernel
theorem dX6_derive_6 : decode cX6_derive 6 = .ok (.ifCond .ne 5, 3) := by decide +kernel
theorem bkX6_derive_9_10 : pb_chk cX6_derive 9 [.iconst 0] = some 10 := by decide +kernel
theorem dX6_derive_10 : decode cX6_derive 10 = .ok (.ireturn, 1) := by decide +kernel
theorem bkX6_derive_11_13 : pb_chk cX6_derive 11 [.iconst 0, .istore_n 2] = some 13 := by decide +kernel
theorem bkX6_derive_13_15 : pb_chk cX6_derive 13 [.iload_n 2, .iconst 4] = some 15 := by decide +kernel
theorem dX6_derive_15 : decode cX6_derive 15 = .ok (.if_icmp .ge 72, 3) := by decide +kernel
theorem bkX6_derive_87_89 : pb_chk cX6_derive 87 [.aload_n 0, .iconst 3] = some 89 := by decide +kernel
theorem dX6_derive_89 : decode cX6_derive 89 = .ok (.invokevirtual 104, 3) := by decide +kernel
theorem dX6_derive_92 : decode cX6_derive 92 = .ok (.ireturn, 1) := by decide +kernel
theorem bkX6_derive_18_21 : pb_chk cX6_derive 18 [.aload_n 0, .iload_n 2, .iconst 3] = some 21 := by decide +kernel
theorem dX6_derive_21 : decode cX6_derive 21 = .ok (.if_icmp .ge 14, 3) := by decide +kernel
theorem bkX6_derive_35_38 : pb_chk cX6_derive 35 [.lconst 0, .iload_n 2, .iconst 3] = some 38 := by decide +kernel
theorem dX6_derive_38 : decode cX6_derive 38 = .ok (.if_icmp .ge 14, 3) := by decide +kernel
theorem bkX6_derive_52_58 : pb_chk cX6_derive 52 [.lconst 1, .iload_n 2, .i2l, .lconst 1, .ladd, .lconst 1] = some 58 := by decide +kernel
theorem dX6_derive_58 : decode cX6_derive 58 = .ok (.invokevirtual 132, 3) := by decide +kernel
theorem bkX6_derive_61_62 : pb_chk cX6_derive 61 [.aload_n 0] = some 62 := by decide +kernel
theorem dX6_derive_62 : decode cX6_derive 62 = .ok (.getfield 33, 3) := by decide +kernel
theorem bkX6_derive_65_67 : pb_chk cX6_derive 65 [.iload_n 2, .aload_n 0] = some 67 := by decide +kernel
theorem dX6_derive_67 : decode cX6_derive 67 = .ok (.getfield 71, 3) := by decide +kernel
theorem dX6_derive_70 : decode cX6_derive 70 = .ok (.lastore, 1) := by decide +kernel
theorem bkX6_derive_71_72 : pb_chk cX6_derive 71 [.aload_n 0] = some 72 := by decide +kernel
theorem dX6_derive_72 : decode cX6_derive 72 = .ok (.getfield 36, 3) := by decide +kernel
theorem bkX6_derive_75_77 : pb_chk cX6_derive 75 [.iload_n 2, .aload_n 0] = some 77 := by decide +kernel
theorem dX6_derive_77 : decode cX6_derive 77 = .ok (.getfield 75, 3) := by decide +kernel
theorem dX6_derive_80 : decode cX6_derive 80 = .ok (.lastore, 1) := by decide +kernel
theorem bkX6_derive_81_13 : pb_chk cX6_derive 81 [.iinc 2 1, .goto (-71)] = some 13 := by decide +kernel
theorem bkX6_derive_24_25 : pb_chk cX6_derive 24 [.aload_n 0] = some 25 := by decide +kernel
theorem dX6_derive_25 : decode cX6_derive 25 = .ok (.getfield 39, 3) := by decide +kernel
theorem bkX6_derive_28_31 : pb_chk cX6_derive 28 [.iload_n 2, .iconst 1, .iadd] = some 31 := by decide +kernel
theorem dX6_derive_31 : decode cX6_derive 31 = .ok (.laload, 1) := by decide +kernel
theorem bkX6_derive_32_38 : pb_chk cX6_derive 32 [.goto 4, .iload_n 2, .iconst 3] = some 38 := by decide +kernel
theorem bkX6_derive_41_42 : pb_chk cX6_derive 41 [.aload_n 0] = some 42 := by decide +kernel
theorem dX6_derive_42 : decode cX6_derive 42 = .ok (.getfield 42, 3) := by decide +kernel
theorem bkX6_derive_45_48 : pb_chk cX6_derive 45 [.iload_n 2, .iconst 1, .iadd] = some 48 := by decide +kernel
theorem dX6_derive_48 : decode cX6_derive 48 = .ok (.laload, 1) := by decide +kernel
theorem bkX6_derive_49_58 : pb_chk cX6_derive 49 [.goto 4, .iload_n 2, .i2l, .lconst 1, .ladd, .lconst 1] = some 58 := by decide +kernel
set_option maxHeartbeats 4000000 in
set_option maxRecDepth 100000 in
theorem c_X6_derive (l : Launch) (G : Gm) (mo : Nat) (S : Sc) (ct : Ct) (N : Nat) (th : Nat → Th) (as : St3) (f0 : Int32) (hP : Pst N th as S ct) (hB : Bds N th as) : Mm l yX6_derive cX6_derive 3 (some .int) (⟨3, 0, 0, 88⟩ : Room) G mo S ct [.ref mo, .int f0] (po_X6_derive mo S ct N th as f0) := by
  refine of_met (by decide) (Nat.le_of_ble_eq_true rfl) ?_
  intro p e s m below meth c ls B hA hM0 hl
  have hw := Mw.start hM0
  have loop : ∀ (i : Nat) (u : Nat → Rat), i < N → f0 = nI i → th i = .inl u → (∀ k, k < 4 → Sm (u k)) → ∀ (n k : Nat) (H : Heap) (locs : List Loc) (S1 : Sc) (ct1 : Ct) (ls : Array Slot), 5 ≤ k + n → k ≤ 4 → Mw G mo s.heap H locs S1 ct1 → Pst N th as S1 ct1 → RwL ct1 8 9 10 (mixR (ext u) (fun k => sel u (nI (k + 1)) * ((k + 1 : Nat) : Rat)) k) → RwL ct1 10 11 10 (ext u) → lv_has ls 3 [(2, .int (nI k)), (0, .ref mo)] → W p l e (⟨3, 0, 0, 88⟩ : Room) s m ([.ref mo, .int f0] : List Value).toArray below meth c H locs 0 0 (MQ below (Qm G mo (po_X6_derive mo S ct N th as f0)) ([.ref mo, .int f0] : List Value).toArray s (⟨3, 0, 0, 88⟩ : Room).cells (⟨3, 0, 0, 88⟩ : Room).slots (FM mo)) (F0 m 13 ls []) := by
    intro i u hi ei hu hs1 n
    induction n with
    | zero => intro k H locs S1 ct1 ls h1 h2; omega
    | succ n ih =>
      intro k H locs S1 ct1 ls hn hk hw hP1 ra rc hl
      refine pb_blk B.hx B.hb (lv' := [(2, .int (nI k)), (0, .ref mo)]) (st' := [.int 4, .int (nI k)]) hl bkX6_derive_13_15 rfl (fun ls hl => ?_)
      refine lv_icmp_ge (tgt := 87) B.hx B.hb dX6_derive_15 (by decide) (fun h1 => ?_) (fun h1 => ?_)
      · have e4 : k = 4 := by have := nI_nlt_le (show 4 < 2 ^ 31 by decide) (k2_nlt h1); omega
        rw [e4] at ra
        refine pb_blk B.hx B.hb (lv' := [(2, .int (nI k)), (0, .ref mo)]) (st' := [.int 3, .ref mo]) hl bkX6_derive_87_89 rfl (fun ls hl => ?_)
        rw [show (3 : Int32) = nI 3 from rfl]
        refine m_callV B hw (c_X6_keep l G mo S1 ct1 N th as 3 (mixR (ext u) (fun k => sel u (nI (k + 1)) * ((k + 1 : Nat) : Rat)) 4) hP1 ra) cy_X6_keep im_X6_keep se_X6_keep wd_M_X6_104 rfl hl.1 rfl (Nat.le_of_ble_eq_true rfl) ⟨by decide, by decide⟩ ⟨rfl, rfl⟩ ⟨Nat.le_refl _, Nat.le_refl _⟩ dX6_derive_89 (fun v H locs Sd ctd hw_34 hv => ?_)
        have hk := kp_of (w := fun k => sel u (nI (k + 1)) * ((k + 1 : Nat) : Rat)) hP1 (by decide) hv (fun k hk => if_pos hk) (fun i g1 g2 => by show (if i < 4 then _ else ext u i) = _; rw [if_neg (by omega), ext_hi g1])
        have hw := hw_34
        obtain ⟨c9, t9, g1, g2, g3⟩ := hk
        have hval : ∃ r, v = some (.int r) := by rcases g3 with ⟨-, e9, -⟩ | ⟨-, ⟨r9, e9⟩, -⟩; exact ⟨_, e9⟩; exact ⟨_, e9⟩
        obtain ⟨r9, rfl⟩ := hval
        exact m_iret (v := r9) B hw dX6_derive_92 (by exact ⟨c9, t9, Or.inr ⟨i, hi, ei, Or.inr ⟨u, hu, g1⟩⟩, g2, g3⟩) (Nat.le_of_ble_eq_true rfl) (Nat.le_of_ble_eq_true rfl)
      · have hk4 : k < 4 := (nI_ltI (by omega) (by decide)).mp (k2_lt h1)
        have hk1 := frx_k1 (show k < 100 by omega)
        have hsl := sel_sm hs1 (nI (k + 1))
        have hmu := Sm.mul hsl (sm_k1 hk4)
        refine pb_blk B.hx B.hb (lv' := [(2, .int (nI k)), (0, .ref mo)]) (st' := [.int 3, .int (nI k), .ref mo]) hl bkX6_derive_18_21 rfl (fun ls hl => ?_)
        refine lv_icmp_ge (tgt := 35) B.hx B.hb dX6_derive_21 (by decide) (fun h2 => ?_) (fun h2 => ?_)
        · have g3 : k = 3 := by have := nI_nlt_le (show 3 < 2 ^ 31 by decide) (k2_nlt h2); omega
          have hz : sel u (nI (k + 1)) = 0 := by rw [g3]; exact if_pos (Or.inr (by decide))
          refine pb_blk B.hx B.hb (lv' := [(2, .int (nI k)), (0, .ref mo)]) (st' := [.int 3, .int (nI k), .long 0, .ref mo]) hl bkX6_derive_35_38 rfl (fun ls hl => ?_)
          refine lv_icmp_ge (tgt := 52) B.hx B.hb dX6_derive_38 (by decide) (fun h3 => ?_) (fun h3 => ?_)
          · refine pb_blk B.hx B.hb (lv' := [(2, .int (nI k)), (0, .ref mo)]) (st' := [.long 1, .long (((nI k)).toInt64 + 1), .long 1, .long 0, .ref mo]) hl bkX6_derive_52_58 rfl (fun ls hl => ?_)
            refine m_callV B hw (c_X6_product l G mo S1 ct1 0 1 ((nI k).toInt64 + 1) 1 (sel u (nI (k + 1))) ((k + 1 : Nat) : Rat) (by rw [hz]; exact frx01) hk1.1 hmu.1 hmu.2 hsl.lt62 (sm_k1 hk4).lt62) cy_X6_product im_X6_product se_X6_product wd_M_X6_132 rfl hl.1 rfl (Nat.le_of_ble_eq_true rfl) ⟨by decide, by decide⟩ ⟨rfl, rfl⟩ ⟨Nat.le_refl _, Nat.le_refl _⟩ dX6_derive_58 (fun v H locs Sb ctb hw_35 hv => ?_)
            obtain ⟨rfl, rfl, n, d, rfl, hf⟩ := hv
            have hw := hw_35
            refine pb_blk B.hx B.hb (lv' := [(2, .int (nI k)), (0, .ref mo)]) (st' := [.ref mo]) hl bkX6_derive_61_62 rfl (fun ls hl => ?_)
            refine m_get B hw 9 (by decide) wd_F_X6_33 rfl dX6_derive_62 ?_
            refine pb_blk B.hx B.hb (lv' := [(2, .int (nI k)), (0, .ref mo)]) (st' := [.ref mo, .int (nI k), .ref (mo + 8)]) hl bkX6_derive_65_67 rfl (fun ls hl => ?_)
            refine m_get B hw 13 (by decide) wd_F_X6_71 (congrArg some (show _ = Value.long n from rfl)) dX6_derive_67 ?_
            refine m_last B hw 8 (by decide) (by decide) rfl (vp_in_nI (show k < 10 by omega) (by decide)) dX6_derive_70 (fun H locs hw => ?_)
            rw [nI_clamp (show k < 2 ^ 31 by omega)] at hw
            refine pb_blk B.hx B.hb (lv' := [(2, .int (nI k)), (0, .ref mo)]) (st' := [.ref mo]) hl bkX6_derive_71_72 rfl (fun ls hl => ?_)
            refine m_get B hw 10 (by decide) wd_F_X6_36 rfl dX6_derive_72 ?_
            refine pb_blk B.hx B.hb (lv' := [(2, .int (nI k)), (0, .ref mo)]) (st' := [.ref mo, .int (nI k), .ref (mo + 9)]) hl bkX6_derive_75_77 rfl (fun ls hl => ?_)
            refine m_get B hw 14 (by decide) wd_F_X6_75 (congrArg some (show _ = Value.long d from rfl)) dX6_derive_77 ?_
            refine m_last B hw 9 (by decide) (by decide) rfl (vp_in_nI (show k < 10 by omega) (by decide)) dX6_derive_80 (fun H locs hw => ?_)
            rw [nI_clamp (show k < 2 ^ 31 by omega)] at hw
            refine pb_blk B.hx B.hb (lv' := [(2, .int ((nI k) + 1)), (0, .ref mo)]) (st' := []) hl bkX6_derive_81_13 rfl (fun ls hl => ?_)
            exact ih (k + 1) _ _ _ _ ls (by omega) hk4 hw (hP1.ag rfl (Ag.hi (fun a g1 g2 => oth2 (by omega) (by omega)))) (row_put (by decide) ra (by show Frx n d (if k < k + 1 then sel u (nI (k + 1)) * ((k + 1 : Nat) : Rat) else ext u k); rw [if_pos (by omega)]; exact hf) (fun i _ hi => by show (if i < k + 1 then _ else _) = (if i < k then _ else _); by_cases q : i < k; rw [if_pos q, if_pos (by omega)]; rw [if_neg q, if_neg (by omega)])) (rc.cg (oth2 (by decide) (by decide)) (oth2 (by decide) (by decide))) (by rw [← nI_1]; exact lv_sub hl [0, 1] rfl)
          · exact absurd h2 h3
        · have g3 : k < 3 := (nI_ltI (by omega) (by decide)).mp (k2_lt h2)
          obtain ⟨p2, d2, b1, b2, b3⟩ := rc (k + 1) (by omega)
          rw [ext_lo (show k + 1 < 4 by omega)] at b3
          rw [← sel_in (u := u) (show k + 1 < 4 by omega)] at b3
          refine pb_blk B.hx B.hb (lv' := [(2, .int (nI k)), (0, .ref mo)]) (st' := [.ref mo, .ref mo]) hl bkX6_derive_24_25 rfl (fun ls hl => ?_)
          refine m_get B hw 11 (by decide) wd_F_X6_39 rfl dX6_derive_25 ?_
          refine pb_blk B.hx B.hb (lv' := [(2, .int (nI k)), (0, .ref mo)]) (st' := [.int ((nI k) + 1), .ref (mo + 10), .ref mo]) hl bkX6_derive_28_31 rfl (fun ls hl => ?_)
          rw [nI_1]
          refine m_lald B hw 10 (by decide) (by decide) rfl (vp_in_nI (show k + 1 < 10 by omega) (by decide)) (v := .long p2) (by rw [nI_clamp (by omega)]; exact b1) dX6_derive_31 ?_
          refine pb_blk B.hx B.hb (lv' := [(2, .int (nI k)), (0, .ref mo)]) (st' := [.int 3, .int (nI k), .long p2, .ref mo]) hl bkX6_derive_32_38 rfl (fun ls hl => ?_)
          refine lv_icmp_ge (tgt := 52) B.hx B.hb dX6_derive_38 (by decide) (fun h3 => ?_) (fun h3 => ?_)
          · exact absurd h3 h2
          · refine pb_blk B.hx B.hb (lv' := [(2, .int (nI k)), (0, .ref mo)]) (st' := [.ref mo, .long p2, .ref mo]) hl bkX6_derive_41_42 rfl (fun ls hl => ?_)
            refine m_get B hw 12 (by decide) wd_F_X6_42 rfl dX6_derive_42 ?_
            refine pb_blk B.hx B.hb (lv' := [(2, .int (nI k)), (0, .ref mo)]) (st' := [.int ((nI k) + 1), .ref (mo + 11), .long p2, .ref mo]) hl bkX6_derive_45_48 rfl (fun ls hl => ?_)
            rw [nI_1]
            refine m_lald B hw 11 (by decide) (by decide) rfl (vp_in_nI (show k + 1 < 10 by omega) (by decide)) (v := .long d2) (by rw [nI_clamp (by omega)]; exact b2) dX6_derive_48 ?_
            refine pb_blk B.hx B.hb (lv' := [(2, .int (nI k)), (0, .ref mo)]) (st' := [.long 1, .long (((nI k)).toInt64 + 1), .long d2, .long p2, .ref mo]) hl bkX6_derive_49_58 rfl (fun ls hl => ?_)
            refine m_callV B hw (c_X6_product l G mo S1 ct1 p2 d2 ((nI k).toInt64 + 1) 1 (sel u (nI (k + 1))) ((k + 1 : Nat) : Rat) (b3) hk1.1 hmu.1 hmu.2 hsl.lt62 (sm_k1 hk4).lt62) cy_X6_product im_X6_product se_X6_product wd_M_X6_132 rfl hl.1 rfl (Nat.le_of_ble_eq_true rfl) ⟨by decide, by decide⟩ ⟨rfl, rfl⟩ ⟨Nat.le_refl _, Nat.le_refl _⟩ dX6_derive_58 (fun v H locs Sb ctb hw_36 hv => ?_)
            obtain ⟨rfl, rfl, n, d, rfl, hf⟩ := hv
            have hw := hw_36
            refine pb_blk B.hx B.hb (lv' := [(2, .int (nI k)), (0, .ref mo)]) (st' := [.ref mo]) hl bkX6_derive_61_62 rfl (fun ls hl => ?_)
            refine m_get B hw 9 (by decide) wd_F_X6_33 rfl dX6_derive_62 ?_
            refine pb_blk B.hx B.hb (lv' := [(2, .int (nI k)), (0, .ref mo)]) (st' := [.ref mo, .int (nI k), .ref (mo + 8)]) hl bkX6_derive_65_67 rfl (fun ls hl => ?_)
            refine m_get B hw 13 (by decide) wd_F_X6_71 (congrArg some (show _ = Value.long n from rfl)) dX6_derive_67 ?_
            refine m_last B hw 8 (by decide) (by decide) rfl (vp_in_nI (show k < 10 by omega) (by decide)) dX6_derive_70 (fun H locs hw => ?_)
            rw [nI_clamp (show k < 2 ^ 31 by omega)] at hw
            refine pb_blk B.hx B.hb (lv' := [(2, .int (nI k)), (0, .ref mo)]) (st' := [.ref mo]) hl bkX6_derive_71_72 rfl (fun ls hl => ?_)
            refine m_get B hw 10 (by decide) wd_F_X6_36 rfl dX6_derive_72 ?_
            refine pb_blk B.hx B.hb (lv' := [(2, .int (nI k)), (0, .ref mo)]) (st' := [.ref mo, .int (nI k), .ref (mo + 9)]) hl bkX6_derive_75_77 rfl (fun ls hl => ?_)
            refine m_get B hw 14 (by decide) wd_F_X6_75 (congrArg some (show _ = Value.long d from rfl)) dX6_derive_77 ?_
            refine m_last B hw 9 (by decide) (by decide) rfl (vp_in_nI (show k < 10 by omega) (by decide)) dX6_derive_80 (fun H locs hw => ?_)
            rw [nI_clamp (show k < 2 ^ 31 by omega)] at hw
            refine pb_blk B.hx B.hb (lv' := [(2, .int ((nI k) + 1)), (0, .ref mo)]) (st' := []) hl bkX6_derive_81_13 rfl (fun ls hl => ?_)
            exact ih (k + 1) _ _ _ _ ls (by omega) hk4 hw (hP1.ag rfl (Ag.hi (fun a g1 g2 => oth2 (by omega) (by omega)))) (row_put (by decide) ra (by show Frx n d (if k < k + 1 then sel u (nI (k + 1)) * ((k + 1 : Nat) : Rat) else ext u k); rw [if_pos (by omega)]; exact hf) (fun i _ hi => by show (if i < k + 1 then _ else _) = (if i < k then _ else _); by_cases q : i < k; rw [if_pos q, if_pos (by omega)]; rw [if_neg q, if_neg (by omega)])) (rc.cg (oth2 (by decide) (by decide)) (oth2 (by decide) (by decide))) (by rw [← nI_1]; exact lv_sub hl [0, 1] rfl)
  refine pb_blk B.hx B.hb (lv' := [(0, .ref mo), (1, .int f0)]) (st' := [.int f0, .int f0, .ref mo]) hl bkX6_derive_0_3 rfl (fun ls hl => ?_)
  refine m_callV B hw (c_X6_are l G mo S ct N th as f0 f0 hP) cy_X6_are im_X6_are se_X6_are wd_M_X6_118 rfl hl.1 rfl (Nat.le_of_ble_eq_true rfl) ⟨by decide, by decide⟩ ⟨rfl, rfl⟩ ⟨Nat.le_refl _, Nat.le_refl _⟩ dX6_derive_3 (fun v H locs Sa cta hw_33 hv => ?_)
  have har := hv
  have hw := hw_33
  rcases har with ⟨rfl, hc, hbad⟩ | ⟨rfl, rfl, i, j, u, u2, hi, hj, ei, ej, hu, hu2, r1, r2, o1⟩
  · refine lv_if_ne (tgt := 11) B.hx B.hb dX6_derive_6 (by decide) (fun h => absurd h (by decide)) (fun _ => ?_)
    refine pb_blk B.hx B.hb (lv' := [(0, .ref mo), (1, .int f0)]) (st' := [.int 0]) hl bkX6_derive_9_10 rfl (fun ls hl => ?_)
    exact m_iret (v := 0) B hw dX6_derive_10 (by exact arf_bad1 hP hbad hc) (Nat.le_of_ble_eq_true rfl) (Nat.le_of_ble_eq_true rfl)
  · refine lv_if_ne (tgt := 11) B.hx B.hb dX6_derive_6 (by decide) (fun _ => ?_) (fun h => absurd h (by decide))
    have hN := hP.1
    have hPa : Pst N th as (va_up S 0 (.int 0)) cta := hP.ag rfl (Ag.hi (fun a g1 g2 => o1 a (by omega)))
    have eij : i = j := (nI_eq (by omega) (by omega)).mp (ei.symm.trans ej)
    subst eij
    have e12 : u = u2 := Sum.inl.inj (hu.symm.trans hu2)
    subst e12
    have hs1 := hB.1 i hi u hu
    refine pb_blk B.hx B.hb (lv' := [(2, .int 0), (0, .ref mo), (1, .int f0)]) (st' := []) hl bkX6_derive_11_13 rfl (fun ls hl => ?_)
    exact loop i u hi ei hu hs1 5 0 _ _ _ cta ls (by omega) (by omega) hw hPa (by exact r1) r2 (lv_sub hl [0, 1] rfl)

def ir (u : Nat → Rat) (k : Nat) : Nat → Rat := fun j => if 1 ≤ j ∧ j ≤ k then ext u (j - 1) * inv j else 0
theorem dgI_3 {u : Nat → Rat} : (dgI u + 1 ≤ 3) ↔ u 3 = 0 := by
  unfold dgI
  by_cases h : u 3 = 0
  · rw [if_neg (by simp [h])]
    refine ⟨fun _ => h, fun _ => ?_⟩
    split
    · decide
    · split
      · decide
      · split <;> decide
  · rw [if_pos h]
    exact ⟨fun q => absurd q (by decide), fun q => absurd q h⟩

def po_X6_integral (mo : Nat) (S : Sc) (ct : Ct) (N : Nat) (th : Nat → Th) (as : St3) (f0 : Int32) : Option Value → Sc → Ct → Prop := fun v S2 ct2 => MkK N th as (R_integral N th f0) v S2 ct2
theorem bkX6_integral_0_3 : pb_chk cX6_integral 0 [.aload_n 0, .iload_n 1, .iload_n 1] = some 3 := by decide +kernel
theorem dX6_integral_3 : decode cX6_integral 3 = .ok (.invokevirtual 118, 3) := by decide +kernel
theorem dX6_integral_6 : decode cX6_integral 6 = .ok (.ifCond .ne 5, 3) := by decide +kernel
theorem bkX6_integral_9_10 : pb_chk cX6_integral 9 [.iconst 0] = some 10 := by decide +kernel
theorem dX6_integral_10 : decode cX6_integral 10 = .ok (.ireturn, 1) := by decide +kernel
theorem bkX6_integral_11_12 : pb_chk cX6_integral 11 [.aload_n 0] = some 12 := by decide +kernel
theorem dX6_integral_12 : decode cX6_integral 12 = .ok (.invokevirtual 101, 3) := by decide +kernel
theorem bkX6_integral_15_17 : pb_chk cX6_integral 15 [.iconst 0, .istore_n 2] = some 17 := by decide +kernel
theorem bkX6_integral_17_19 : pb_chk cX6_integral 17 [.iload_n 2, .iconst 4] = some 19 := by decide +kernel
theorem dX6_integral_19 : decode cX6_integral 19 = .ok (.if_icmp .ge 54, 3) := by decide +kernel
theorem bkX6_integral_73_75 : pb_chk cX6_integral 73 [.aload_n 0, .iconst 3] = some 75 := by decide +kernel
theorem dX6_integral_75 : decode cX6_integral 75 = .ok (.invokevirtual 104, 3) := by decide +kernel
theorem dX6_integral_78 : decode cX6_integral 78 = .ok (.ireturn, 1) := by decide +kernel
theorem bkX6_integral_22_24 : pb_chk cX6_integral 22 [.aload_n 0, .aload_n 0] = some 24 := by decide +kernel
theorem dX6_integral_24 : decode cX6_integral 24 = .ok (.getfield 39, 3) := by decide +kernel
theorem bkX6_integral_27_28 : pb_chk cX6_integral 27 [.iload_n 2] = some 28 := by decide +kernel
theorem dX6_integral_28 : decode cX6_integral 28 = .ok (.laload, 1) := by decide +kernel
theorem bkX6_integral_29_30 : pb_chk cX6_integral 29 [.aload_n 0] = some 30 := by decide +kernel
theorem dX6_integral_30 : decode cX6_integral 30 = .ok (.getfield 42, 3) := by decide +kernel
theorem bkX6_integral_33_34 : pb_chk cX6_integral 33 [.iload_n 2] = some 34 := by decide +kernel
theorem dX6_integral_34 : decode cX6_integral 34 = .ok (.laload, 1) := by decide +kernel
theorem bkX6_integral_35_40 : pb_chk cX6_integral 35 [.lconst 1, .iload_n 2, .i2l, .lconst 1, .ladd] = some 40 := by decide +kernel
theorem dX6_integral_40 : decode cX6_integral 40 = .ok (.invokevirtual 132, 3) := by decide +kernel
theorem bkX6_integral_43_44 : pb_chk cX6_integral 43 [.aload_n 0] = some 44 := by decide +kernel
theorem dX6_integral_44 : decode cX6_integral 44 = .ok (.getfield 33, 3) := by decide +kernel
theorem bkX6_integral_47_51 : pb_chk cX6_integral 47 [.iload_n 2, .iconst 1, .iadd, .aload_n 0] = some 51 := by decide +kernel
theorem dX6_integral_51 : decode cX6_integral 51 = .ok (.getfield 71, 3) := by decide +kernel
theorem dX6_integral_54 : decode cX6_integral 54 = .ok (.lastore, 1) := by decide +kernel
theorem bkX6_integral_55_56 : pb_chk cX6_integral 55 [.aload_n 0] = some 56 := by decide +kernel
theorem dX6_integral_56 : decode cX6_integral 56 = .ok (.getfield 36, 3) := by decide +kernel
theorem bkX6_integral_59_63 : pb_chk cX6_integral 59 [.iload_n 2, .iconst 1, .iadd, .aload_n 0] = some 63 := by decide +kernel
theorem dX6_integral_63 : decode cX6_integral 63 = .ok (.getfield 75, 3) := by decide +kernel
theorem dX6_integral_66 : decode cX6_integral 66 = .ok (.lastore, 1) := by decide +kernel
theorem bkX6_integral_67_17 : pb_chk cX6_integral 67 [.iinc 2 1, .goto (-53)] = some 17 := by decide +kernel
set_option maxHeartbeats 4000000 in
set_option maxRecDepth 100000 in
theorem c_X6_integral (l : Launch) (G : Gm) (mo : Nat) (S : Sc) (ct : Ct) (N : Nat) (th : Nat → Th) (as : St3) (f0 : Int32) (hP : Pst N th as S ct) (hB : Bds N th as) : Mm l yX6_integral cX6_integral 3 (some .int) (⟨3, 0, 0, 88⟩ : Room) G mo S ct [.ref mo, .int f0] (po_X6_integral mo S ct N th as f0) := by
  refine of_met (by decide) (Nat.le_of_ble_eq_true rfl) ?_
  intro p e s m below meth c ls B hA hM0 hl
  have hw := Mw.start hM0
  have loop : ∀ (i : Nat) (u : Nat → Rat), i < N → f0 = nI i → th i = .inl u → (∀ k, k < 4 → Sm (u k)) → ∀ (n k : Nat) (H : Heap) (locs : List Loc) (S1 : Sc) (ct1 : Ct) (ls : Array Slot), 5 ≤ k + n → k ≤ 4 → Mw G mo s.heap H locs S1 ct1 → Pst N th as S1 ct1 → RwL ct1 8 9 10 (ir u k) → RwL ct1 10 11 10 (ext u) → lv_has ls 3 [(2, .int (nI k)), (0, .ref mo)] → W p l e (⟨3, 0, 0, 88⟩ : Room) s m ([.ref mo, .int f0] : List Value).toArray below meth c H locs 0 0 (MQ below (Qm G mo (po_X6_integral mo S ct N th as f0)) ([.ref mo, .int f0] : List Value).toArray s (⟨3, 0, 0, 88⟩ : Room).cells (⟨3, 0, 0, 88⟩ : Room).slots (FM mo)) (F0 m 17 ls []) := by
    intro i u hi ei hu hs1 n
    induction n with
    | zero => intro k H locs S1 ct1 ls h1 h2; omega
    | succ n ih =>
      intro k H locs S1 ct1 ls hn hk hw hP1 ra rc hl
      refine pb_blk B.hx B.hb (lv' := [(2, .int (nI k)), (0, .ref mo)]) (st' := [.int 4, .int (nI k)]) hl bkX6_integral_17_19 rfl (fun ls hl => ?_)
      refine lv_icmp_ge (tgt := 73) B.hx B.hb dX6_integral_19 (by decide) (fun h1 => ?_) (fun h1 => ?_)
      · have e4 : k = 4 := by have := nI_nlt_le (show 4 < 2 ^ 31 by decide) (k2_nlt h1); omega
        rw [e4] at ra
        refine pb_blk B.hx B.hb (lv' := [(2, .int (nI k)), (0, .ref mo)]) (st' := [.int 3, .ref mo]) hl bkX6_integral_73_75 rfl (fun ls hl => ?_)
        rw [show (3 : Int32) = nI 3 from rfl]
        refine m_callV B hw (c_X6_keep l G mo S1 ct1 N th as 3 (ir u 4) hP1 ra) cy_X6_keep im_X6_keep se_X6_keep wd_M_X6_104 rfl hl.1 rfl (Nat.le_of_ble_eq_true rfl) ⟨by decide, by decide⟩ ⟨rfl, rfl⟩ ⟨Nat.le_refl _, Nat.le_refl _⟩ dX6_integral_75 (fun v H locs Sd ctd hw_39 hv => ?_)
        have hk0 := hv
        have hw := hw_39
        have hk : MkK N th as (R_integral N th f0) v Sd ctd := by
          by_cases hd : u 3 = 0
          · exact (kp_of (w := asl u 4) hP1 (by decide) hk0 (fun k hk => by show (if _ then _ else _) = (if _ then _ else _); by_cases q : 1 ≤ k; rw [if_pos ⟨q, by omega⟩, if_pos ⟨q, hk⟩, ext_lo (by omega)]; rw [if_neg (fun h => q h.1), if_neg (fun h => q h.1)]) (fun m g1 g2 => by show (if _ then _ else _) = _; by_cases q : m = 4; rw [if_pos ⟨by omega, by omega⟩, q]; show ext u 3 * inv 4 = 0; rw [ext_lo (by decide), hd, Rat.zero_mul]; rw [if_neg (by omega)])).mono (fun c t h => Or.inr ⟨i, hi, ei, Or.inr ⟨u, hu, Or.inr ⟨dgI_3.mpr hd, h⟩⟩⟩)
          · obtain ⟨b1, b2, b3, b4⟩ := kp_big (m := 4) hP1 (by decide) hk0 (by decide) (by decide) (by show (if 1 ≤ 4 ∧ 4 ≤ 4 then ext u 3 * inv 4 else 0) ≠ 0; rw [if_pos (by decide), ext_lo (by decide)]; exact fun q => (Rat.mul_eq_zero.mp q).elim hd (by decide +kernel))
            exact ⟨3, .inl (fun _ => 0), Or.inr ⟨i, hi, ei, Or.inr ⟨u, hu, Or.inl ⟨rfl, fun q => hd (dgI_3.mp q)⟩⟩⟩, b1, Or.inr ⟨b2, b3, b4⟩⟩
        obtain ⟨c9, t9, g1, g2, g3⟩ := hk
        have hval : ∃ r, v = some (.int r) := by rcases g3 with ⟨-, e9, -⟩ | ⟨-, ⟨r9, e9⟩, -⟩; exact ⟨_, e9⟩; exact ⟨_, e9⟩
        obtain ⟨r9, rfl⟩ := hval
        exact m_iret (v := r9) B hw dX6_integral_78 (by exact ⟨c9, t9, g1, g2, g3⟩) (Nat.le_of_ble_eq_true rfl) (Nat.le_of_ble_eq_true rfl)
      · have hk4 : k < 4 := (nI_ltI (by omega) (by decide)).mp (k2_lt h1)
        have hmu := Sm.mul (hs1 k hk4) (sm_i1 hk4)
        obtain ⟨p2, d2, b1, b2, b3⟩ := rc k (by omega)
        rw [ext_lo hk4] at b3
        refine pb_blk B.hx B.hb (lv' := [(2, .int (nI k)), (0, .ref mo)]) (st' := [.ref mo, .ref mo]) hl bkX6_integral_22_24 rfl (fun ls hl => ?_)
        refine m_get B hw 11 (by decide) wd_F_X6_39 rfl dX6_integral_24 ?_
        refine pb_blk B.hx B.hb (lv' := [(2, .int (nI k)), (0, .ref mo)]) (st' := [.int (nI k), .ref (mo + 10), .ref mo]) hl bkX6_integral_27_28 rfl (fun ls hl => ?_)
        refine m_lald B hw 10 (by decide) (by decide) rfl (vp_in_nI (show k < 10 by omega) (by decide)) (v := .long p2) (by rw [nI_clamp (by omega)]; exact b1) dX6_integral_28 ?_
        refine pb_blk B.hx B.hb (lv' := [(2, .int (nI k)), (0, .ref mo)]) (st' := [.ref mo, .long p2, .ref mo]) hl bkX6_integral_29_30 rfl (fun ls hl => ?_)
        refine m_get B hw 12 (by decide) wd_F_X6_42 rfl dX6_integral_30 ?_
        refine pb_blk B.hx B.hb (lv' := [(2, .int (nI k)), (0, .ref mo)]) (st' := [.int (nI k), .ref (mo + 11), .long p2, .ref mo]) hl bkX6_integral_33_34 rfl (fun ls hl => ?_)
        refine m_lald B hw 11 (by decide) (by decide) rfl (vp_in_nI (show k < 10 by omega) (by decide)) (v := .long d2) (by rw [nI_clamp (by omega)]; exact b2) dX6_integral_34 ?_
        refine pb_blk B.hx B.hb (lv' := [(2, .int (nI k)), (0, .ref mo)]) (st' := [.long (((nI k)).toInt64 + 1), .long 1, .long d2, .long p2, .ref mo]) hl bkX6_integral_35_40 rfl (fun ls hl => ?_)
        refine m_callV B hw (c_X6_product l G mo S1 ct1 p2 d2 1 ((nI k).toInt64 + 1) (u k) (inv (k + 1)) b3 (frx_i1 hk4) hmu.1 hmu.2 (hs1 k hk4).lt62 (sm_i1 hk4).lt62) cy_X6_product im_X6_product se_X6_product wd_M_X6_132 rfl hl.1 rfl (Nat.le_of_ble_eq_true rfl) ⟨by decide, by decide⟩ ⟨rfl, rfl⟩ ⟨Nat.le_refl _, Nat.le_refl _⟩ dX6_integral_40 (fun v H locs Sb ctb hw_40 hv => ?_)
        obtain ⟨rfl, rfl, n, d, rfl, hf⟩ := hv
        have hw := hw_40
        refine pb_blk B.hx B.hb (lv' := [(2, .int (nI k)), (0, .ref mo)]) (st' := [.ref mo]) hl bkX6_integral_43_44 rfl (fun ls hl => ?_)
        refine m_get B hw 9 (by decide) wd_F_X6_33 rfl dX6_integral_44 ?_
        refine pb_blk B.hx B.hb (lv' := [(2, .int (nI k)), (0, .ref mo)]) (st' := [.ref mo, .int ((nI k) + 1), .ref (mo + 8)]) hl bkX6_integral_47_51 rfl (fun ls hl => ?_)
        refine m_get B hw 13 (by decide) wd_F_X6_71 (congrArg some (show _ = Value.long n from rfl)) dX6_integral_51 ?_
        rw [nI_1]
        refine m_last B hw 8 (by decide) (by decide) rfl (vp_in_nI (show k + 1 < 10 by omega) (by decide)) dX6_integral_54 (fun H locs hw => ?_)
        rw [nI_clamp (show k + 1 < 2 ^ 31 by omega)] at hw
        refine pb_blk B.hx B.hb (lv' := [(2, .int (nI k)), (0, .ref mo)]) (st' := [.ref mo]) hl bkX6_integral_55_56 rfl (fun ls hl => ?_)
        refine m_get B hw 10 (by decide) wd_F_X6_36 rfl dX6_integral_56 ?_
        refine pb_blk B.hx B.hb (lv' := [(2, .int (nI k)), (0, .ref mo)]) (st' := [.ref mo, .int ((nI k) + 1), .ref (mo + 9)]) hl bkX6_integral_59_63 rfl (fun ls hl => ?_)
        refine m_get B hw 14 (by decide) wd_F_X6_75 (congrArg some (show _ = Value.long d from rfl)) dX6_integral_63 ?_
        rw [nI_1]
        refine m_last B hw 9 (by decide) (by decide) rfl (vp_in_nI (show k + 1 < 10 by omega) (by decide)) dX6_integral_66 (fun H locs hw => ?_)
        rw [nI_clamp (show k + 1 < 2 ^ 31 by omega)] at hw
        refine pb_blk B.hx B.hb (lv' := [(2, .int ((nI k) + 1)), (0, .ref mo)]) (st' := []) hl bkX6_integral_67_17 rfl (fun ls hl => ?_)
        exact ih (k + 1) _ _ _ _ ls (by omega) hk4 hw (hP1.ag rfl (Ag.hi (fun a g1 g2 => oth2 (by omega) (by omega)))) (row_put (by decide) ra (by show Frx n d (if 1 ≤ k + 1 ∧ k + 1 ≤ k + 1 then ext u (k + 1 - 1) * inv (k + 1) else 0); rw [if_pos ⟨by omega, by omega⟩, Nat.add_sub_cancel, ext_lo hk4]; exact hf) (fun j _ hj => by show (if _ then _ else _) = (if _ then _ else _); by_cases q : 1 ≤ j ∧ j ≤ k; rw [if_pos q, if_pos ⟨q.1, by omega⟩]; rw [if_neg q, if_neg (fun h => q ⟨h.1, by omega⟩)])) (rc.cg (oth2 (by decide) (by decide)) (oth2 (by decide) (by decide))) (by rw [← nI_1]; exact lv_sub hl [0, 1] rfl)
  refine pb_blk B.hx B.hb (lv' := [(0, .ref mo), (1, .int f0)]) (st' := [.int f0, .int f0, .ref mo]) hl bkX6_integral_0_3 rfl (fun ls hl => ?_)
  refine m_callV B hw (c_X6_are l G mo S ct N th as f0 f0 hP) cy_X6_are im_X6_are se_X6_are wd_M_X6_118 rfl hl.1 rfl (Nat.le_of_ble_eq_true rfl) ⟨by decide, by decide⟩ ⟨rfl, rfl⟩ ⟨Nat.le_refl _, Nat.le_refl _⟩ dX6_integral_3 (fun v H locs Sa cta hw_37 hv => ?_)
  have har := hv
  have hw := hw_37
  rcases har with ⟨rfl, hc, hbad⟩ | ⟨rfl, rfl, i, j, u, u2, hi, hj, ei, ej, hu, hu2, r1, r2, o1⟩
  · refine lv_if_ne (tgt := 11) B.hx B.hb dX6_integral_6 (by decide) (fun h => absurd h (by decide)) (fun _ => ?_)
    refine pb_blk B.hx B.hb (lv' := [(0, .ref mo), (1, .int f0)]) (st' := [.int 0]) hl bkX6_integral_9_10 rfl (fun ls hl => ?_)
    exact m_iret (v := 0) B hw dX6_integral_10 (by exact arf_bad1 hP hbad hc) (Nat.le_of_ble_eq_true rfl) (Nat.le_of_ble_eq_true rfl)
  · refine lv_if_ne (tgt := 11) B.hx B.hb dX6_integral_6 (by decide) (fun _ => ?_) (fun h => absurd h (by decide))
    have hN := hP.1
    have hPa : Pst N th as (va_up S 0 (.int 0)) cta := hP.ag rfl (Ag.hi (fun a g1 g2 => o1 a (by omega)))
    have eij : i = j := (nI_eq (by omega) (by omega)).mp (ei.symm.trans ej)
    subst eij
    have e12 : u = u2 := Sum.inl.inj (hu.symm.trans hu2)
    subst e12
    have hs1 := hB.1 i hi u hu
    refine pb_blk B.hx B.hb (lv' := [(0, .ref mo), (1, .int f0)]) (st' := [.ref mo]) hl bkX6_integral_11_12 rfl (fun ls hl => ?_)
    refine m_callV B hw (c_X6_clear l G mo _ cta) cy_X6_clear im_X6_clear se_X6_clear wd_M_X6_101 rfl hl.1 rfl (Nat.le_of_ble_eq_true rfl) ⟨by decide, by decide⟩ ⟨rfl, rfl⟩ ⟨Nat.le_refl _, Nat.le_refl _⟩ dX6_integral_12 (fun v H locs Sb ctb hw_38 hv => ?_)
    obtain ⟨rfl, rfl, rz, oz⟩ := hv
    have hw := hw_38
    refine pb_blk B.hx B.hb (lv' := [(2, .int 0), (0, .ref mo), (1, .int f0)]) (st' := []) hl bkX6_integral_15_17 rfl (fun ls hl => ?_)
    exact loop i u hi ei hu hs1 5 0 _ _ _ ctb ls (by omega) (by omega) hw (hPa.ag rfl (Ag.hi (fun a g1 g2 => oz a (by omega) (by omega)))) (rz.eq (fun j _ => by show (0 : Rat) = if _ then _ else _; rw [if_neg (by omega)])) (r2.cg (oz 10 (by decide) (by decide)) (oz 11 (by decide) (by decide))) (lv_sub hl [0, 1] rfl)

