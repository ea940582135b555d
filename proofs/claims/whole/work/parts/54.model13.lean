def lc (u : Nat → Rat) : Nat → Nat
  | 0 => 1
  | k + 1 => Nat.lcm (lc u k) (u k).den
theorem lc_pos (u : Nat → Rat) : ∀ k, 0 < lc u k
  | 0 => Nat.zero_lt_one
  | k + 1 => Nat.lcm_pos (lc_pos u k) (u k).den_pos
theorem lc_le {u : Nat → Rat} (hs : ∀ k, k < 4 → Sm (u k)) : ∀ k, k ≤ 3 → lc u k ≤ 60 ^ k
  | 0, _ => Nat.le_refl _
  | k + 1, h => by
    have h1 := lc_le hs k (by omega)
    have h2 : lc u (k + 1) ≤ lc u k * (u k).den := Nat.le_of_dvd (Nat.mul_pos (lc_pos u k) (u k).den_pos) (Nat.lcm_dvd_mul _ _)
    exact Nat.le_trans h2 (Nat.mul_le_mul h1 (hs k (by omega)).2)
theorem lc_d0 (u : Nat → Rat) : (u 0).den ∣ lc u 3 := Nat.dvd_trans (Nat.dvd_lcm_right _ _) (Nat.dvd_trans (Nat.dvd_lcm_left (lc u 1) (u 1).den) (Nat.dvd_lcm_left (lc u 2) (u 2).den))
theorem lc_d1 (u : Nat → Rat) : (u 1).den ∣ lc u 3 := Nat.dvd_trans (Nat.dvd_lcm_right (lc u 1) (u 1).den) (Nat.dvd_lcm_left (lc u 2) (u 2).den)
theorem lc_d2 (u : Nat → Rat) : (u 2).den ∣ lc u 3 := Nat.dvd_lcm_right (lc u 2) (u 2).den
theorem lc_3 {u : Nat → Rat} (hs : ∀ k, k < 4 → Sm (u k)) : lc u 3 ≤ 216000 := lc_le hs 3 (by decide)
theorem lc_b {u : Nat → Rat} (hs : ∀ k, k < 4 → Sm (u k)) {k : Nat} (hk : k ≤ 3) : lc u k ≤ 216000 := Nat.le_trans (lc_le hs k hk) (Nat.pow_le_pow_right (by decide) hk)
theorem lc_st {u : Nat → Rat} {k : Nat} {b g : Int64} (hs : ∀ k, k < 4 → Sm (u k)) (hk : k < 3) (hb : b.toInt = ((u k).den : Int)) (hg : g = lN (Nat.gcd (lN (lc u k)).toInt.natAbs b.toInt.natAbs)) : ¬ g = 0 ∧ lN (lc u k) / g * b = lN (lc u (k + 1)) := by
  have h0 := lc_pos u k
  have h1 := lc_b hs (show k ≤ 3 by omega)
  have h2 := lc_b hs (show k + 1 ≤ 3 by omega)
  have d0 := (u k).den_pos
  have d1 := (hs k (by omega)).2
  have e1 : (lN (lc u k)).toInt = (lc u k : Int) := pk_lT (by omega)
  rw [e1, hb, Int.natAbs_natCast, Int.natAbs_natCast] at hg
  have g0 : 0 < Nat.gcd (lc u k) (u k).den := Nat.gcd_pos_of_pos_right _ d0
  have g1 := Nat.gcd_le_right (lc u k) d0
  have gd := Nat.gcd_dvd_left (lc u k) (u k).den
  have hgi : g.toInt = (Nat.gcd (lc u k) (u k).den : Int) := by rw [hg]; exact pk_lT (by omega)
  refine ⟨by rw [hg]; exact lN_ne0 (by omega) (by omega), ?_⟩
  obtain ⟨y, hy⟩ := gd
  have e2 : lc u (k + 1) = y * (u k).den := by
    show Nat.lcm (lc u k) (u k).den = _
    unfold Nat.lcm
    have e3 : lc u k * (u k).den = Nat.gcd (lc u k) (u k).den * (y * (u k).den) := by rw [← Nat.mul_assoc, ← hy]
    rw [e3, Nat.mul_div_cancel_left _ g0]
  obtain ⟨y2, f1, f2⟩ := i64_dd (x := lN (lc u k)) hgi g0 (by rw [e1]; exact Int.natCast_dvd_natCast.mpr (Nat.gcd_dvd_left _ _))
  have ey : y2 = (y : Int) := by
    rw [e1] at f1
    have f3 : (lc u k : Int) = (Nat.gcd (lc u k) (u k).den : Int) * (y : Int) := by rw [← Int.natCast_mul, ← hy]
    exact Int.eq_of_mul_eq_mul_left (by omega) (f1.symm.trans f3)
  apply i64_eq
  have hyb : (y : Int) * ((u k).den : Int) ≤ 216000 := by rw [← Int.natCast_mul, ← e2]; omega
  have hyn : (0 : Int) ≤ (y : Int) * ((u k).den : Int) := Int.mul_nonneg (by omega) (by omega)
  rw [pk_lT (by omega), Kit.i64_mul (by rw [f2, ey, hb]; omega) (by rw [f2, ey, hb]; omega), f2, ey, hb, e2, Int.natCast_mul]
theorem tl_n {p b : Int64} {r : Rat} {L : Nat} (h : Frx p b r) (hs : Sm r) (hd : r.den ∣ L) (h0 : 0 < L) (hL : L ≤ 216000) : ¬ b = 0 ∧ -12960000 ≤ (p * (lN L / b)).toInt ∧ (p * (lN L / b)).toInt ≤ 12960000 ∧ (((p * (lN L / b)).toInt : Int) : Rat) = r * ((L : Int) : Rat) := by
  obtain ⟨b1, b2, b3, b4⟩ := sm_nat h hs
  have hb0 : ¬ b = 0 := fun e => by rw [e] at b3; exact absurd b3 (by decide)
  have eL : (lN L).toInt = (L : Int) := pk_lT (by omega)
  obtain ⟨y, e1, e2⟩ := i64_dd (x := lN L) (g := b) (k := r.den) h.2 r.den_pos (by rw [eL]; exact Int.natCast_dvd_natCast.mpr hd)
  rw [eL] at e1
  have hr := r.den_pos
  have y0 : 0 ≤ y := by
    rcases Int.lt_trichotomy y 0 with q | q | q
    · have := Int.mul_neg_of_pos_of_neg (show (0 : Int) < r.den by omega) q
      omega
    · omega
    · omega
  have y1 : y ≤ 216000 := by
    have := Int.mul_le_mul_of_nonneg_right (show (1 : Int) ≤ r.den by omega) y0
    omega
  have m := mul_b (a := p.toInt) (b := y) (A := 60) (B := 216000) ⟨b1, b2⟩ ⟨by omega, y1⟩
  have e3 : (p * (lN L / b)).toInt = p.toInt * y := by rw [Kit.i64_mul (by rw [e2]; omega) (by rw [e2]; omega), e2]
  refine ⟨hb0, by rw [e3]; omega, by rw [e3]; omega, ?_⟩
  rw [e3, h.1, Rat.intCast_mul, rat_nd r, e1, Rat.intCast_mul]
  exact Rat.mul_assoc _ _ _
theorem inn2 {a b c i : Int64} (ha : -12960000 ≤ a.toInt ∧ a.toInt ≤ 12960000) (hb : -12960000 ≤ b.toInt ∧ b.toInt ≤ 12960000) (hc : -12960000 ≤ c.toInt ∧ c.toInt ≤ 12960000) (hi : i = b * b - 4 * a * c) : i.toInt = b.toInt * b.toInt - 4 * a.toInt * c.toInt ∧ -839808000000000 ≤ i.toInt ∧ i.toInt ≤ 839808000000000 := by
  have h1 := mul_b (A := 12960000) (B := 12960000) hb hb
  have h2 := mul_b (a := 4 * a.toInt) (A := 51840000) (B := 12960000) (by omega) hc
  have e1 : (b * b).toInt = b.toInt * b.toInt := Kit.i64_mul (by omega) (by omega)
  have e4 : (4 : Int64).toInt = 4 := rfl
  have e2 : (4 * a).toInt = 4 * a.toInt := by rw [Kit.i64_mul (by rw [e4]; omega) (by rw [e4]; omega), e4]
  have e3 : (4 * a * c).toInt = 4 * a.toInt * c.toInt := by rw [Kit.i64_mul (by rw [e2]; omega) (by rw [e2]; omega), e2]
  have e5 : i.toInt = b.toInt * b.toInt - 4 * a.toInt * c.toInt := by rw [hi, Kit.i64_sub (by rw [e1, e3]; omega) (by rw [e1, e3]; omega), e1, e3]
  rw [e5]
  exact ⟨rfl, by omega, by omega⟩
theorem tl_i {P Q R L : Int} {u : Nat → Rat} (hp : (P : Rat) = u 2 * (L : Rat)) (hq : (Q : Rat) = u 1 * (L : Rat)) (hr : (R : Rat) = u 0 * (L : Rat)) : ((Q * Q - 4 * P * R : Int) : Rat) = (L : Rat) * (L : Rat) * disc u := by
  unfold disc
  rw [Rat.intCast_sub, Rat.intCast_mul, Rat.intCast_mul, Rat.intCast_mul, hp, hq, hr]
  have h4 : ((4 : Int) : Rat) = 4 := rfl
  rw [h4]
  grind
theorem tl_neg {I L : Int} {d : Rat} (hL : 0 < L) (h : (I : Rat) = (L : Rat) * (L : Rat) * d) : I < 0 ↔ d < 0 := by
  have h1 : (0 : Rat) < (L : Rat) := Rat.intCast_pos.mpr hL
  rw [← Rat.intCast_neg_iff, h, Rat.mul_neg_iff_of_pos_left (Rat.mul_pos h1 h1)]
theorem sqy {b : Int64} {r : Nat} {B : Int} (hb : b.toInt = B) (hB : -12960000 ≤ B ∧ B ≤ 12960000) (hr : r < 2 ^ 25) : (-b - lN r).toInt = -B - (r : Int) ∧ (-b + lN r).toInt = -B + (r : Int) := by
  have e2 : (lN r).toInt = (r : Int) := pk_lT (by omega)
  have e4 : (-b).toInt = -B := by rw [Kit.i64_neg (by omega), hb]
  refine ⟨?_, ?_⟩
  · rw [Kit.i64_sub (by rw [e2, e4]; omega) (by rw [e2, e4]; omega), e2, e4]
  · rw [Kit.i64_add (by rw [e2, e4]; omega) (by rw [e2, e4]; omega), e2, e4]
theorem two_b {a : Int64} (ha : -12960000 ≤ a.toInt ∧ a.toInt ≤ 12960000) : (2 * a).toInt = 2 * a.toInt := by
  have e9 : (2 : Int64).toInt = 2 := rfl
  rw [Kit.i64_mul (by rw [e9]; omega) (by rw [e9]; omega), e9]
theorem sgZ_rat {r : Rat} (h : r ≠ 0) : (0 < r ∧ sgZ r.num = 1) ∨ (r < 0 ∧ sgZ r.num = -1) := by
  have h0 : r.num ≠ 0 := fun e => h (Rat.num_eq_zero.mp e)
  unfold sgZ
  rcases Int.lt_trichotomy r.num 0 with q | q | q
  · exact Or.inr ⟨Rat.not_le.mp (fun g => absurd (Rat.num_nonneg.mpr g) (by omega)), by rw [if_neg (by omega), if_pos q]⟩
  · exact absurd q h0
  · exact Or.inl ⟨Rat.lt_of_le_of_ne (Rat.num_nonneg.mp (by omega)) (Ne.symm h), by rw [if_pos q]⟩
theorem pl_lt {u : Nat → Rat} {r : Rat} (h2 : u 2 ≠ 0) (hr : 0 < r) : pl1 u r < pl2 u r := by
  have key : ∀ s k : Rat, k = s * (u 2)⁻¹ → (-u 1 + s * r) / (2 * u 2) = (-u 1 - s * r) / (2 * u 2) + r * k := by
    intro s k hk
    grind
  unfold pl1 pl2
  rcases sgZ_rat h2 with ⟨q, e⟩ | ⟨q, e⟩
  · rw [e, key _ _ rfl]
    have h9 : (((1 : Int32).toInt : Int) : Rat) * (u 2)⁻¹ = (u 2)⁻¹ := by rw [show (((1 : Int32).toInt : Int) : Rat) = 1 from rfl]; grind
    rw [h9]
    have := Rat.mul_pos hr (Rat.inv_pos.mpr q)
    grind
  · rw [e, key _ _ rfl]
    have h9 : (((-1 : Int32).toInt : Int) : Rat) * (u 2)⁻¹ = (-u 2)⁻¹ := by rw [show (((-1 : Int32).toInt : Int) : Rat) = -1 from rfl]; grind
    rw [h9]
    have := Rat.mul_pos hr (Rat.inv_pos.mpr (show 0 < -u 2 by grind))
    grind
theorem dgI_m {u : Nat → Rat} (h : dgI u = -1) : u 0 = 0 := by
  unfold dgI at h
  by_cases h3 : u 3 ≠ 0
  · rw [if_pos h3] at h; exact absurd h (by decide)
  · rw [if_neg h3] at h
    by_cases h2 : u 2 ≠ 0
    · rw [if_pos h2] at h; exact absurd h (by decide)
    · rw [if_neg h2] at h
      by_cases h1 : u 1 ≠ 0
      · rw [if_pos h1] at h; exact absurd h (by decide)
      · rw [if_neg h1] at h
        by_cases h0 : u 0 ≠ 0
        · rw [if_pos h0] at h; exact absurd h (by decide)
        · exact Decidable.not_not.mp h0
/-- the answers that stand in the rows, and what they tell -/
def AnsR (j : Nat) (be : Int32) (A : Nat → Rat) (n : Nat) (pt : Nat → Rat) (sg : Nat → Int32) : Prop := (j = 0 ∧ n = 0 ∧ sg = fun _ => be) ∨ (j = 1 ∧ n = 1 ∧ pt 0 = A 0 ∧ sg = sl3 be) ∨ (j = 2 ∧ n = 1 ∧ A 0 = A 1 ∧ pt 0 = A 0 ∧ sg = sq3 be) ∨ (j = 2 ∧ n = 2 ∧ A 0 < A 1 ∧ pt 0 = A 0 ∧ pt 1 = A 1 ∧ sg = sq5 be)
def Tl (u : Nat → Rat) (S : Sc) (ct : Ct) : Prop := ∃ (j : Nat) (be : Int32) (A : Nat → Rat) (n : Nat) (pt : Nat → Rat) (sg : Nat → Int32), S 15 = .int (nI j) ∧ S 18 = .int be ∧ RwL ct 12 13 j A ∧ TellR u n pt sg ∧ AnsR j be A n pt sg
theorem tl_1 {P Q L : Int} {a b : Rat} (hL : (L : Rat) ≠ 0) (hb : b ≠ 0) (hp : (P : Rat) = a * (L : Rat)) (hq : (Q : Rat) = b * (L : Rat)) : Rat.divInt (-P) Q = -a / b := by
  rw [Rat.divInt_eq_div, Rat.intCast_neg, hp, hq]
  grind
theorem RwL.two {ct : Ct} {n1 d1 n2 d2 : Int64} {a b : Rat} (h1 : Frx n1 d1 a) (h2 : Frx n2 d2 b) (e1 : ct 12 0 = .long n1) (e2 : ct 13 0 = .long d1) (e3 : ct 12 1 = .long n2) (e4 : ct 13 1 = .long d2) : RwL ct 12 13 2 (fun k => if k = 0 then a else b) := by
  intro i hi
  rcases (show i = 0 ∨ i = 1 by omega) with rfl | rfl
  · exact ⟨n1, d1, e1, e2, h1⟩
  · exact ⟨n2, d2, e3, e4, h2⟩
theorem pl_00 (u : Nat → Rat) {r : Rat} (h : r = 0) : pl1 u r = pl2 u r := by
  unfold pl1 pl2
  rw [h]
  grind

theorem tl_sg {P L : Int} {r : Rat} (h : r ≠ 0) (hL : 0 < L) (e : (P : Rat) = r * (L : Rat)) {s : Int32} (hs : (0 < P ∧ s = 1) ∨ (P < 0 ∧ s = -1)) : sgZ r.num = s := by
  have h1 : (0 : Rat) < (L : Rat) := Rat.intCast_pos.mpr hL
  rcases sgZ_rat h with ⟨q, e1⟩ | ⟨q, e1⟩
  · have h2 := Rat.mul_pos q h1
    rw [← e] at h2
    have h3 := Rat.intCast_pos.mp h2
    rcases hs with ⟨_, rfl⟩ | ⟨h4, _⟩
    · exact e1
    · omega
  · have h2 := (Rat.mul_neg_iff_of_pos_right (b := (L : Rat)) h1).mpr q
    rw [← e] at h2
    have h3 := Rat.intCast_neg_iff.mp h2
    rcases hs with ⟨h4, _⟩ | ⟨_, rfl⟩
    · omega
    · exact e1
theorem ans1 {ct : Ct} {n d : Int64} {a : Rat} {f g : Nat → Value} (h : Frx n d a) : RwL (va_up (va_up ct 12 (updV f 0 (.long n))) 13 (updV g 0 (.long d))) 12 13 1 (fun _ => a) := by
  intro i hi
  rcases (show i = 0 by omega) with rfl
  exact ⟨n, d, rfl, rfl, h⟩
theorem tl_fin {u : Nat → Rat} {S : Sc} {ct : Ct} {rho : Rat} (hd : dgI u = 2) (h2 : u 2 ≠ 0) (hr0 : 0 ≤ rho) (hrho : rho * rho = disc u) (e1 : S 15 = .int (nI 2)) (e2 : S 18 = .int (sgZ (u 2).num)) (h : RwL ct 12 13 2 (fun k => if k = 0 then pl1 u rho else pl2 u rho)) : Tl u S ct := by
  by_cases h0 : rho = 0
  · exact ⟨2, _, _, 1, _, _, e1, e2, h, Or.inr (Or.inr (Or.inr ⟨hd, rho, hr0, hrho, Or.inl ⟨h0, rfl, rfl, rfl⟩⟩)), Or.inr (Or.inr (Or.inl ⟨rfl, rfl, pl_00 u h0, rfl, rfl⟩))⟩
  · exact ⟨2, _, _, 2, _, _, e1, e2, h, Or.inr (Or.inr (Or.inr ⟨hd, rho, hr0, hrho, Or.inr ⟨h0, rfl, rfl, rfl⟩⟩)), Or.inr (Or.inr (Or.inr ⟨rfl, rfl, pl_lt h2 (Rat.lt_of_le_of_ne hr0 (Ne.symm h0)), rfl, rfl, rfl⟩))⟩

def po_X6_tells (mo : Nat) (S : Sc) (ct : Ct) (N : Nat) (th : Nat → Th) (as : St3) (i : Nat) (u : Nat → Rat) : Option Value → Sc → Ct → Prop := fun v S2 ct2 => S2 0 = S 0 ∧ S2 1 = S 1 ∧ (∀ a, a ≠ 8 → a ≠ 9 → a ≠ 12 → a ≠ 13 → ct2 a = ct a) ∧ ((v = some (.int 0) ∧ NoTell u) ∨ (v = some (.int 1) ∧ Tl u S2 ct2))
theorem bkX6_tells_0_2 : pb_chk cX6_tells 0 [.aload_n 0, .aload_n 0] = some 2 := by decide +kernel
theorem dX6_tells_2 : decode cX6_tells 2 = .ok (.getfield 33, 3) := by decide +kernel
theorem bkX6_tells_5_6 : pb_chk cX6_tells 5 [.aload_n 0] = some 6 := by decide +kernel
theorem dX6_tells_6 : decode cX6_tells 6 = .ok (.getfield 36, 3) := by decide +kernel
theorem bkX6_tells_9_10 : pb_chk cX6_tells 9 [.iload_n 1] = some 10 := by decide +kernel
theorem dX6_tells_10 : decode cX6_tells 10 = .ok (.invokevirtual 114, 3) := by decide +kernel
theorem bkX6_tells_13_14 : pb_chk cX6_tells 13 [.aload_n 0] = some 14 := by decide +kernel
theorem dX6_tells_14 : decode cX6_tells 14 = .ok (.getfield 33, 3) := by decide +kernel
theorem dX6_tells_17 : decode cX6_tells 17 = .ok (.invokestatic 89, 3) := by decide +kernel
theorem bkX6_tells_20_23 : pb_chk cX6_tells 20 [.istore_n 2, .aload_n 0, .iconst 0] = some 23 := by decide +kernel
theorem dX6_tells_23 : decode cX6_tells 23 = .ok (.putfield 138, 3) := by decide +kernel
theorem bkX6_tells_26_28 : pb_chk cX6_tells 26 [.aload_n 0, .iload_n 2] = some 28 := by decide +kernel
theorem dX6_tells_28 : decode cX6_tells 28 = .ok (.ifCond .ge 7, 3) := by decide +kernel
theorem bkX6_tells_35_36 : pb_chk cX6_tells 35 [.aload_n 0] = some 36 := by decide +kernel
theorem dX6_tells_36 : decode cX6_tells 36 = .ok (.getfield 33, 3) := by decide +kernel
theorem bkX6_tells_39_40 : pb_chk cX6_tells 39 [.iload_n 2] = some 40 := by decide +kernel
theorem dX6_tells_40 : decode cX6_tells 40 = .ok (.laload, 1) := by decide +kernel
theorem dX6_tells_41 : decode cX6_tells 41 = .ok (.invokestatic 141, 3) := by decide +kernel
theorem dX6_tells_44 : decode cX6_tells 44 = .ok (.putfield 145, 3) := by decide +kernel
theorem bkX6_tells_47_49 : pb_chk cX6_tells 47 [.iload_n 2, .iconst 2] = some 49 := by decide +kernel
theorem dX6_tells_49 : decode cX6_tells 49 = .ok (.if_icmp .le 5, 3) := by decide +kernel
theorem bkX6_tells_52_53 : pb_chk cX6_tells 52 [.iconst 0] = some 53 := by decide +kernel
theorem dX6_tells_53 : decode cX6_tells 53 = .ok (.ireturn, 1) := by decide +kernel
theorem bkX6_tells_54_56 : pb_chk cX6_tells 54 [.iload_n 2, .iconst 1] = some 56 := by decide +kernel
theorem dX6_tells_56 : decode cX6_tells 56 = .ok (.if_icmp .ge 5, 3) := by decide +kernel
theorem bkX6_tells_61_66 : pb_chk cX6_tells 61 [.lconst 1, .lstore_n 3, .iconst 0, .istore 5] = some 66 := by decide +kernel
theorem bkX6_tells_66_69 : pb_chk cX6_tells 66 [.iload 5, .iconst 3] = some 69 := by decide +kernel
theorem dX6_tells_69 : decode cX6_tells 69 = .ok (.if_icmp .ge 31, 3) := by decide +kernel
theorem bkX6_tells_72_75 : pb_chk cX6_tells 72 [.lload_n 3, .lload_n 3, .aload_n 0] = some 75 := by decide +kernel
theorem dX6_tells_75 : decode cX6_tells 75 = .ok (.getfield 36, 3) := by decide +kernel
theorem bkX6_tells_78_80 : pb_chk cX6_tells 78 [.iload 5] = some 80 := by decide +kernel
theorem dX6_tells_80 : decode cX6_tells 80 = .ok (.laload, 1) := by decide +kernel
theorem dX6_tells_81 : decode cX6_tells 81 = .ok (.invokestatic 67, 3) := by decide +kernel
theorem dX6_tells_84 : decode cX6_tells 84 = .ok (.ldiv, 1) := by decide +kernel
theorem bkX6_tells_85_86 : pb_chk cX6_tells 85 [.aload_n 0] = some 86 := by decide +kernel
theorem dX6_tells_86 : decode cX6_tells 86 = .ok (.getfield 36, 3) := by decide +kernel
theorem bkX6_tells_89_91 : pb_chk cX6_tells 89 [.iload 5] = some 91 := by decide +kernel
theorem dX6_tells_91 : decode cX6_tells 91 = .ok (.laload, 1) := by decide +kernel
theorem bkX6_tells_92_93 : pb_chk cX6_tells 92 [.lmul] = some 93 := by decide +kernel
theorem bkX6_tells_93_66 : pb_chk cX6_tells 93 [.lstore_n 3, .iinc 5 1, .goto (-31)] = some 66 := by decide +kernel
theorem bkX6_tells_100_101 : pb_chk cX6_tells 100 [.aload_n 0] = some 101 := by decide +kernel
theorem dX6_tells_101 : decode cX6_tells 101 = .ok (.getfield 33, 3) := by decide +kernel
theorem bkX6_tells_104_105 : pb_chk cX6_tells 104 [.iconst 2] = some 105 := by decide +kernel
theorem dX6_tells_105 : decode cX6_tells 105 = .ok (.laload, 1) := by decide +kernel
theorem bkX6_tells_106_108 : pb_chk cX6_tells 106 [.lload_n 3, .aload_n 0] = some 108 := by decide +kernel
theorem dX6_tells_108 : decode cX6_tells 108 = .ok (.getfield 36, 3) := by decide +kernel
theorem bkX6_tells_111_112 : pb_chk cX6_tells 111 [.iconst 2] = some 112 := by decide +kernel
theorem dX6_tells_112 : decode cX6_tells 112 = .ok (.laload, 1) := by decide +kernel
theorem dX6_tells_113 : decode cX6_tells 113 = .ok (.ldiv, 1) := by decide +kernel
theorem bkX6_tells_114_115 : pb_chk cX6_tells 114 [.lmul] = some 115 := by decide +kernel
theorem bkX6_tells_115_118 : pb_chk cX6_tells 115 [.lstore 5, .aload_n 0] = some 118 := by decide +kernel
theorem dX6_tells_118 : decode cX6_tells 118 = .ok (.getfield 33, 3) := by decide +kernel
theorem bkX6_tells_121_122 : pb_chk cX6_tells 121 [.iconst 1] = some 122 := by decide +kernel
theorem dX6_tells_122 : decode cX6_tells 122 = .ok (.laload, 1) := by decide +kernel
theorem bkX6_tells_123_125 : pb_chk cX6_tells 123 [.lload_n 3, .aload_n 0] = some 125 := by decide +kernel
theorem dX6_tells_125 : decode cX6_tells 125 = .ok (.getfield 36, 3) := by decide +kernel
theorem bkX6_tells_128_129 : pb_chk cX6_tells 128 [.iconst 1] = some 129 := by decide +kernel
theorem dX6_tells_129 : decode cX6_tells 129 = .ok (.laload, 1) := by decide +kernel
theorem dX6_tells_130 : decode cX6_tells 130 = .ok (.ldiv, 1) := by decide +kernel
theorem bkX6_tells_131_132 : pb_chk cX6_tells 131 [.lmul] = some 132 := by decide +kernel
theorem bkX6_tells_132_135 : pb_chk cX6_tells 132 [.lstore 7, .aload_n 0] = some 135 := by decide +kernel
theorem dX6_tells_135 : decode cX6_tells 135 = .ok (.getfield 33, 3) := by decide +kernel
theorem bkX6_tells_138_139 : pb_chk cX6_tells 138 [.iconst 0] = some 139 := by decide +kernel
theorem dX6_tells_139 : decode cX6_tells 139 = .ok (.laload, 1) := by decide +kernel
theorem bkX6_tells_140_142 : pb_chk cX6_tells 140 [.lload_n 3, .aload_n 0] = some 142 := by decide +kernel
theorem dX6_tells_142 : decode cX6_tells 142 = .ok (.getfield 36, 3) := by decide +kernel
theorem bkX6_tells_145_146 : pb_chk cX6_tells 145 [.iconst 0] = some 146 := by decide +kernel
theorem dX6_tells_146 : decode cX6_tells 146 = .ok (.laload, 1) := by decide +kernel
theorem dX6_tells_147 : decode cX6_tells 147 = .ok (.ldiv, 1) := by decide +kernel
theorem bkX6_tells_148_149 : pb_chk cX6_tells 148 [.lmul] = some 149 := by decide +kernel
theorem bkX6_tells_149_153 : pb_chk cX6_tells 149 [.lstore 9, .iload_n 2, .iconst 1] = some 153 := by decide +kernel
theorem dX6_tells_153 : decode cX6_tells 153 = .ok (.if_icmp .ne 14, 3) := by decide +kernel
theorem bkX6_tells_167_172 : pb_chk cX6_tells 167 [.lload 7, .lload 7, .lmul] = some 172 := by decide +kernel
theorem dX6_tells_172 : decode cX6_tells 172 = .ok (.ldc2_w 151, 3) := by decide +kernel
theorem bkX6_tells_175_182 : pb_chk cX6_tells 175 [.lload 5, .lmul, .lload 9, .lmul, .lsub] = some 182 := by decide +kernel
theorem bkX6_tells_182_188 : pb_chk cX6_tells 182 [.lstore 11, .lload 11, .lconst 0, .lcmp] = some 188 := by decide +kernel
theorem dX6_tells_188 : decode cX6_tells 188 = .ok (.ifCond .ge 5, 3) := by decide +kernel
theorem bkX6_tells_193_195 : pb_chk cX6_tells 193 [.lload 11] = some 195 := by decide +kernel
theorem dX6_tells_195 : decode cX6_tells 195 = .ok (.invokestatic 153, 3) := by decide +kernel
theorem bkX6_tells_198_208 : pb_chk cX6_tells 198 [.lstore 13, .lload 13, .lload 13, .lmul, .lload 11, .lcmp] = some 208 := by decide +kernel
theorem dX6_tells_208 : decode cX6_tells 208 = .ok (.ifCond .eq 5, 3) := by decide +kernel
theorem bkX6_tells_213_217 : pb_chk cX6_tells 213 [.lload 5, .lconst 0, .lcmp] = some 217 := by decide +kernel
theorem dX6_tells_217 : decode cX6_tells 217 = .ok (.ifCond .le 12, 3) := by decide +kernel
theorem bkX6_tells_229_241 : pb_chk cX6_tells 229 [.lload 7, .lneg, .lload 13, .ladd, .lstore 15, .lload 5, .lconst 0, .lcmp] = some 241 := by decide +kernel
theorem dX6_tells_241 : decode cX6_tells 241 = .ok (.ifCond .le 12, 3) := by decide +kernel
theorem bkX6_tells_253_264 : pb_chk cX6_tells 253 [.lload 7, .lneg, .lload 13, .lsub, .lstore 17, .aload_n 0, .lload 15] = some 264 := by decide +kernel
theorem dX6_tells_264 : decode cX6_tells 264 = .ok (.ldc2_w 157, 3) := by decide +kernel
theorem bkX6_tells_267_270 : pb_chk cX6_tells 267 [.lload 5, .lmul] = some 270 := by decide +kernel
theorem dX6_tells_270 : decode cX6_tells 270 = .ok (.invokevirtual 148, 3) := by decide +kernel
theorem bkX6_tells_273_276 : pb_chk cX6_tells 273 [.aload_n 0, .lload 17] = some 276 := by decide +kernel
theorem dX6_tells_276 : decode cX6_tells 276 = .ok (.ldc2_w 157, 3) := by decide +kernel
theorem bkX6_tells_279_282 : pb_chk cX6_tells 279 [.lload 5, .lmul] = some 282 := by decide +kernel
theorem dX6_tells_282 : decode cX6_tells 282 = .ok (.invokevirtual 148, 3) := by decide +kernel
theorem bkX6_tells_285_286 : pb_chk cX6_tells 285 [.iconst 1] = some 286 := by decide +kernel
theorem dX6_tells_286 : decode cX6_tells 286 = .ok (.ireturn, 1) := by decide +kernel
theorem bkX6_tells_220_241 : pb_chk cX6_tells 220 [.lload 7, .lneg, .lload 13, .lsub, .goto 9, .lstore 15, .lload 5, .lconst 0, .lcmp] = some 241 := by decide +kernel
theorem bkX6_tells_244_264 : pb_chk cX6_tells 244 [.lload 7, .lneg, .lload 13, .ladd, .goto 9, .lstore 17, .aload_n 0, .lload 15] = some 264 := by decide +kernel
theorem bkX6_tells_211_212 : pb_chk cX6_tells 211 [.iconst 0] = some 212 := by decide +kernel
theorem dX6_tells_212 : decode cX6_tells 212 = .ok (.ireturn, 1) := by decide +kernel
theorem bkX6_tells_191_192 : pb_chk cX6_tells 191 [.iconst 1] = some 192 := by decide +kernel
theorem dX6_tells_192 : decode cX6_tells 192 = .ok (.ireturn, 1) := by decide +kernel
theorem bkX6_tells_156_162 : pb_chk cX6_tells 156 [.aload_n 0, .lload 9, .lneg, .lload 7] = some 162 := by decide +kernel
theorem dX6_tells_162 : decode cX6_tells 162 = .ok (.invokevirtual 148, 3) := by decide +kernel
theorem bkX6_tells_165_166 : pb_chk cX6_tells 165 [.iconst 1] = some 166 := by decide +kernel
theorem dX6_tells_166 : decode cX6_tells 166 = .ok (.ireturn, 1) := by decide +kernel
theorem bkX6_tells_59_60 : pb_chk cX6_tells 59 [.iconst 1] = some 60 := by decide +kernel
theorem dX6_tells_60 : decode cX6_tells 60 = .ok (.ireturn, 1) := by decide +kernel
theorem bkX6_tells_31_44 : pb_chk cX6_tells 31 [.iconst 0, .goto 12] = some 44 := by decide +kernel
set_option maxHeartbeats 4000000 in
set_option maxRecDepth 100000 in
theorem c_X6_tells (l : Launch) (G : Gm) (mo : Nat) (S : Sc) (ct : Ct) (N : Nat) (th : Nat → Th) (as : St3) (i : Nat) (u : Nat → Rat) (hP : Pst N th as S ct) (hi : i < N) (hu : th i = .inl u) (hs : ∀ k, k < 4 → Sm (u k)) : Mm l yX6_tells cX6_tells 19 (some .boolean) (⟨3, 0, 0, 82⟩ : Room) G mo S ct [.ref mo, .int (nI i)] (po_X6_tells mo S ct N th as i u) := by
  refine of_met (by decide) (Nat.le_of_ble_eq_true rfl) ?_
  intro p e s m below meth c ls B hA hM0 hl
  have hw := Mw.start hM0
  have hN := hP.1
  have fi := hP.2.2.1 i hi
  rw [hu] at fi
  refine pb_blk B.hx B.hb (lv' := [(0, .ref mo), (1, .int (nI i))]) (st' := [.ref mo, .ref mo]) hl bkX6_tells_0_2 rfl (fun ls hl => ?_)
  refine m_get B hw 9 (by decide) wd_F_X6_33 rfl dX6_tells_2 ?_
  refine pb_blk B.hx B.hb (lv' := [(0, .ref mo), (1, .int (nI i))]) (st' := [.ref mo, .ref (mo + 8), .ref mo]) hl bkX6_tells_5_6 rfl (fun ls hl => ?_)
  refine m_get B hw 10 (by decide) wd_F_X6_36 rfl dX6_tells_6 ?_
  refine pb_blk B.hx B.hb (lv' := [(0, .ref mo), (1, .int (nI i))]) (st' := [.int (nI i), .ref (mo + 9), .ref (mo + 8), .ref mo]) hl bkX6_tells_9_10 rfl (fun ls hl => ?_)
  refine m_callV B hw (c_X6_load l G mo _ _ 8 9 i u (by decide) (by decide) (by decide) (by decide) (by decide) (by omega) fi) cy_X6_load im_X6_load se_X6_load wd_M_X6_114 rfl hl.1 rfl (Nat.le_of_ble_eq_true rfl) ⟨by decide, by decide⟩ ⟨rfl, rfl⟩ ⟨Nat.le_refl _, Nat.le_refl _⟩ dX6_tells_10 (fun v H locs Sa cta hw_63 hv => ?_)
  obtain ⟨rfl, rfl, r1, o1⟩ := hv
  have hw := hw_63
  refine pb_blk B.hx B.hb (lv' := [(0, .ref mo), (1, .int (nI i))]) (st' := [.ref mo]) hl bkX6_tells_13_14 rfl (fun ls hl => ?_)
  refine m_get B hw 9 (by decide) wd_F_X6_33 rfl dX6_tells_14 ?_
  refine m_callS B (c_X6_high l G (fun _ => False) mo 8 9 _ _ (ext u) (by decide) (by decide) rfl rfl r1) cy_X6_high st_X6_high wd_M_X6_89 hw.1 rfl hl.1 rfl (Nat.le_of_ble_eq_true rfl) ⟨by decide, by decide⟩ ⟨rfl, rfl⟩ ⟨Nat.le_refl _, Nat.le_refl _⟩ dX6_tells_17 (fun v hv => ?_)
  rw [po_X6_high, hg_ext] at hv
  subst hv
  obtain ⟨p0, d0, a0, b0, f0⟩ := r1 0 (by decide)
  have f0 : Frx p0 d0 (u 0) := f0
  obtain ⟨p1, d1, a1, b1, f1⟩ := r1 1 (by decide)
  have f1 : Frx p1 d1 (u 1) := f1
  obtain ⟨p2, d2, a2, b2, f2⟩ := r1 2 (by decide)
  have f2 : Frx p2 d2 (u 2) := f2
  obtain ⟨p3, d3, a3, b3, f3⟩ := r1 3 (by decide)
  have f3 : Frx p3 d3 (u 3) := f3
  rcases dgI_5 u with hd | hd | hd | hd | hd
  · rw [hd]
    refine pb_blk B.hx B.hb (lv' := [(2, .int 3), (0, .ref mo), (1, .int (nI i))]) (st' := [.int 0, .ref mo]) hl bkX6_tells_20_23 rfl (fun ls hl => ?_)
    refine m_put B hw 15 (by decide) wd_F_X6_138 rfl rfl rfl rfl dX6_tells_23 (fun H locs hw => ?_)
    refine pb_blk B.hx B.hb (lv' := [(2, .int 3), (0, .ref mo), (1, .int (nI i))]) (st' := [.int 3, .ref mo]) hl bkX6_tells_26_28 rfl (fun ls hl => ?_)
    refine lv_if_ge (tgt := 35) B.hx B.hb dX6_tells_28 (by decide) (fun h1 => ?_) (fun h1 => absurd h1 (by decide))
    refine pb_blk B.hx B.hb (lv' := [(2, .int 3), (0, .ref mo), (1, .int (nI i))]) (st' := [.ref mo, .ref mo]) hl bkX6_tells_35_36 rfl (fun ls hl => ?_)
    refine m_get B hw 9 (by decide) wd_F_X6_33 rfl dX6_tells_36 ?_
    refine pb_blk B.hx B.hb (lv' := [(2, .int 3), (0, .ref mo), (1, .int (nI i))]) (st' := [.int 3, .ref (mo + 8), .ref mo]) hl bkX6_tells_39_40 rfl (fun ls hl => ?_)
    refine m_lald B hw 8 (by decide) (by decide) rfl (show vp_in (nI 3) 10 from vp_in_nI (by decide) (by decide)) (v := .long p3) (by rw [show (3 : Int32).toNatClampNeg = 3 from by decide]; exact a3) dX6_tells_40 ?_
    refine m_callS B (c_X6_signOf l G (fun _ => False) p3) cy_X6_signOf st_X6_signOf wd_M_X6_141 trivial rfl hl.1 rfl (Nat.le_of_ble_eq_true rfl) ⟨by decide, by decide⟩ ⟨rfl, rfl⟩ ⟨Nat.le_refl _, Nat.le_refl _⟩ dX6_tells_41 (fun v hv => ?_)
    rw [po_X6_signOf, f3.1] at hv
    subst hv
    refine m_put B hw 18 (by decide) wd_F_X6_145 rfl rfl rfl rfl dX6_tells_44 (fun H locs hw => ?_)
    refine pb_blk B.hx B.hb (lv' := [(2, .int 3), (0, .ref mo), (1, .int (nI i))]) (st' := [.int 2, .int 3]) hl bkX6_tells_47_49 rfl (fun ls hl => ?_)
    refine lv_icmp_le (tgt := 54) B.hx B.hb dX6_tells_49 (by decide) (fun h2 => absurd h2 (by decide)) (fun h2 => ?_)
    refine pb_blk B.hx B.hb (lv' := [(2, .int 3), (0, .ref mo), (1, .int (nI i))]) (st' := [.int 0]) hl bkX6_tells_52_53 rfl (fun ls hl => ?_)
    exact m_zret (v := 0) B hw dX6_tells_53 rfl (by exact ⟨rfl, rfl, fun a g1 g2 g3 g4 => o1 a g1 g2, Or.inl ⟨rfl, Or.inl hd⟩⟩) (Nat.le_of_ble_eq_true rfl) (Nat.le_of_ble_eq_true rfl)
  · rw [hd]
    refine pb_blk B.hx B.hb (lv' := [(2, .int 2), (0, .ref mo), (1, .int (nI i))]) (st' := [.int 0, .ref mo]) hl bkX6_tells_20_23 rfl (fun ls hl => ?_)
    refine m_put B hw 15 (by decide) wd_F_X6_138 rfl rfl rfl rfl dX6_tells_23 (fun H locs hw => ?_)
    refine pb_blk B.hx B.hb (lv' := [(2, .int 2), (0, .ref mo), (1, .int (nI i))]) (st' := [.int 2, .ref mo]) hl bkX6_tells_26_28 rfl (fun ls hl => ?_)
    refine lv_if_ge (tgt := 35) B.hx B.hb dX6_tells_28 (by decide) (fun h1 => ?_) (fun h1 => absurd h1 (by decide))
    refine pb_blk B.hx B.hb (lv' := [(2, .int 2), (0, .ref mo), (1, .int (nI i))]) (st' := [.ref mo, .ref mo]) hl bkX6_tells_35_36 rfl (fun ls hl => ?_)
    refine m_get B hw 9 (by decide) wd_F_X6_33 rfl dX6_tells_36 ?_
    refine pb_blk B.hx B.hb (lv' := [(2, .int 2), (0, .ref mo), (1, .int (nI i))]) (st' := [.int 2, .ref (mo + 8), .ref mo]) hl bkX6_tells_39_40 rfl (fun ls hl => ?_)
    refine m_lald B hw 8 (by decide) (by decide) rfl (show vp_in (nI 2) 10 from vp_in_nI (by decide) (by decide)) (v := .long p2) (by rw [show (2 : Int32).toNatClampNeg = 2 from by decide]; exact a2) dX6_tells_40 ?_
    refine m_callS B (c_X6_signOf l G (fun _ => False) p2) cy_X6_signOf st_X6_signOf wd_M_X6_141 trivial rfl hl.1 rfl (Nat.le_of_ble_eq_true rfl) ⟨by decide, by decide⟩ ⟨rfl, rfl⟩ ⟨Nat.le_refl _, Nat.le_refl _⟩ dX6_tells_41 (fun v hv => ?_)
    rw [po_X6_signOf, f2.1] at hv
    subst hv
    refine m_put B hw 18 (by decide) wd_F_X6_145 rfl rfl rfl rfl dX6_tells_44 (fun H locs hw => ?_)
    refine pb_blk B.hx B.hb (lv' := [(2, .int 2), (0, .ref mo), (1, .int (nI i))]) (st' := [.int 2, .int 2]) hl bkX6_tells_47_49 rfl (fun ls hl => ?_)
    refine lv_icmp_le (tgt := 54) B.hx B.hb dX6_tells_49 (by decide) (fun h2 => ?_) (fun h2 => absurd h2 (by decide))
    refine pb_blk B.hx B.hb (lv' := [(2, .int 2), (0, .ref mo), (1, .int (nI i))]) (st' := [.int 1, .int 2]) hl bkX6_tells_54_56 rfl (fun ls hl => ?_)
    refine lv_icmp_ge (tgt := 61) B.hx B.hb dX6_tells_56 (by decide) (fun h3 => ?_) (fun h3 => absurd h3 (by decide))
    have hL0 := lc_pos u 3
    have hLb := lc_3 hs
    refine pb_blk B.hx B.hb (lv' := [(5, .int 0), (3, .long 1), (2, .int 2), (0, .ref mo), (1, .int (nI i))]) (st' := []) hl bkX6_tells_61_66 rfl (fun ls hl => ?_)
    have e1 : (1 : Int64) = lN (lc u 0) := rfl
    rw [e1] at hl
    refine pb_blk B.hx B.hb (lv' := [(5, .int 0), (3, .long (lN (lc u 0))), (2, .int 2), (0, .ref mo), (1, .int (nI i))]) (st' := [.int 3, .int 0]) hl bkX6_tells_66_69 rfl (fun ls hl => ?_)
    refine lv_icmp_ge (tgt := 100) B.hx B.hb dX6_tells_69 (by decide) (fun h4 => absurd h4 (by decide)) (fun h4 => ?_)
    refine pb_blk B.hx B.hb (lv' := [(5, .int 0), (3, .long (lN (lc u 0))), (2, .int 2), (0, .ref mo), (1, .int (nI i))]) (st' := [.ref mo, .long (lN (lc u 0)), .long (lN (lc u 0))]) hl bkX6_tells_72_75 rfl (fun ls hl => ?_)
    refine m_get B hw 10 (by decide) wd_F_X6_36 rfl dX6_tells_75 ?_
    refine pb_blk B.hx B.hb (lv' := [(5, .int 0), (3, .long (lN (lc u 0))), (2, .int 2), (0, .ref mo), (1, .int (nI i))]) (st' := [.int 0, .ref (mo + 9), .long (lN (lc u 0)), .long (lN (lc u 0))]) hl bkX6_tells_78_80 rfl (fun ls hl => ?_)
    refine m_lald B hw 9 (by decide) (by decide) rfl (show vp_in (nI 0) 10 from vp_in_nI (by decide) (by decide)) (v := .long d0) (by rw [show (0 : Int32).toNatClampNeg = 0 from by decide]; exact b0) dX6_tells_80 ?_
    refine m_callS B (c_X6_divisor l G (fun _ => False) (lN (lc u 0)) d0 (by rw [pk_lT (by have := lc_b hs (show 0 ≤ 3 by decide); omega)]; omega) (by rw [f0.2]; omega)) cy_X6_divisor st_X6_divisor wd_M_X6_67 trivial rfl hl.1 rfl (Nat.le_of_ble_eq_true rfl) ⟨by decide, by decide⟩ ⟨rfl, rfl⟩ ⟨Nat.le_refl _, Nat.le_refl _⟩ dX6_tells_81 (fun v hv => ?_)
    obtain ⟨g, hg⟩ : ∃ g : Int64, g = lN (Nat.gcd (lN (lc u 0)).toInt.natAbs d0.toInt.natAbs) := ⟨_, rfl⟩
    rw [po_X6_divisor, ← hg] at hv
    subst hv
    obtain ⟨g0, hst⟩ := lc_st hs (show 0 < 3 by decide) f0.2 hg
    clear hg
    refine lv_ldiv B.hx B.hb dX6_tells_84 g0 ?_
    refine pb_blk B.hx B.hb (lv' := [(5, .int 0), (3, .long (lN (lc u 0))), (2, .int 2), (0, .ref mo), (1, .int (nI i))]) (st' := [.ref mo, .long ((lN (lc u 0)) / g)]) hl bkX6_tells_85_86 rfl (fun ls hl => ?_)
    refine m_get B hw 10 (by decide) wd_F_X6_36 rfl dX6_tells_86 ?_
    refine pb_blk B.hx B.hb (lv' := [(5, .int 0), (3, .long (lN (lc u 0))), (2, .int 2), (0, .ref mo), (1, .int (nI i))]) (st' := [.int 0, .ref (mo + 9), .long ((lN (lc u 0)) / g)]) hl bkX6_tells_89_91 rfl (fun ls hl => ?_)
    refine m_lald B hw 9 (by decide) (by decide) rfl (show vp_in (nI 0) 10 from vp_in_nI (by decide) (by decide)) (v := .long d0) (by rw [show (0 : Int32).toNatClampNeg = 0 from by decide]; exact b0) dX6_tells_91 ?_
    refine pb_blk B.hx B.hb (lv' := [(5, .int 0), (3, .long (lN (lc u 0))), (2, .int 2), (0, .ref mo), (1, .int (nI i))]) (st' := [.long (((lN (lc u 0)) / g) * d0)]) hl bkX6_tells_92_93 rfl (fun ls hl => ?_)
    rw [hst]
    clear hst g0
    clear g
    refine pb_blk B.hx B.hb (lv' := [(5, .int 1), (3, .long (lN (lc u 1))), (2, .int 2), (0, .ref mo), (1, .int (nI i))]) (st' := []) hl bkX6_tells_93_66 rfl (fun ls hl => ?_)
    refine pb_blk B.hx B.hb (lv' := [(5, .int 1), (3, .long (lN (lc u 1))), (2, .int 2), (0, .ref mo), (1, .int (nI i))]) (st' := [.int 3, .int 1]) hl bkX6_tells_66_69 rfl (fun ls hl => ?_)
    refine lv_icmp_ge (tgt := 100) B.hx B.hb dX6_tells_69 (by decide) (fun h4 => absurd h4 (by decide)) (fun h4 => ?_)
    refine pb_blk B.hx B.hb (lv' := [(5, .int 1), (3, .long (lN (lc u 1))), (2, .int 2), (0, .ref mo), (1, .int (nI i))]) (st' := [.ref mo, .long (lN (lc u 1)), .long (lN (lc u 1))]) hl bkX6_tells_72_75 rfl (fun ls hl => ?_)
    refine m_get B hw 10 (by decide) wd_F_X6_36 rfl dX6_tells_75 ?_
    refine pb_blk B.hx B.hb (lv' := [(5, .int 1), (3, .long (lN (lc u 1))), (2, .int 2), (0, .ref mo), (1, .int (nI i))]) (st' := [.int 1, .ref (mo + 9), .long (lN (lc u 1)), .long (lN (lc u 1))]) hl bkX6_tells_78_80 rfl (fun ls hl => ?_)
    refine m_lald B hw 9 (by decide) (by decide) rfl (show vp_in (nI 1) 10 from vp_in_nI (by decide) (by decide)) (v := .long d1) (by rw [show (1 : Int32).toNatClampNeg = 1 from by decide]; exact b1) dX6_tells_80 ?_
    refine m_callS B (c_X6_divisor l G (fun _ => False) (lN (lc u 1)) d1 (by rw [pk_lT (by have := lc_b hs (show 1 ≤ 3 by decide); omega)]; omega) (by rw [f1.2]; omega)) cy_X6_divisor st_X6_divisor wd_M_X6_67 trivial rfl hl.1 rfl (Nat.le_of_ble_eq_true rfl) ⟨by decide, by decide⟩ ⟨rfl, rfl⟩ ⟨Nat.le_refl _, Nat.le_refl _⟩ dX6_tells_81 (fun v hv => ?_)
    obtain ⟨g, hg⟩ : ∃ g : Int64, g = lN (Nat.gcd (lN (lc u 1)).toInt.natAbs d1.toInt.natAbs) := ⟨_, rfl⟩
    rw [po_X6_divisor, ← hg] at hv
    subst hv
    obtain ⟨g0, hst⟩ := lc_st hs (show 1 < 3 by decide) f1.2 hg
    clear hg
    refine lv_ldiv B.hx B.hb dX6_tells_84 g0 ?_
    refine pb_blk B.hx B.hb (lv' := [(5, .int 1), (3, .long (lN (lc u 1))), (2, .int 2), (0, .ref mo), (1, .int (nI i))]) (st' := [.ref mo, .long ((lN (lc u 1)) / g)]) hl bkX6_tells_85_86 rfl (fun ls hl => ?_)
    refine m_get B hw 10 (by decide) wd_F_X6_36 rfl dX6_tells_86 ?_
    refine pb_blk B.hx B.hb (lv' := [(5, .int 1), (3, .long (lN (lc u 1))), (2, .int 2), (0, .ref mo), (1, .int (nI i))]) (st' := [.int 1, .ref (mo + 9), .long ((lN (lc u 1)) / g)]) hl bkX6_tells_89_91 rfl (fun ls hl => ?_)
    refine m_lald B hw 9 (by decide) (by decide) rfl (show vp_in (nI 1) 10 from vp_in_nI (by decide) (by decide)) (v := .long d1) (by rw [show (1 : Int32).toNatClampNeg = 1 from by decide]; exact b1) dX6_tells_91 ?_
    refine pb_blk B.hx B.hb (lv' := [(5, .int 1), (3, .long (lN (lc u 1))), (2, .int 2), (0, .ref mo), (1, .int (nI i))]) (st' := [.long (((lN (lc u 1)) / g) * d1)]) hl bkX6_tells_92_93 rfl (fun ls hl => ?_)
    rw [hst]
    clear hst g0
    clear g
    refine pb_blk B.hx B.hb (lv' := [(5, .int 2), (3, .long (lN (lc u 2))), (2, .int 2), (0, .ref mo), (1, .int (nI i))]) (st' := []) hl bkX6_tells_93_66 rfl (fun ls hl => ?_)
    refine pb_blk B.hx B.hb (lv' := [(5, .int 2), (3, .long (lN (lc u 2))), (2, .int 2), (0, .ref mo), (1, .int (nI i))]) (st' := [.int 3, .int 2]) hl bkX6_tells_66_69 rfl (fun ls hl => ?_)
    refine lv_icmp_ge (tgt := 100) B.hx B.hb dX6_tells_69 (by decide) (fun h4 => absurd h4 (by decide)) (fun h4 => ?_)
    refine pb_blk B.hx B.hb (lv' := [(5, .int 2), (3, .long (lN (lc u 2))), (2, .int 2), (0, .ref mo), (1, .int (nI i))]) (st' := [.ref mo, .long (lN (lc u 2)), .long (lN (lc u 2))]) hl bkX6_tells_72_75 rfl (fun ls hl => ?_)
    refine m_get B hw 10 (by decide) wd_F_X6_36 rfl dX6_tells_75 ?_
    refine pb_blk B.hx B.hb (lv' := [(5, .int 2), (3, .long (lN (lc u 2))), (2, .int 2), (0, .ref mo), (1, .int (nI i))]) (st' := [.int 2, .ref (mo + 9), .long (lN (lc u 2)), .long (lN (lc u 2))]) hl bkX6_tells_78_80 rfl (fun ls hl => ?_)
    refine m_lald B hw 9 (by decide) (by decide) rfl (show vp_in (nI 2) 10 from vp_in_nI (by decide) (by decide)) (v := .long d2) (by rw [show (2 : Int32).toNatClampNeg = 2 from by decide]; exact b2) dX6_tells_80 ?_
    refine m_callS B (c_X6_divisor l G (fun _ => False) (lN (lc u 2)) d2 (by rw [pk_lT (by have := lc_b hs (show 2 ≤ 3 by decide); omega)]; omega) (by rw [f2.2]; omega)) cy_X6_divisor st_X6_divisor wd_M_X6_67 trivial rfl hl.1 rfl (Nat.le_of_ble_eq_true rfl) ⟨by decide, by decide⟩ ⟨rfl, rfl⟩ ⟨Nat.le_refl _, Nat.le_refl _⟩ dX6_tells_81 (fun v hv => ?_)
    obtain ⟨g, hg⟩ : ∃ g : Int64, g = lN (Nat.gcd (lN (lc u 2)).toInt.natAbs d2.toInt.natAbs) := ⟨_, rfl⟩
    rw [po_X6_divisor, ← hg] at hv
    subst hv
    obtain ⟨g0, hst⟩ := lc_st hs (show 2 < 3 by decide) f2.2 hg
    clear hg
    refine lv_ldiv B.hx B.hb dX6_tells_84 g0 ?_
    refine pb_blk B.hx B.hb (lv' := [(5, .int 2), (3, .long (lN (lc u 2))), (2, .int 2), (0, .ref mo), (1, .int (nI i))]) (st' := [.ref mo, .long ((lN (lc u 2)) / g)]) hl bkX6_tells_85_86 rfl (fun ls hl => ?_)
    refine m_get B hw 10 (by decide) wd_F_X6_36 rfl dX6_tells_86 ?_
    refine pb_blk B.hx B.hb (lv' := [(5, .int 2), (3, .long (lN (lc u 2))), (2, .int 2), (0, .ref mo), (1, .int (nI i))]) (st' := [.int 2, .ref (mo + 9), .long ((lN (lc u 2)) / g)]) hl bkX6_tells_89_91 rfl (fun ls hl => ?_)
    refine m_lald B hw 9 (by decide) (by decide) rfl (show vp_in (nI 2) 10 from vp_in_nI (by decide) (by decide)) (v := .long d2) (by rw [show (2 : Int32).toNatClampNeg = 2 from by decide]; exact b2) dX6_tells_91 ?_
    refine pb_blk B.hx B.hb (lv' := [(5, .int 2), (3, .long (lN (lc u 2))), (2, .int 2), (0, .ref mo), (1, .int (nI i))]) (st' := [.long (((lN (lc u 2)) / g) * d2)]) hl bkX6_tells_92_93 rfl (fun ls hl => ?_)
    rw [hst]
    clear hst g0
    clear g
    refine pb_blk B.hx B.hb (lv' := [(5, .int 3), (3, .long (lN (lc u 3))), (2, .int 2), (0, .ref mo), (1, .int (nI i))]) (st' := []) hl bkX6_tells_93_66 rfl (fun ls hl => ?_)
    refine pb_blk B.hx B.hb (lv' := [(5, .int 3), (3, .long (lN (lc u 3))), (2, .int 2), (0, .ref mo), (1, .int (nI i))]) (st' := [.int 3, .int 3]) hl bkX6_tells_66_69 rfl (fun ls hl => ?_)
    refine lv_icmp_ge (tgt := 100) B.hx B.hb dX6_tells_69 (by decide) (fun h4 => ?_) (fun h4 => absurd h4 (by decide))
    refine pb_blk B.hx B.hb (lv' := [(5, .int 3), (3, .long (lN (lc u 3))), (2, .int 2), (0, .ref mo), (1, .int (nI i))]) (st' := [.ref mo]) hl bkX6_tells_100_101 rfl (fun ls hl => ?_)
    refine m_get B hw 9 (by decide) wd_F_X6_33 rfl dX6_tells_101 ?_
    refine pb_blk B.hx B.hb (lv' := [(5, .int 3), (3, .long (lN (lc u 3))), (2, .int 2), (0, .ref mo), (1, .int (nI i))]) (st' := [.int 2, .ref (mo + 8)]) hl bkX6_tells_104_105 rfl (fun ls hl => ?_)
    refine m_lald B hw 8 (by decide) (by decide) rfl (show vp_in (nI 2) 10 from vp_in_nI (by decide) (by decide)) (v := .long p2) (by rw [show (2 : Int32).toNatClampNeg = 2 from by decide]; exact a2) dX6_tells_105 ?_
    refine pb_blk B.hx B.hb (lv' := [(5, .int 3), (3, .long (lN (lc u 3))), (2, .int 2), (0, .ref mo), (1, .int (nI i))]) (st' := [.ref mo, .long (lN (lc u 3)), .long p2]) hl bkX6_tells_106_108 rfl (fun ls hl => ?_)
    refine m_get B hw 10 (by decide) wd_F_X6_36 rfl dX6_tells_108 ?_
    refine pb_blk B.hx B.hb (lv' := [(5, .int 3), (3, .long (lN (lc u 3))), (2, .int 2), (0, .ref mo), (1, .int (nI i))]) (st' := [.int 2, .ref (mo + 9), .long (lN (lc u 3)), .long p2]) hl bkX6_tells_111_112 rfl (fun ls hl => ?_)
    refine m_lald B hw 9 (by decide) (by decide) rfl (show vp_in (nI 2) 10 from vp_in_nI (by decide) (by decide)) (v := .long d2) (by rw [show (2 : Int32).toNatClampNeg = 2 from by decide]; exact b2) dX6_tells_112 ?_
    obtain ⟨z2, lpL, mpL, epL⟩ := tl_n f2 (hs 2 (by decide)) (lc_d2 u) hL0 hLb
    refine lv_ldiv B.hx B.hb dX6_tells_113 z2 ?_
    refine pb_blk B.hx B.hb (lv' := [(5, .int 3), (3, .long (lN (lc u 3))), (2, .int 2), (0, .ref mo), (1, .int (nI i))]) (st' := [.long (p2 * ((lN (lc u 3)) / d2))]) hl bkX6_tells_114_115 rfl (fun ls hl => ?_)
    obtain ⟨pL, hpL⟩ : ∃ z : Int64, z = p2 * (lN (lc u 3) / d2) := ⟨_, rfl⟩
    rw [← hpL] at lpL mpL epL
    rw [← hpL]
    clear hpL
    refine pb_blk B.hx B.hb (lv' := [(5, .long pL), (3, .long (lN (lc u 3))), (2, .int 2), (0, .ref mo), (1, .int (nI i))]) (st' := [.ref mo]) hl bkX6_tells_115_118 rfl (fun ls hl => ?_)
    refine m_get B hw 9 (by decide) wd_F_X6_33 rfl dX6_tells_118 ?_
    refine pb_blk B.hx B.hb (lv' := [(5, .long pL), (3, .long (lN (lc u 3))), (2, .int 2), (0, .ref mo), (1, .int (nI i))]) (st' := [.int 1, .ref (mo + 8)]) hl bkX6_tells_121_122 rfl (fun ls hl => ?_)
    refine m_lald B hw 8 (by decide) (by decide) rfl (show vp_in (nI 1) 10 from vp_in_nI (by decide) (by decide)) (v := .long p1) (by rw [show (1 : Int32).toNatClampNeg = 1 from by decide]; exact a1) dX6_tells_122 ?_
    refine pb_blk B.hx B.hb (lv' := [(5, .long pL), (3, .long (lN (lc u 3))), (2, .int 2), (0, .ref mo), (1, .int (nI i))]) (st' := [.ref mo, .long (lN (lc u 3)), .long p1]) hl bkX6_tells_123_125 rfl (fun ls hl => ?_)
    refine m_get B hw 10 (by decide) wd_F_X6_36 rfl dX6_tells_125 ?_
    refine pb_blk B.hx B.hb (lv' := [(5, .long pL), (3, .long (lN (lc u 3))), (2, .int 2), (0, .ref mo), (1, .int (nI i))]) (st' := [.int 1, .ref (mo + 9), .long (lN (lc u 3)), .long p1]) hl bkX6_tells_128_129 rfl (fun ls hl => ?_)
    refine m_lald B hw 9 (by decide) (by decide) rfl (show vp_in (nI 1) 10 from vp_in_nI (by decide) (by decide)) (v := .long d1) (by rw [show (1 : Int32).toNatClampNeg = 1 from by decide]; exact b1) dX6_tells_129 ?_
    obtain ⟨z1, lqL, mqL, eqL⟩ := tl_n f1 (hs 1 (by decide)) (lc_d1 u) hL0 hLb
    refine lv_ldiv B.hx B.hb dX6_tells_130 z1 ?_
    refine pb_blk B.hx B.hb (lv' := [(5, .long pL), (3, .long (lN (lc u 3))), (2, .int 2), (0, .ref mo), (1, .int (nI i))]) (st' := [.long (p1 * ((lN (lc u 3)) / d1))]) hl bkX6_tells_131_132 rfl (fun ls hl => ?_)
    obtain ⟨qL, hqL⟩ : ∃ z : Int64, z = p1 * (lN (lc u 3) / d1) := ⟨_, rfl⟩
    rw [← hqL] at lqL mqL eqL
    rw [← hqL]
    clear hqL
    refine pb_blk B.hx B.hb (lv' := [(7, .long qL), (5, .long pL), (3, .long (lN (lc u 3))), (2, .int 2), (0, .ref mo), (1, .int (nI i))]) (st' := [.ref mo]) hl bkX6_tells_132_135 rfl (fun ls hl => ?_)
    refine m_get B hw 9 (by decide) wd_F_X6_33 rfl dX6_tells_135 ?_
    refine pb_blk B.hx B.hb (lv' := [(7, .long qL), (5, .long pL), (3, .long (lN (lc u 3))), (2, .int 2), (0, .ref mo), (1, .int (nI i))]) (st' := [.int 0, .ref (mo + 8)]) hl bkX6_tells_138_139 rfl (fun ls hl => ?_)
    refine m_lald B hw 8 (by decide) (by decide) rfl (show vp_in (nI 0) 10 from vp_in_nI (by decide) (by decide)) (v := .long p0) (by rw [show (0 : Int32).toNatClampNeg = 0 from by decide]; exact a0) dX6_tells_139 ?_
    refine pb_blk B.hx B.hb (lv' := [(7, .long qL), (5, .long pL), (3, .long (lN (lc u 3))), (2, .int 2), (0, .ref mo), (1, .int (nI i))]) (st' := [.ref mo, .long (lN (lc u 3)), .long p0]) hl bkX6_tells_140_142 rfl (fun ls hl => ?_)
    refine m_get B hw 10 (by decide) wd_F_X6_36 rfl dX6_tells_142 ?_
    refine pb_blk B.hx B.hb (lv' := [(7, .long qL), (5, .long pL), (3, .long (lN (lc u 3))), (2, .int 2), (0, .ref mo), (1, .int (nI i))]) (st' := [.int 0, .ref (mo + 9), .long (lN (lc u 3)), .long p0]) hl bkX6_tells_145_146 rfl (fun ls hl => ?_)
    refine m_lald B hw 9 (by decide) (by decide) rfl (show vp_in (nI 0) 10 from vp_in_nI (by decide) (by decide)) (v := .long d0) (by rw [show (0 : Int32).toNatClampNeg = 0 from by decide]; exact b0) dX6_tells_146 ?_
    obtain ⟨z0, lrL, mrL, erL⟩ := tl_n f0 (hs 0 (by decide)) (lc_d0 u) hL0 hLb
    refine lv_ldiv B.hx B.hb dX6_tells_147 z0 ?_
    refine pb_blk B.hx B.hb (lv' := [(7, .long qL), (5, .long pL), (3, .long (lN (lc u 3))), (2, .int 2), (0, .ref mo), (1, .int (nI i))]) (st' := [.long (p0 * ((lN (lc u 3)) / d0))]) hl bkX6_tells_148_149 rfl (fun ls hl => ?_)
    obtain ⟨rL, hrL⟩ : ∃ z : Int64, z = p0 * (lN (lc u 3) / d0) := ⟨_, rfl⟩
    rw [← hrL] at lrL mrL erL
    rw [← hrL]
    clear hrL
    have hLr : (((lc u 3 : Nat) : Int) : Rat) ≠ 0 := fun e => by have := Rat.intCast_eq_zero_iff.mp e; omega
    refine pb_blk B.hx B.hb (lv' := [(9, .long rL), (7, .long qL), (5, .long pL), (3, .long (lN (lc u 3))), (2, .int 2), (0, .ref mo), (1, .int (nI i))]) (st' := [.int 1, .int 2]) hl bkX6_tells_149_153 rfl (fun ls hl => ?_)
    refine lv_icmp_ne (tgt := 167) B.hx B.hb dX6_tells_153 (by decide) (fun h5 => ?_) (fun h5 => absurd h5 (by decide))
    have hu2 := dgI_2 hd
    refine pb_blk B.hx B.hb (lv' := [(9, .long rL), (7, .long qL), (5, .long pL), (3, .long (lN (lc u 3))), (2, .int 2), (0, .ref mo), (1, .int (nI i))]) (st' := [.long (qL * qL)]) hl bkX6_tells_167_172 rfl (fun ls hl => ?_)
    refine z_ldc2 B wd_L_X6_151 dX6_tells_172 ?_
    refine pb_blk B.hx B.hb (lv' := [(9, .long rL), (7, .long qL), (5, .long pL), (3, .long (lN (lc u 3))), (2, .int 2), (0, .ref mo), (1, .int (nI i))]) (st' := [.long ((qL * qL) - ((4 * pL) * rL))]) hl bkX6_tells_175_182 rfl (fun ls hl => ?_)
    obtain ⟨iL, hiL⟩ : ∃ z : Int64, z = qL * qL - 4 * pL * rL := ⟨_, rfl⟩
    rw [← hiL]
    obtain ⟨eiL, liL, miL⟩ := inn2 ⟨lpL, mpL⟩ ⟨lqL, mqL⟩ ⟨lrL, mrL⟩ hiL
    clear hiL
    have hI := tl_i epL eqL erL
    rw [← eiL] at hI
    clear eiL
    have hLi : (0 : Int) < (lc u 3 : Int) := by omega
    have hng := tl_neg hLi hI
    have p0 : pL.toInt ≠ 0 := fun e => by rw [e] at epL; exact absurd (Rat.mul_eq_zero.mp epL.symm) (not_or.mpr ⟨hu2, hLr⟩)
    refine pb_blk B.hx B.hb (lv' := [(11, .long iL), (9, .long rL), (7, .long qL), (5, .long pL), (3, .long (lN (lc u 3))), (2, .int 2), (0, .ref mo), (1, .int (nI i))]) (st' := [.int (lg_cmp iL 0)]) hl bkX6_tells_182_188 rfl (fun ls hl => ?_)
    refine lv_if_ge (tgt := 193) B.hx B.hb dX6_tells_188 (by decide) (fun h6 => ?_) (fun h6 => ?_)
    · have hn : 0 ≤ iL.toInt := by have h9 := (lg_cmp_ge _ _).mp h6; rw [Int64.le_iff_toInt_le, Int64.toInt_zero] at h9; omega
      obtain ⟨sq, hsq, hsj⟩ : ∃ sq : Nat, iL = lN sq ∧ (sq : Int) = iL.toInt := ⟨iL.toInt.toNat, i64_eq (by rw [pk_lT (by omega)]; omega), by omega⟩
      have hsb : sq < 2 ^ 50 := by omega
      have hsi : iL.toInt = (sq : Int) := by rw [hsq]; exact pk_lT (by omega)
      rw [hsi] at hI hng
      clear hn liL miL hsi hsj h6
      subst hsq
      refine pb_blk B.hx B.hb (lv' := [(11, .long (lN sq)), (9, .long rL), (7, .long qL), (5, .long pL), (3, .long (lN (lc u 3))), (2, .int 2), (0, .ref mo), (1, .int (nI i))]) (st' := [.long (lN sq)]) hl bkX6_tells_193_195 rfl (fun ls hl => ?_)
      refine m_callS B (c_X6_rootOf l G (fun _ => False) sq (by omega)) cy_X6_rootOf st_X6_rootOf wd_M_X6_153 trivial rfl hl.1 rfl (Nat.le_of_ble_eq_true rfl) ⟨by decide, by decide⟩ ⟨rfl, rfl⟩ ⟨Nat.le_refl _, Nat.le_refl _⟩ dX6_tells_195 (fun v hv => ?_)
      obtain ⟨r, rfl, hr1, hr2⟩ := hv
      have hrb : r < 2 ^ 25 := by rcases Nat.lt_or_ge r (2 ^ 25) with g | g; exact g; have := Nat.mul_le_mul g g; omega
      refine pb_blk B.hx B.hb (lv' := [(13, .long (lN r)), (11, .long (lN sq)), (9, .long rL), (7, .long qL), (5, .long pL), (3, .long (lN (lc u 3))), (2, .int 2), (0, .ref mo), (1, .int (nI i))]) (st' := [.int (lg_cmp ((lN r) * (lN r)) (lN sq))]) hl bkX6_tells_198_208 rfl (fun ls hl => ?_)
      rw [lN_mul]
      refine lv_if_eq (tgt := 213) B.hx B.hb dX6_tells_208 (by decide) (fun h7 => ?_) (fun h7 => ?_)
      · have hre : r * r = sq := (pk_lEQ (by omega) (by omega)).mp ((lg_cmp_eq _ _).mp h7)
        have hri : (r : Int) * r = (sq : Int) := by rw [← hre, Int.natCast_mul]
        have hrho := yes_root hLr hI hri
        obtain ⟨rho, hrd⟩ : ∃ z : Rat, z = ((r : Int) : Rat) / (((lc u 3 : Nat) : Int) : Rat) := ⟨_, rfl⟩
        rw [← hrd] at hrho
        have hr0 : 0 ≤ rho := by rw [hrd, Rat.div_def]; exact Rat.mul_nonneg (Rat.intCast_nonneg.mpr (by omega)) (Rat.le_of_lt (Rat.inv_pos.mpr (Rat.intCast_pos.mpr hLi)))
        obtain ⟨x1e, x2e⟩ := sqy (b := qL) (r := r) rfl ⟨lqL, mqL⟩ hrb
        have e2a : (2 * pL).toInt = 2 * pL.toInt := two_b ⟨lpL, mpL⟩
        refine pb_blk B.hx B.hb (lv' := [(13, .long (lN r)), (11, .long (lN sq)), (9, .long rL), (7, .long qL), (5, .long pL), (3, .long (lN (lc u 3))), (2, .int 2), (0, .ref mo), (1, .int (nI i))]) (st' := [.int (lg_cmp pL 0)]) hl bkX6_tells_213_217 rfl (fun ls hl => ?_)
        refine lv_if_le (tgt := 229) B.hx B.hb dX6_tells_217 (by decide) (fun h8 => ?_) (fun h8 => ?_)
        · have hpp : pL.toInt < 0 := by have h9 : pL ≤ (0 : Int64) := (lg_cmp_le _ _).mp h8; rw [Int64.le_iff_toInt_le, Int64.toInt_zero] at h9; omega
          have hsg : sgZ (u 2).num = -1 := tl_sg (P := pL.toInt) (L := (lc u 3 : Nat)) hu2 hLi epL (Or.inr ⟨hpp, rfl⟩)
          have q1 : Rat.divInt (-qL + lN r).toInt (2 * pL).toInt = pl1 u rho := by rw [x2e, e2a, hrd, pl1, hsg]; exact Eq.trans (by congr 1; rw [show (-1 : Int32).toInt = -1 from rfl]; omega) (sq_place (s := (-1 : Int32).toInt) hLr hu2 epL eqL)
          have q2 : Rat.divInt (-qL - lN r).toInt (2 * pL).toInt = pl2 u rho := by rw [x1e, e2a, hrd, pl2, hsg]; exact Eq.trans (by congr 1; rw [show (-1 : Int32).toInt = -1 from rfl]; omega) (sq_placeP (s := (-1 : Int32).toInt) hLr hu2 epL eqL)
          refine pb_blk B.hx B.hb (lv' := [(15, .long ((-qL) + (lN r))), (13, .long (lN r)), (11, .long (lN sq)), (9, .long rL), (7, .long qL), (5, .long pL), (3, .long (lN (lc u 3))), (2, .int 2), (0, .ref mo), (1, .int (nI i))]) (st' := [.int (lg_cmp pL 0)]) hl bkX6_tells_229_241 rfl (fun ls hl => ?_)
          refine lv_if_le (tgt := 253) B.hx B.hb dX6_tells_241 (by decide) (fun h9 => ?_) (fun h9 => absurd h9 (not_not_intro h8))
          refine pb_blk B.hx B.hb (lv' := [(17, .long ((-qL) - (lN r))), (15, .long ((-qL) + (lN r))), (13, .long (lN r)), (11, .long (lN sq)), (9, .long rL), (7, .long qL), (5, .long pL), (3, .long (lN (lc u 3))), (2, .int 2), (0, .ref mo), (1, .int (nI i))]) (st' := [.long ((-qL) + (lN r)), .ref mo]) hl bkX6_tells_253_264 rfl (fun ls hl => ?_)
          refine z_ldc2 B wd_L_X6_157 dX6_tells_264 ?_
          refine pb_blk B.hx B.hb (lv' := [(17, .long ((-qL) - (lN r))), (15, .long ((-qL) + (lN r))), (13, .long (lN r)), (11, .long (lN sq)), (9, .long rL), (7, .long qL), (5, .long pL), (3, .long (lN (lc u 3))), (2, .int 2), (0, .ref mo), (1, .int (nI i))]) (st' := [.long (2 * pL), .long ((-qL) + (lN r)), .ref mo]) hl bkX6_tells_267_270 rfl (fun ls hl => ?_)
          refine m_callV B hw (c_X6_answer l G mo _ _ (-qL + lN r) (2 * pL) 0 (by rw [x2e]; omega) (by rw [e2a]; omega) (by rw [e2a]; omega) (by decide) rfl) cy_X6_answer im_X6_answer se_X6_answer wd_M_X6_148 rfl hl.1 rfl (Nat.le_of_ble_eq_true rfl) ⟨by decide, by decide⟩ ⟨rfl, rfl⟩ ⟨Nat.le_refl _, Nat.le_refl _⟩ dX6_tells_270 (fun v H locs Sb ctb hw_64 hv => ?_)
          obtain ⟨rfl, n1, k1, fx1, rfl, rfl⟩ := hv
          have hw := hw_64
          rw [q1] at fx1
          refine pb_blk B.hx B.hb (lv' := [(17, .long ((-qL) - (lN r))), (15, .long ((-qL) + (lN r))), (13, .long (lN r)), (11, .long (lN sq)), (9, .long rL), (7, .long qL), (5, .long pL), (3, .long (lN (lc u 3))), (2, .int 2), (0, .ref mo), (1, .int (nI i))]) (st' := [.long ((-qL) - (lN r)), .ref mo]) hl bkX6_tells_273_276 rfl (fun ls hl => ?_)
          refine z_ldc2 B wd_L_X6_157 dX6_tells_276 ?_
          refine pb_blk B.hx B.hb (lv' := [(17, .long ((-qL) - (lN r))), (15, .long ((-qL) + (lN r))), (13, .long (lN r)), (11, .long (lN sq)), (9, .long rL), (7, .long qL), (5, .long pL), (3, .long (lN (lc u 3))), (2, .int 2), (0, .ref mo), (1, .int (nI i))]) (st' := [.long (2 * pL), .long ((-qL) - (lN r)), .ref mo]) hl bkX6_tells_279_282 rfl (fun ls hl => ?_)
          refine m_callV B hw (c_X6_answer l G mo _ _ (-qL - lN r) (2 * pL) 1 (by rw [x1e]; omega) (by rw [e2a]; omega) (by rw [e2a]; omega) (by decide) rfl) cy_X6_answer im_X6_answer se_X6_answer wd_M_X6_148 rfl hl.1 rfl (Nat.le_of_ble_eq_true rfl) ⟨by decide, by decide⟩ ⟨rfl, rfl⟩ ⟨Nat.le_refl _, Nat.le_refl _⟩ dX6_tells_282 (fun v H locs Sc1 ctc hw_65 hv => ?_)
          obtain ⟨rfl, n2, k2, fx2, rfl, rfl⟩ := hv
          have hw := hw_65
          rw [q2] at fx2
          refine pb_blk B.hx B.hb (lv' := [(17, .long ((-qL) - (lN r))), (15, .long ((-qL) + (lN r))), (13, .long (lN r)), (11, .long (lN sq)), (9, .long rL), (7, .long qL), (5, .long pL), (3, .long (lN (lc u 3))), (2, .int 2), (0, .ref mo), (1, .int (nI i))]) (st' := [.int 1]) hl bkX6_tells_285_286 rfl (fun ls hl => ?_)
          exact m_zret (v := 1) B hw dX6_tells_286 rfl (by exact ⟨rfl, rfl, fun a g1 g2 g3 g4 => (oth2 g3 g4).trans ((oth2 g3 g4).trans (o1 a g1 g2)), Or.inr ⟨rfl, tl_fin hd hu2 hr0 hrho rfl rfl (RwL.two fx1 fx2 rfl rfl rfl rfl)⟩⟩) (Nat.le_of_ble_eq_true rfl) (Nat.le_of_ble_eq_true rfl)
        · have hpp : 0 < pL.toInt := by have h9 : ¬ pL ≤ (0 : Int64) := fun q => h8 ((lg_cmp_le _ _).mpr q); rw [Int64.le_iff_toInt_le, Int64.toInt_zero] at h9; omega
          have hsg : sgZ (u 2).num = 1 := tl_sg (P := pL.toInt) (L := (lc u 3 : Nat)) hu2 hLi epL (Or.inl ⟨hpp, rfl⟩)
          have q1 : Rat.divInt (-qL - lN r).toInt (2 * pL).toInt = pl1 u rho := by rw [x1e, e2a, hrd, pl1, hsg]; exact Eq.trans (by congr 1; rw [show (1 : Int32).toInt = 1 from rfl]; omega) (sq_place (s := (1 : Int32).toInt) hLr hu2 epL eqL)
          have q2 : Rat.divInt (-qL + lN r).toInt (2 * pL).toInt = pl2 u rho := by rw [x2e, e2a, hrd, pl2, hsg]; exact Eq.trans (by congr 1; rw [show (1 : Int32).toInt = 1 from rfl]; omega) (sq_placeP (s := (1 : Int32).toInt) hLr hu2 epL eqL)
          refine pb_blk B.hx B.hb (lv' := [(15, .long ((-qL) - (lN r))), (13, .long (lN r)), (11, .long (lN sq)), (9, .long rL), (7, .long qL), (5, .long pL), (3, .long (lN (lc u 3))), (2, .int 2), (0, .ref mo), (1, .int (nI i))]) (st' := [.int (lg_cmp pL 0)]) hl bkX6_tells_220_241 rfl (fun ls hl => ?_)
          refine lv_if_le (tgt := 253) B.hx B.hb dX6_tells_241 (by decide) (fun h9 => absurd h9 h8) (fun h9 => ?_)
          refine pb_blk B.hx B.hb (lv' := [(17, .long ((-qL) + (lN r))), (15, .long ((-qL) - (lN r))), (13, .long (lN r)), (11, .long (lN sq)), (9, .long rL), (7, .long qL), (5, .long pL), (3, .long (lN (lc u 3))), (2, .int 2), (0, .ref mo), (1, .int (nI i))]) (st' := [.long ((-qL) - (lN r)), .ref mo]) hl bkX6_tells_244_264 rfl (fun ls hl => ?_)
          refine z_ldc2 B wd_L_X6_157 dX6_tells_264 ?_
          refine pb_blk B.hx B.hb (lv' := [(17, .long ((-qL) + (lN r))), (15, .long ((-qL) - (lN r))), (13, .long (lN r)), (11, .long (lN sq)), (9, .long rL), (7, .long qL), (5, .long pL), (3, .long (lN (lc u 3))), (2, .int 2), (0, .ref mo), (1, .int (nI i))]) (st' := [.long (2 * pL), .long ((-qL) - (lN r)), .ref mo]) hl bkX6_tells_267_270 rfl (fun ls hl => ?_)
          refine m_callV B hw (c_X6_answer l G mo _ _ (-qL - lN r) (2 * pL) 0 (by rw [x1e]; omega) (by rw [e2a]; omega) (by rw [e2a]; omega) (by decide) rfl) cy_X6_answer im_X6_answer se_X6_answer wd_M_X6_148 rfl hl.1 rfl (Nat.le_of_ble_eq_true rfl) ⟨by decide, by decide⟩ ⟨rfl, rfl⟩ ⟨Nat.le_refl _, Nat.le_refl _⟩ dX6_tells_270 (fun v H locs Sb ctb hw_66 hv => ?_)
          obtain ⟨rfl, n1, k1, fx1, rfl, rfl⟩ := hv
          have hw := hw_66
          rw [q1] at fx1
          refine pb_blk B.hx B.hb (lv' := [(17, .long ((-qL) + (lN r))), (15, .long ((-qL) - (lN r))), (13, .long (lN r)), (11, .long (lN sq)), (9, .long rL), (7, .long qL), (5, .long pL), (3, .long (lN (lc u 3))), (2, .int 2), (0, .ref mo), (1, .int (nI i))]) (st' := [.long ((-qL) + (lN r)), .ref mo]) hl bkX6_tells_273_276 rfl (fun ls hl => ?_)
          refine z_ldc2 B wd_L_X6_157 dX6_tells_276 ?_
          refine pb_blk B.hx B.hb (lv' := [(17, .long ((-qL) + (lN r))), (15, .long ((-qL) - (lN r))), (13, .long (lN r)), (11, .long (lN sq)), (9, .long rL), (7, .long qL), (5, .long pL), (3, .long (lN (lc u 3))), (2, .int 2), (0, .ref mo), (1, .int (nI i))]) (st' := [.long (2 * pL), .long ((-qL) + (lN r)), .ref mo]) hl bkX6_tells_279_282 rfl (fun ls hl => ?_)
          refine m_callV B hw (c_X6_answer l G mo _ _ (-qL + lN r) (2 * pL) 1 (by rw [x2e]; omega) (by rw [e2a]; omega) (by rw [e2a]; omega) (by decide) rfl) cy_X6_answer im_X6_answer se_X6_answer wd_M_X6_148 rfl hl.1 rfl (Nat.le_of_ble_eq_true rfl) ⟨by decide, by decide⟩ ⟨rfl, rfl⟩ ⟨Nat.le_refl _, Nat.le_refl _⟩ dX6_tells_282 (fun v H locs Sc1 ctc hw_67 hv => ?_)
          obtain ⟨rfl, n2, k2, fx2, rfl, rfl⟩ := hv
          have hw := hw_67
          rw [q2] at fx2
          refine pb_blk B.hx B.hb (lv' := [(17, .long ((-qL) + (lN r))), (15, .long ((-qL) - (lN r))), (13, .long (lN r)), (11, .long (lN sq)), (9, .long rL), (7, .long qL), (5, .long pL), (3, .long (lN (lc u 3))), (2, .int 2), (0, .ref mo), (1, .int (nI i))]) (st' := [.int 1]) hl bkX6_tells_285_286 rfl (fun ls hl => ?_)
          exact m_zret (v := 1) B hw dX6_tells_286 rfl (by exact ⟨rfl, rfl, fun a g1 g2 g3 g4 => (oth2 g3 g4).trans ((oth2 g3 g4).trans (o1 a g1 g2)), Or.inr ⟨rfl, tl_fin hd hu2 hr0 hrho rfl rfl (RwL.two fx1 fx2 rfl rfl rfl rfl)⟩⟩) (Nat.le_of_ble_eq_true rfl) (Nat.le_of_ble_eq_true rfl)
      · have hne : r * r ≠ sq := fun q => h7 ((lg_cmp_eq _ _).mpr (by rw [q]))
        refine pb_blk B.hx B.hb (lv' := [(13, .long (lN r)), (11, .long (lN sq)), (9, .long rL), (7, .long qL), (5, .long pL), (3, .long (lN (lc u 3))), (2, .int 2), (0, .ref mo), (1, .int (nI i))]) (st' := [.int 0]) hl bkX6_tells_211_212 rfl (fun ls hl => ?_)
        exact m_zret (v := 0) B hw dX6_tells_212 rfl (by exact ⟨rfl, rfl, fun a g1 g2 g3 g4 => o1 a g1 g2, Or.inl ⟨rfl, Or.inr ⟨hd, Rat.not_lt.mp (fun q => absurd (hng.mpr q) (by omega)), no_root (r := r) hI (by rw [← Int.natCast_mul]; omega) (sq1 hr2) (by rw [← Int.natCast_mul]; omega)⟩⟩⟩) (Nat.le_of_ble_eq_true rfl) (Nat.le_of_ble_eq_true rfl)
    · have hn : iL.toInt < 0 := by have h9 : ¬ (0 : Int64) ≤ iL := fun q => h6 ((lg_cmp_ge _ _).mpr q); rw [Int64.le_iff_toInt_le, Int64.toInt_zero] at h9; omega
      refine pb_blk B.hx B.hb (lv' := [(11, .long iL), (9, .long rL), (7, .long qL), (5, .long pL), (3, .long (lN (lc u 3))), (2, .int 2), (0, .ref mo), (1, .int (nI i))]) (st' := [.int 1]) hl bkX6_tells_191_192 rfl (fun ls hl => ?_)
      exact m_zret (v := 1) B hw dX6_tells_192 rfl (by exact ⟨rfl, rfl, fun a g1 g2 g3 g4 => o1 a g1 g2, Or.inr ⟨rfl, 0, _, fun _ => 0, 0, fun _ => 0, _, rfl, rfl, fun _ h => absurd h (Nat.not_lt_zero _), Or.inr (Or.inr (Or.inl ⟨hd, hng.mp hn, rfl, rfl, rfl⟩)), Or.inl ⟨rfl, rfl, rfl⟩⟩⟩) (Nat.le_of_ble_eq_true rfl) (Nat.le_of_ble_eq_true rfl)
  · rw [hd]
    refine pb_blk B.hx B.hb (lv' := [(2, .int 1), (0, .ref mo), (1, .int (nI i))]) (st' := [.int 0, .ref mo]) hl bkX6_tells_20_23 rfl (fun ls hl => ?_)
    refine m_put B hw 15 (by decide) wd_F_X6_138 rfl rfl rfl rfl dX6_tells_23 (fun H locs hw => ?_)
    refine pb_blk B.hx B.hb (lv' := [(2, .int 1), (0, .ref mo), (1, .int (nI i))]) (st' := [.int 1, .ref mo]) hl bkX6_tells_26_28 rfl (fun ls hl => ?_)
    refine lv_if_ge (tgt := 35) B.hx B.hb dX6_tells_28 (by decide) (fun h1 => ?_) (fun h1 => absurd h1 (by decide))
    refine pb_blk B.hx B.hb (lv' := [(2, .int 1), (0, .ref mo), (1, .int (nI i))]) (st' := [.ref mo, .ref mo]) hl bkX6_tells_35_36 rfl (fun ls hl => ?_)
    refine m_get B hw 9 (by decide) wd_F_X6_33 rfl dX6_tells_36 ?_
    refine pb_blk B.hx B.hb (lv' := [(2, .int 1), (0, .ref mo), (1, .int (nI i))]) (st' := [.int 1, .ref (mo + 8), .ref mo]) hl bkX6_tells_39_40 rfl (fun ls hl => ?_)
    refine m_lald B hw 8 (by decide) (by decide) rfl (show vp_in (nI 1) 10 from vp_in_nI (by decide) (by decide)) (v := .long p1) (by rw [show (1 : Int32).toNatClampNeg = 1 from by decide]; exact a1) dX6_tells_40 ?_
    refine m_callS B (c_X6_signOf l G (fun _ => False) p1) cy_X6_signOf st_X6_signOf wd_M_X6_141 trivial rfl hl.1 rfl (Nat.le_of_ble_eq_true rfl) ⟨by decide, by decide⟩ ⟨rfl, rfl⟩ ⟨Nat.le_refl _, Nat.le_refl _⟩ dX6_tells_41 (fun v hv => ?_)
    rw [po_X6_signOf, f1.1] at hv
    subst hv
    refine m_put B hw 18 (by decide) wd_F_X6_145 rfl rfl rfl rfl dX6_tells_44 (fun H locs hw => ?_)
    refine pb_blk B.hx B.hb (lv' := [(2, .int 1), (0, .ref mo), (1, .int (nI i))]) (st' := [.int 2, .int 1]) hl bkX6_tells_47_49 rfl (fun ls hl => ?_)
    refine lv_icmp_le (tgt := 54) B.hx B.hb dX6_tells_49 (by decide) (fun h2 => ?_) (fun h2 => absurd h2 (by decide))
    refine pb_blk B.hx B.hb (lv' := [(2, .int 1), (0, .ref mo), (1, .int (nI i))]) (st' := [.int 1, .int 1]) hl bkX6_tells_54_56 rfl (fun ls hl => ?_)
    refine lv_icmp_ge (tgt := 61) B.hx B.hb dX6_tells_56 (by decide) (fun h3 => ?_) (fun h3 => absurd h3 (by decide))
    have hL0 := lc_pos u 3
    have hLb := lc_3 hs
    refine pb_blk B.hx B.hb (lv' := [(5, .int 0), (3, .long 1), (2, .int 1), (0, .ref mo), (1, .int (nI i))]) (st' := []) hl bkX6_tells_61_66 rfl (fun ls hl => ?_)
    have e1 : (1 : Int64) = lN (lc u 0) := rfl
    rw [e1] at hl
    refine pb_blk B.hx B.hb (lv' := [(5, .int 0), (3, .long (lN (lc u 0))), (2, .int 1), (0, .ref mo), (1, .int (nI i))]) (st' := [.int 3, .int 0]) hl bkX6_tells_66_69 rfl (fun ls hl => ?_)
    refine lv_icmp_ge (tgt := 100) B.hx B.hb dX6_tells_69 (by decide) (fun h4 => absurd h4 (by decide)) (fun h4 => ?_)
    refine pb_blk B.hx B.hb (lv' := [(5, .int 0), (3, .long (lN (lc u 0))), (2, .int 1), (0, .ref mo), (1, .int (nI i))]) (st' := [.ref mo, .long (lN (lc u 0)), .long (lN (lc u 0))]) hl bkX6_tells_72_75 rfl (fun ls hl => ?_)
    refine m_get B hw 10 (by decide) wd_F_X6_36 rfl dX6_tells_75 ?_
    refine pb_blk B.hx B.hb (lv' := [(5, .int 0), (3, .long (lN (lc u 0))), (2, .int 1), (0, .ref mo), (1, .int (nI i))]) (st' := [.int 0, .ref (mo + 9), .long (lN (lc u 0)), .long (lN (lc u 0))]) hl bkX6_tells_78_80 rfl (fun ls hl => ?_)
    refine m_lald B hw 9 (by decide) (by decide) rfl (show vp_in (nI 0) 10 from vp_in_nI (by decide) (by decide)) (v := .long d0) (by rw [show (0 : Int32).toNatClampNeg = 0 from by decide]; exact b0) dX6_tells_80 ?_
    refine m_callS B (c_X6_divisor l G (fun _ => False) (lN (lc u 0)) d0 (by rw [pk_lT (by have := lc_b hs (show 0 ≤ 3 by decide); omega)]; omega) (by rw [f0.2]; omega)) cy_X6_divisor st_X6_divisor wd_M_X6_67 trivial rfl hl.1 rfl (Nat.le_of_ble_eq_true rfl) ⟨by decide, by decide⟩ ⟨rfl, rfl⟩ ⟨Nat.le_refl _, Nat.le_refl _⟩ dX6_tells_81 (fun v hv => ?_)
    obtain ⟨g, hg⟩ : ∃ g : Int64, g = lN (Nat.gcd (lN (lc u 0)).toInt.natAbs d0.toInt.natAbs) := ⟨_, rfl⟩
    rw [po_X6_divisor, ← hg] at hv
    subst hv
    obtain ⟨g0, hst⟩ := lc_st hs (show 0 < 3 by decide) f0.2 hg
    clear hg
    refine lv_ldiv B.hx B.hb dX6_tells_84 g0 ?_
    refine pb_blk B.hx B.hb (lv' := [(5, .int 0), (3, .long (lN (lc u 0))), (2, .int 1), (0, .ref mo), (1, .int (nI i))]) (st' := [.ref mo, .long ((lN (lc u 0)) / g)]) hl bkX6_tells_85_86 rfl (fun ls hl => ?_)
    refine m_get B hw 10 (by decide) wd_F_X6_36 rfl dX6_tells_86 ?_
    refine pb_blk B.hx B.hb (lv' := [(5, .int 0), (3, .long (lN (lc u 0))), (2, .int 1), (0, .ref mo), (1, .int (nI i))]) (st' := [.int 0, .ref (mo + 9), .long ((lN (lc u 0)) / g)]) hl bkX6_tells_89_91 rfl (fun ls hl => ?_)
    refine m_lald B hw 9 (by decide) (by decide) rfl (show vp_in (nI 0) 10 from vp_in_nI (by decide) (by decide)) (v := .long d0) (by rw [show (0 : Int32).toNatClampNeg = 0 from by decide]; exact b0) dX6_tells_91 ?_
    refine pb_blk B.hx B.hb (lv' := [(5, .int 0), (3, .long (lN (lc u 0))), (2, .int 1), (0, .ref mo), (1, .int (nI i))]) (st' := [.long (((lN (lc u 0)) / g) * d0)]) hl bkX6_tells_92_93 rfl (fun ls hl => ?_)
    rw [hst]
    clear hst g0
    clear g
    refine pb_blk B.hx B.hb (lv' := [(5, .int 1), (3, .long (lN (lc u 1))), (2, .int 1), (0, .ref mo), (1, .int (nI i))]) (st' := []) hl bkX6_tells_93_66 rfl (fun ls hl => ?_)
    refine pb_blk B.hx B.hb (lv' := [(5, .int 1), (3, .long (lN (lc u 1))), (2, .int 1), (0, .ref mo), (1, .int (nI i))]) (st' := [.int 3, .int 1]) hl bkX6_tells_66_69 rfl (fun ls hl => ?_)
    refine lv_icmp_ge (tgt := 100) B.hx B.hb dX6_tells_69 (by decide) (fun h4 => absurd h4 (by decide)) (fun h4 => ?_)
    refine pb_blk B.hx B.hb (lv' := [(5, .int 1), (3, .long (lN (lc u 1))), (2, .int 1), (0, .ref mo), (1, .int (nI i))]) (st' := [.ref mo, .long (lN (lc u 1)), .long (lN (lc u 1))]) hl bkX6_tells_72_75 rfl (fun ls hl => ?_)
    refine m_get B hw 10 (by decide) wd_F_X6_36 rfl dX6_tells_75 ?_
    refine pb_blk B.hx B.hb (lv' := [(5, .int 1), (3, .long (lN (lc u 1))), (2, .int 1), (0, .ref mo), (1, .int (nI i))]) (st' := [.int 1, .ref (mo + 9), .long (lN (lc u 1)), .long (lN (lc u 1))]) hl bkX6_tells_78_80 rfl (fun ls hl => ?_)
    refine m_lald B hw 9 (by decide) (by decide) rfl (show vp_in (nI 1) 10 from vp_in_nI (by decide) (by decide)) (v := .long d1) (by rw [show (1 : Int32).toNatClampNeg = 1 from by decide]; exact b1) dX6_tells_80 ?_
    refine m_callS B (c_X6_divisor l G (fun _ => False) (lN (lc u 1)) d1 (by rw [pk_lT (by have := lc_b hs (show 1 ≤ 3 by decide); omega)]; omega) (by rw [f1.2]; omega)) cy_X6_divisor st_X6_divisor wd_M_X6_67 trivial rfl hl.1 rfl (Nat.le_of_ble_eq_true rfl) ⟨by decide, by decide⟩ ⟨rfl, rfl⟩ ⟨Nat.le_refl _, Nat.le_refl _⟩ dX6_tells_81 (fun v hv => ?_)
    obtain ⟨g, hg⟩ : ∃ g : Int64, g = lN (Nat.gcd (lN (lc u 1)).toInt.natAbs d1.toInt.natAbs) := ⟨_, rfl⟩
    rw [po_X6_divisor, ← hg] at hv
    subst hv
    obtain ⟨g0, hst⟩ := lc_st hs (show 1 < 3 by decide) f1.2 hg
    clear hg
    refine lv_ldiv B.hx B.hb dX6_tells_84 g0 ?_
    refine pb_blk B.hx B.hb (lv' := [(5, .int 1), (3, .long (lN (lc u 1))), (2, .int 1), (0, .ref mo), (1, .int (nI i))]) (st' := [.ref mo, .long ((lN (lc u 1)) / g)]) hl bkX6_tells_85_86 rfl (fun ls hl => ?_)
    refine m_get B hw 10 (by decide) wd_F_X6_36 rfl dX6_tells_86 ?_
    refine pb_blk B.hx B.hb (lv' := [(5, .int 1), (3, .long (lN (lc u 1))), (2, .int 1), (0, .ref mo), (1, .int (nI i))]) (st' := [.int 1, .ref (mo + 9), .long ((lN (lc u 1)) / g)]) hl bkX6_tells_89_91 rfl (fun ls hl => ?_)
    refine m_lald B hw 9 (by decide) (by decide) rfl (show vp_in (nI 1) 10 from vp_in_nI (by decide) (by decide)) (v := .long d1) (by rw [show (1 : Int32).toNatClampNeg = 1 from by decide]; exact b1) dX6_tells_91 ?_
    refine pb_blk B.hx B.hb (lv' := [(5, .int 1), (3, .long (lN (lc u 1))), (2, .int 1), (0, .ref mo), (1, .int (nI i))]) (st' := [.long (((lN (lc u 1)) / g) * d1)]) hl bkX6_tells_92_93 rfl (fun ls hl => ?_)
    rw [hst]
    clear hst g0
    clear g
    refine pb_blk B.hx B.hb (lv' := [(5, .int 2), (3, .long (lN (lc u 2))), (2, .int 1), (0, .ref mo), (1, .int (nI i))]) (st' := []) hl bkX6_tells_93_66 rfl (fun ls hl => ?_)
    refine pb_blk B.hx B.hb (lv' := [(5, .int 2), (3, .long (lN (lc u 2))), (2, .int 1), (0, .ref mo), (1, .int (nI i))]) (st' := [.int 3, .int 2]) hl bkX6_tells_66_69 rfl (fun ls hl => ?_)
    refine lv_icmp_ge (tgt := 100) B.hx B.hb dX6_tells_69 (by decide) (fun h4 => absurd h4 (by decide)) (fun h4 => ?_)
    refine pb_blk B.hx B.hb (lv' := [(5, .int 2), (3, .long (lN (lc u 2))), (2, .int 1), (0, .ref mo), (1, .int (nI i))]) (st' := [.ref mo, .long (lN (lc u 2)), .long (lN (lc u 2))]) hl bkX6_tells_72_75 rfl (fun ls hl => ?_)
    refine m_get B hw 10 (by decide) wd_F_X6_36 rfl dX6_tells_75 ?_
    refine pb_blk B.hx B.hb (lv' := [(5, .int 2), (3, .long (lN (lc u 2))), (2, .int 1), (0, .ref mo), (1, .int (nI i))]) (st' := [.int 2, .ref (mo + 9), .long (lN (lc u 2)), .long (lN (lc u 2))]) hl bkX6_tells_78_80 rfl (fun ls hl => ?_)
    refine m_lald B hw 9 (by decide) (by decide) rfl (show vp_in (nI 2) 10 from vp_in_nI (by decide) (by decide)) (v := .long d2) (by rw [show (2 : Int32).toNatClampNeg = 2 from by decide]; exact b2) dX6_tells_80 ?_
    refine m_callS B (c_X6_divisor l G (fun _ => False) (lN (lc u 2)) d2 (by rw [pk_lT (by have := lc_b hs (show 2 ≤ 3 by decide); omega)]; omega) (by rw [f2.2]; omega)) cy_X6_divisor st_X6_divisor wd_M_X6_67 trivial rfl hl.1 rfl (Nat.le_of_ble_eq_true rfl) ⟨by decide, by decide⟩ ⟨rfl, rfl⟩ ⟨Nat.le_refl _, Nat.le_refl _⟩ dX6_tells_81 (fun v hv => ?_)
    obtain ⟨g, hg⟩ : ∃ g : Int64, g = lN (Nat.gcd (lN (lc u 2)).toInt.natAbs d2.toInt.natAbs) := ⟨_, rfl⟩
    rw [po_X6_divisor, ← hg] at hv
    subst hv
    obtain ⟨g0, hst⟩ := lc_st hs (show 2 < 3 by decide) f2.2 hg
    clear hg
    refine lv_ldiv B.hx B.hb dX6_tells_84 g0 ?_
    refine pb_blk B.hx B.hb (lv' := [(5, .int 2), (3, .long (lN (lc u 2))), (2, .int 1), (0, .ref mo), (1, .int (nI i))]) (st' := [.ref mo, .long ((lN (lc u 2)) / g)]) hl bkX6_tells_85_86 rfl (fun ls hl => ?_)
    refine m_get B hw 10 (by decide) wd_F_X6_36 rfl dX6_tells_86 ?_
    refine pb_blk B.hx B.hb (lv' := [(5, .int 2), (3, .long (lN (lc u 2))), (2, .int 1), (0, .ref mo), (1, .int (nI i))]) (st' := [.int 2, .ref (mo + 9), .long ((lN (lc u 2)) / g)]) hl bkX6_tells_89_91 rfl (fun ls hl => ?_)
    refine m_lald B hw 9 (by decide) (by decide) rfl (show vp_in (nI 2) 10 from vp_in_nI (by decide) (by decide)) (v := .long d2) (by rw [show (2 : Int32).toNatClampNeg = 2 from by decide]; exact b2) dX6_tells_91 ?_
    refine pb_blk B.hx B.hb (lv' := [(5, .int 2), (3, .long (lN (lc u 2))), (2, .int 1), (0, .ref mo), (1, .int (nI i))]) (st' := [.long (((lN (lc u 2)) / g) * d2)]) hl bkX6_tells_92_93 rfl (fun ls hl => ?_)
    rw [hst]
    clear hst g0
    clear g
    refine pb_blk B.hx B.hb (lv' := [(5, .int 3), (3, .long (lN (lc u 3))), (2, .int 1), (0, .ref mo), (1, .int (nI i))]) (st' := []) hl bkX6_tells_93_66 rfl (fun ls hl => ?_)
    refine pb_blk B.hx B.hb (lv' := [(5, .int 3), (3, .long (lN (lc u 3))), (2, .int 1), (0, .ref mo), (1, .int (nI i))]) (st' := [.int 3, .int 3]) hl bkX6_tells_66_69 rfl (fun ls hl => ?_)
    refine lv_icmp_ge (tgt := 100) B.hx B.hb dX6_tells_69 (by decide) (fun h4 => ?_) (fun h4 => absurd h4 (by decide))
    refine pb_blk B.hx B.hb (lv' := [(5, .int 3), (3, .long (lN (lc u 3))), (2, .int 1), (0, .ref mo), (1, .int (nI i))]) (st' := [.ref mo]) hl bkX6_tells_100_101 rfl (fun ls hl => ?_)
    refine m_get B hw 9 (by decide) wd_F_X6_33 rfl dX6_tells_101 ?_
    refine pb_blk B.hx B.hb (lv' := [(5, .int 3), (3, .long (lN (lc u 3))), (2, .int 1), (0, .ref mo), (1, .int (nI i))]) (st' := [.int 2, .ref (mo + 8)]) hl bkX6_tells_104_105 rfl (fun ls hl => ?_)
    refine m_lald B hw 8 (by decide) (by decide) rfl (show vp_in (nI 2) 10 from vp_in_nI (by decide) (by decide)) (v := .long p2) (by rw [show (2 : Int32).toNatClampNeg = 2 from by decide]; exact a2) dX6_tells_105 ?_
    refine pb_blk B.hx B.hb (lv' := [(5, .int 3), (3, .long (lN (lc u 3))), (2, .int 1), (0, .ref mo), (1, .int (nI i))]) (st' := [.ref mo, .long (lN (lc u 3)), .long p2]) hl bkX6_tells_106_108 rfl (fun ls hl => ?_)
    refine m_get B hw 10 (by decide) wd_F_X6_36 rfl dX6_tells_108 ?_
    refine pb_blk B.hx B.hb (lv' := [(5, .int 3), (3, .long (lN (lc u 3))), (2, .int 1), (0, .ref mo), (1, .int (nI i))]) (st' := [.int 2, .ref (mo + 9), .long (lN (lc u 3)), .long p2]) hl bkX6_tells_111_112 rfl (fun ls hl => ?_)
    refine m_lald B hw 9 (by decide) (by decide) rfl (show vp_in (nI 2) 10 from vp_in_nI (by decide) (by decide)) (v := .long d2) (by rw [show (2 : Int32).toNatClampNeg = 2 from by decide]; exact b2) dX6_tells_112 ?_
    obtain ⟨z2, lpL, mpL, epL⟩ := tl_n f2 (hs 2 (by decide)) (lc_d2 u) hL0 hLb
    refine lv_ldiv B.hx B.hb dX6_tells_113 z2 ?_
    refine pb_blk B.hx B.hb (lv' := [(5, .int 3), (3, .long (lN (lc u 3))), (2, .int 1), (0, .ref mo), (1, .int (nI i))]) (st' := [.long (p2 * ((lN (lc u 3)) / d2))]) hl bkX6_tells_114_115 rfl (fun ls hl => ?_)
    obtain ⟨pL, hpL⟩ : ∃ z : Int64, z = p2 * (lN (lc u 3) / d2) := ⟨_, rfl⟩
    rw [← hpL] at lpL mpL epL
    rw [← hpL]
    clear hpL
    refine pb_blk B.hx B.hb (lv' := [(5, .long pL), (3, .long (lN (lc u 3))), (2, .int 1), (0, .ref mo), (1, .int (nI i))]) (st' := [.ref mo]) hl bkX6_tells_115_118 rfl (fun ls hl => ?_)
    refine m_get B hw 9 (by decide) wd_F_X6_33 rfl dX6_tells_118 ?_
    refine pb_blk B.hx B.hb (lv' := [(5, .long pL), (3, .long (lN (lc u 3))), (2, .int 1), (0, .ref mo), (1, .int (nI i))]) (st' := [.int 1, .ref (mo + 8)]) hl bkX6_tells_121_122 rfl (fun ls hl => ?_)
    refine m_lald B hw 8 (by decide) (by decide) rfl (show vp_in (nI 1) 10 from vp_in_nI (by decide) (by decide)) (v := .long p1) (by rw [show (1 : Int32).toNatClampNeg = 1 from by decide]; exact a1) dX6_tells_122 ?_
    refine pb_blk B.hx B.hb (lv' := [(5, .long pL), (3, .long (lN (lc u 3))), (2, .int 1), (0, .ref mo), (1, .int (nI i))]) (st' := [.ref mo, .long (lN (lc u 3)), .long p1]) hl bkX6_tells_123_125 rfl (fun ls hl => ?_)
    refine m_get B hw 10 (by decide) wd_F_X6_36 rfl dX6_tells_125 ?_
    refine pb_blk B.hx B.hb (lv' := [(5, .long pL), (3, .long (lN (lc u 3))), (2, .int 1), (0, .ref mo), (1, .int (nI i))]) (st' := [.int 1, .ref (mo + 9), .long (lN (lc u 3)), .long p1]) hl bkX6_tells_128_129 rfl (fun ls hl => ?_)
    refine m_lald B hw 9 (by decide) (by decide) rfl (show vp_in (nI 1) 10 from vp_in_nI (by decide) (by decide)) (v := .long d1) (by rw [show (1 : Int32).toNatClampNeg = 1 from by decide]; exact b1) dX6_tells_129 ?_
    obtain ⟨z1, lqL, mqL, eqL⟩ := tl_n f1 (hs 1 (by decide)) (lc_d1 u) hL0 hLb
    refine lv_ldiv B.hx B.hb dX6_tells_130 z1 ?_
    refine pb_blk B.hx B.hb (lv' := [(5, .long pL), (3, .long (lN (lc u 3))), (2, .int 1), (0, .ref mo), (1, .int (nI i))]) (st' := [.long (p1 * ((lN (lc u 3)) / d1))]) hl bkX6_tells_131_132 rfl (fun ls hl => ?_)
    obtain ⟨qL, hqL⟩ : ∃ z : Int64, z = p1 * (lN (lc u 3) / d1) := ⟨_, rfl⟩
    rw [← hqL] at lqL mqL eqL
    rw [← hqL]
    clear hqL
    refine pb_blk B.hx B.hb (lv' := [(7, .long qL), (5, .long pL), (3, .long (lN (lc u 3))), (2, .int 1), (0, .ref mo), (1, .int (nI i))]) (st' := [.ref mo]) hl bkX6_tells_132_135 rfl (fun ls hl => ?_)
    refine m_get B hw 9 (by decide) wd_F_X6_33 rfl dX6_tells_135 ?_
    refine pb_blk B.hx B.hb (lv' := [(7, .long qL), (5, .long pL), (3, .long (lN (lc u 3))), (2, .int 1), (0, .ref mo), (1, .int (nI i))]) (st' := [.int 0, .ref (mo + 8)]) hl bkX6_tells_138_139 rfl (fun ls hl => ?_)
    refine m_lald B hw 8 (by decide) (by decide) rfl (show vp_in (nI 0) 10 from vp_in_nI (by decide) (by decide)) (v := .long p0) (by rw [show (0 : Int32).toNatClampNeg = 0 from by decide]; exact a0) dX6_tells_139 ?_
    refine pb_blk B.hx B.hb (lv' := [(7, .long qL), (5, .long pL), (3, .long (lN (lc u 3))), (2, .int 1), (0, .ref mo), (1, .int (nI i))]) (st' := [.ref mo, .long (lN (lc u 3)), .long p0]) hl bkX6_tells_140_142 rfl (fun ls hl => ?_)
    refine m_get B hw 10 (by decide) wd_F_X6_36 rfl dX6_tells_142 ?_
    refine pb_blk B.hx B.hb (lv' := [(7, .long qL), (5, .long pL), (3, .long (lN (lc u 3))), (2, .int 1), (0, .ref mo), (1, .int (nI i))]) (st' := [.int 0, .ref (mo + 9), .long (lN (lc u 3)), .long p0]) hl bkX6_tells_145_146 rfl (fun ls hl => ?_)
    refine m_lald B hw 9 (by decide) (by decide) rfl (show vp_in (nI 0) 10 from vp_in_nI (by decide) (by decide)) (v := .long d0) (by rw [show (0 : Int32).toNatClampNeg = 0 from by decide]; exact b0) dX6_tells_146 ?_
    obtain ⟨z0, lrL, mrL, erL⟩ := tl_n f0 (hs 0 (by decide)) (lc_d0 u) hL0 hLb
    refine lv_ldiv B.hx B.hb dX6_tells_147 z0 ?_
    refine pb_blk B.hx B.hb (lv' := [(7, .long qL), (5, .long pL), (3, .long (lN (lc u 3))), (2, .int 1), (0, .ref mo), (1, .int (nI i))]) (st' := [.long (p0 * ((lN (lc u 3)) / d0))]) hl bkX6_tells_148_149 rfl (fun ls hl => ?_)
    obtain ⟨rL, hrL⟩ : ∃ z : Int64, z = p0 * (lN (lc u 3) / d0) := ⟨_, rfl⟩
    rw [← hrL] at lrL mrL erL
    rw [← hrL]
    clear hrL
    have hLr : (((lc u 3 : Nat) : Int) : Rat) ≠ 0 := fun e => by have := Rat.intCast_eq_zero_iff.mp e; omega
    refine pb_blk B.hx B.hb (lv' := [(9, .long rL), (7, .long qL), (5, .long pL), (3, .long (lN (lc u 3))), (2, .int 1), (0, .ref mo), (1, .int (nI i))]) (st' := [.int 1, .int 1]) hl bkX6_tells_149_153 rfl (fun ls hl => ?_)
    refine lv_icmp_ne (tgt := 167) B.hx B.hb dX6_tells_153 (by decide) (fun h5 => absurd h5 (by decide)) (fun h5 => ?_)
    have hu1 := dgI_1 hd
    have q0 : qL.toInt ≠ 0 := fun e => by rw [e] at eqL; exact absurd (Rat.mul_eq_zero.mp eqL.symm) (not_or.mpr ⟨hu1, hLr⟩)
    have rn : (-rL).toInt = -rL.toInt := Kit.i64_neg (by omega)
    refine pb_blk B.hx B.hb (lv' := [(9, .long rL), (7, .long qL), (5, .long pL), (3, .long (lN (lc u 3))), (2, .int 1), (0, .ref mo), (1, .int (nI i))]) (st' := [.long qL, .long (-rL), .ref mo]) hl bkX6_tells_156_162 rfl (fun ls hl => ?_)
    refine m_callV B hw (c_X6_answer l G mo _ _ (-rL) qL 0 (by rw [rn]; omega) q0 (by omega) (by decide) rfl) cy_X6_answer im_X6_answer se_X6_answer wd_M_X6_148 rfl hl.1 rfl (Nat.le_of_ble_eq_true rfl) ⟨by decide, by decide⟩ ⟨rfl, rfl⟩ ⟨Nat.le_refl _, Nat.le_refl _⟩ dX6_tells_162 (fun v H locs Sb ctb hw_68 hv => ?_)
    obtain ⟨rfl, n1, k1, fx1, rfl, rfl⟩ := hv
    have hw := hw_68
    rw [rn, tl_1 hLr hu1 erL eqL] at fx1
    refine pb_blk B.hx B.hb (lv' := [(9, .long rL), (7, .long qL), (5, .long pL), (3, .long (lN (lc u 3))), (2, .int 1), (0, .ref mo), (1, .int (nI i))]) (st' := [.int 1]) hl bkX6_tells_165_166 rfl (fun ls hl => ?_)
    exact m_zret (v := 1) B hw dX6_tells_166 rfl (by exact ⟨rfl, rfl, fun a g1 g2 g3 g4 => (oth2 g3 g4).trans (o1 a g1 g2), Or.inr ⟨rfl, 1, _, fun _ => -u 0 / u 1, 1, _, _, rfl, rfl, ans1 fx1, Or.inr (Or.inl ⟨hd, rfl, rfl, rfl⟩), Or.inr (Or.inl ⟨rfl, rfl, rfl, rfl⟩)⟩⟩) (Nat.le_of_ble_eq_true rfl) (Nat.le_of_ble_eq_true rfl)
  · rw [hd]
    refine pb_blk B.hx B.hb (lv' := [(2, .int 0), (0, .ref mo), (1, .int (nI i))]) (st' := [.int 0, .ref mo]) hl bkX6_tells_20_23 rfl (fun ls hl => ?_)
    refine m_put B hw 15 (by decide) wd_F_X6_138 rfl rfl rfl rfl dX6_tells_23 (fun H locs hw => ?_)
    refine pb_blk B.hx B.hb (lv' := [(2, .int 0), (0, .ref mo), (1, .int (nI i))]) (st' := [.int 0, .ref mo]) hl bkX6_tells_26_28 rfl (fun ls hl => ?_)
    refine lv_if_ge (tgt := 35) B.hx B.hb dX6_tells_28 (by decide) (fun h1 => ?_) (fun h1 => absurd h1 (by decide))
    refine pb_blk B.hx B.hb (lv' := [(2, .int 0), (0, .ref mo), (1, .int (nI i))]) (st' := [.ref mo, .ref mo]) hl bkX6_tells_35_36 rfl (fun ls hl => ?_)
    refine m_get B hw 9 (by decide) wd_F_X6_33 rfl dX6_tells_36 ?_
    refine pb_blk B.hx B.hb (lv' := [(2, .int 0), (0, .ref mo), (1, .int (nI i))]) (st' := [.int 0, .ref (mo + 8), .ref mo]) hl bkX6_tells_39_40 rfl (fun ls hl => ?_)
    refine m_lald B hw 8 (by decide) (by decide) rfl (show vp_in (nI 0) 10 from vp_in_nI (by decide) (by decide)) (v := .long p0) (by rw [show (0 : Int32).toNatClampNeg = 0 from by decide]; exact a0) dX6_tells_40 ?_
    refine m_callS B (c_X6_signOf l G (fun _ => False) p0) cy_X6_signOf st_X6_signOf wd_M_X6_141 trivial rfl hl.1 rfl (Nat.le_of_ble_eq_true rfl) ⟨by decide, by decide⟩ ⟨rfl, rfl⟩ ⟨Nat.le_refl _, Nat.le_refl _⟩ dX6_tells_41 (fun v hv => ?_)
    rw [po_X6_signOf, f0.1] at hv
    subst hv
    refine m_put B hw 18 (by decide) wd_F_X6_145 rfl rfl rfl rfl dX6_tells_44 (fun H locs hw => ?_)
    refine pb_blk B.hx B.hb (lv' := [(2, .int 0), (0, .ref mo), (1, .int (nI i))]) (st' := [.int 2, .int 0]) hl bkX6_tells_47_49 rfl (fun ls hl => ?_)
    refine lv_icmp_le (tgt := 54) B.hx B.hb dX6_tells_49 (by decide) (fun h2 => ?_) (fun h2 => absurd h2 (by decide))
    refine pb_blk B.hx B.hb (lv' := [(2, .int 0), (0, .ref mo), (1, .int (nI i))]) (st' := [.int 1, .int 0]) hl bkX6_tells_54_56 rfl (fun ls hl => ?_)
    refine lv_icmp_ge (tgt := 61) B.hx B.hb dX6_tells_56 (by decide) (fun h3 => absurd h3 (by decide)) (fun h3 => ?_)
    refine pb_blk B.hx B.hb (lv' := [(2, .int 0), (0, .ref mo), (1, .int (nI i))]) (st' := [.int 1]) hl bkX6_tells_59_60 rfl (fun ls hl => ?_)
    exact m_zret (v := 1) B hw dX6_tells_60 rfl (by exact ⟨rfl, rfl, fun a g1 g2 g3 g4 => o1 a g1 g2, Or.inr ⟨rfl, 0, _, fun _ => 0, 0, fun _ => 0, fun _ => sgZ (u 0).num, rfl, rfl, fun _ h => absurd h (Nat.not_lt_zero _), Or.inl ⟨by rw [hd]; decide, rfl, rfl, rfl⟩, Or.inl ⟨rfl, rfl, funext (fun _ => rfl)⟩⟩⟩) (Nat.le_of_ble_eq_true rfl) (Nat.le_of_ble_eq_true rfl)
  · rw [hd]
    refine pb_blk B.hx B.hb (lv' := [(2, .int (-1)), (0, .ref mo), (1, .int (nI i))]) (st' := [.int 0, .ref mo]) hl bkX6_tells_20_23 rfl (fun ls hl => ?_)
    refine m_put B hw 15 (by decide) wd_F_X6_138 rfl rfl rfl rfl dX6_tells_23 (fun H locs hw => ?_)
    refine pb_blk B.hx B.hb (lv' := [(2, .int (-1)), (0, .ref mo), (1, .int (nI i))]) (st' := [.int (-1), .ref mo]) hl bkX6_tells_26_28 rfl (fun ls hl => ?_)
    refine lv_if_ge (tgt := 35) B.hx B.hb dX6_tells_28 (by decide) (fun h1 => absurd h1 (by decide)) (fun h1 => ?_)
    refine pb_blk B.hx B.hb (lv' := [(2, .int (-1)), (0, .ref mo), (1, .int (nI i))]) (st' := [.int 0, .ref mo]) hl bkX6_tells_31_44 rfl (fun ls hl => ?_)
    refine m_put B hw 18 (by decide) wd_F_X6_145 rfl rfl rfl rfl dX6_tells_44 (fun H locs hw => ?_)
    refine pb_blk B.hx B.hb (lv' := [(2, .int (-1)), (0, .ref mo), (1, .int (nI i))]) (st' := [.int 2, .int (-1)]) hl bkX6_tells_47_49 rfl (fun ls hl => ?_)
    refine lv_icmp_le (tgt := 54) B.hx B.hb dX6_tells_49 (by decide) (fun h2 => ?_) (fun h2 => absurd h2 (by decide))
    refine pb_blk B.hx B.hb (lv' := [(2, .int (-1)), (0, .ref mo), (1, .int (nI i))]) (st' := [.int 1, .int (-1)]) hl bkX6_tells_54_56 rfl (fun ls hl => ?_)
    refine lv_icmp_ge (tgt := 61) B.hx B.hb dX6_tells_56 (by decide) (fun h3 => absurd h3 (by decide)) (fun h3 => ?_)
    refine pb_blk B.hx B.hb (lv' := [(2, .int (-1)), (0, .ref mo), (1, .int (nI i))]) (st' := [.int 1]) hl bkX6_tells_59_60 rfl (fun ls hl => ?_)
    exact m_zret (v := 1) B hw dX6_tells_60 rfl (by exact ⟨rfl, rfl, fun a g1 g2 g3 g4 => o1 a g1 g2, Or.inr ⟨rfl, 0, _, fun _ => 0, 0, fun _ => 0, fun _ => sgZ (u 0).num, rfl, rfl, fun _ h => absurd h (Nat.not_lt_zero _), Or.inl ⟨by rw [hd]; decide, rfl, rfl, rfl⟩, Or.inl ⟨rfl, rfl, funext (fun _ => by rw [dgI_m hd]; rfl)⟩⟩⟩) (Nat.le_of_ble_eq_true rfl) (Nat.le_of_ble_eq_true rfl)

