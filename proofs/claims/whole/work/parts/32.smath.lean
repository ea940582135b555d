/-! a square's answers: whole numbers and fractions -/
def disc (u : Nat → Rat) : Rat := u 1 * u 1 - 4 * u 2 * u 0
theorem rat_nd (u : Rat) : ((u.num : Int) : Rat) = u * ((u.den : Int) : Rat) := by
  have h : u = (u.num : Rat) / ((u.den : Int) : Rat) := by rw [← Rat.divInt_eq_div, Rat.num_divInt_den]
  have h0 : ((u.den : Int) : Rat) ≠ 0 := fun e => by
    have := Rat.intCast_eq_zero_iff.mp e
    have := u.den_pos
    omega
  have h2 : (u.num : Rat) / ((u.den : Int) : Rat) * ((u.den : Int) : Rat) = (u.num : Rat) := Rat.div_mul_cancel h0
  rw [← h] at h2
  exact h2.symm
theorem rat_den0 (u : Rat) : ((u.den : Int) : Rat) ≠ 0 := fun e => by
  have := Rat.intCast_eq_zero_iff.mp e
  have := u.den_pos
  omega
/-- a whole number's root is whole or no fraction -/
theorem int_sq {x : Rat} {I : Int} (h : x * x = (I : Rat)) : ∃ k : Int, x = (k : Rat) := by
  have h1 : (x.num : Rat) * (x.num : Rat) = (I : Rat) * ((x.den : Int) : Rat) * ((x.den : Int) : Rat) := by
    rw [rat_nd x, ← h]
    grind
  have h2 : x.num * x.num = I * x.den * x.den := by
    have h3 : ((x.num * x.num : Int) : Rat) = ((I * x.den * x.den : Int) : Rat) := by
      rw [Rat.intCast_mul, Rat.intCast_mul, Rat.intCast_mul]; exact h1
    exact Rat.intCast_inj.mp h3
  have h4 : x.den ∣ x.num.natAbs * x.num.natAbs := by
    have h5 : (x.num * x.num).natAbs = (I * x.den * x.den).natAbs := by rw [h2]
    rw [Int.natAbs_mul, Int.natAbs_mul, Int.natAbs_natCast] at h5
    rw [h5]
    exact Nat.dvd_mul_left _ _
  have h6 : Nat.Coprime x.den x.num.natAbs := x.reduced.symm
  have h7 : x.den ∣ x.num.natAbs := h6.dvd_of_dvd_mul_left h4
  have h8 : x.den = 1 := Nat.Coprime.eq_one_of_dvd h6 h7
  refine ⟨x.num, ?_⟩
  have h9 := rat_nd x
  rw [h8] at h9
  rw [h9]
  grind
theorem no_root {d : Rat} {D I : Int} {r : Nat} (hD : (I : Rat) = (D : Rat) * (D : Rat) * d) (h1 : (r : Int) * r ≤ I) (h2 : I < ((r : Int) + 1) * ((r : Int) + 1)) (h3 : (r : Int) * r ≠ I) : ¬ ∃ x : Rat, x * x = d := by
  rintro ⟨x, hx⟩
  have h4 : (x * (D : Rat)) * (x * (D : Rat)) = (I : Rat) := by rw [hD, ← hx]; grind
  obtain ⟨k, hk⟩ := int_sq h4
  rw [hk, ← Rat.intCast_mul] at h4
  have h5 := Rat.intCast_inj.mp h4
  have h6 : k.natAbs * k.natAbs = I.natAbs := by rw [← Int.natAbs_mul, h5]
  have h7 : (k.natAbs : Int) * k.natAbs = I := by
    have : 0 ≤ I := Int.le_trans (Int.mul_nonneg (by omega) (by omega)) h1
    rw [← Int.natCast_mul, h6]; omega
  have h8 : ¬ k.natAbs < r := fun q => by
    have h9 := Nat.mul_lt_mul'' q q
    rw [← Int.natCast_mul] at h1 h7
    omega
  have h9 : ¬ r < k.natAbs := fun q => by
    have := Int.mul_le_mul (show (r : Int) + 1 ≤ k.natAbs by omega) (show (r : Int) + 1 ≤ k.natAbs by omega) (by omega) (by omega)
    omega
  have h10 : k.natAbs = r := by omega
  rw [h10] at h7
  exact h3 h7
theorem yes_root {d : Rat} {D I : Int} {r : Nat} (h0 : (D : Rat) ≠ 0) (hD : (I : Rat) = (D : Rat) * (D : Rat) * d) (h3 : (r : Int) * r = I) : ((r : Int) : Rat) / (D : Rat) * (((r : Int) : Rat) / (D : Rat)) = d := by
  have h4 : ((r : Int) : Rat) * ((r : Int) : Rat) = (D : Rat) * (D : Rat) * d := by rw [← hD, ← h3, Rat.intCast_mul]
  grind
theorem sq_place {u1 u2 : Rat} {A B D s r : Int} (h0 : (D : Rat) ≠ 0) (h2 : u2 ≠ 0) (hA : (A : Rat) = u2 * (D : Rat)) (hB : (B : Rat) = u1 * (D : Rat)) : Rat.divInt (-B - s * r) (2 * A) = (-u1 - (s : Rat) * ((r : Rat) / (D : Rat))) / (2 * u2) := by
  rw [Rat.divInt_eq_div, Rat.intCast_sub, Rat.intCast_neg, Rat.intCast_mul, Rat.intCast_mul, hA, hB]
  have h4 : ((2 : Int) : Rat) = 2 := rfl
  rw [h4]
  grind
theorem sq_placeP {u1 u2 : Rat} {A B D s r : Int} (h0 : (D : Rat) ≠ 0) (h2 : u2 ≠ 0) (hA : (A : Rat) = u2 * (D : Rat)) (hB : (B : Rat) = u1 * (D : Rat)) : Rat.divInt (-B + s * r) (2 * A) = (-u1 + (s : Rat) * ((r : Rat) / (D : Rat))) / (2 * u2) := by
  rw [Rat.divInt_eq_div, Rat.intCast_add, Rat.intCast_neg, Rat.intCast_mul, Rat.intCast_mul, hA, hB]
  have h4 : ((2 : Int) : Rat) = 2 := rfl
  rw [h4]
  grind
theorem root_uni {a b : Rat} (ha : 0 ≤ a) (hb : 0 ≤ b) (h : a * a = b * b) : a = b := by
  rcases Rat.le_total (a := a) (b := b) with q | q
  · rcases Rat.le_iff_lt_or_eq.mp q with q2 | q2
    · have h1 := Rat.mul_lt_mul_of_pos_right q2 (show 0 < b by grind)
      have h2 := Rat.mul_le_mul_of_nonneg_left q ha
      grind
    · exact q2
  · rcases Rat.le_iff_lt_or_eq.mp q with q2 | q2
    · have h1 := Rat.mul_lt_mul_of_pos_right q2 (show 0 < a by grind)
      have h2 := Rat.mul_le_mul_of_nonneg_left q hb
      grind
    · exact q2.symm
def Dz (u : Nat → Rat) : Int := (u 0).den * (u 1).den * (u 2).den
def Cz (u : Nat → Rat) : Int := (u 0).num * (u 1).den * (u 2).den
def Bz (u : Nat → Rat) : Int := (u 1).num * (u 0).den * (u 2).den
def Az (u : Nat → Rat) : Int := (u 2).num * (u 0).den * (u 1).den
def Iz (u : Nat → Rat) : Int := Bz u * Bz u - 4 * Az u * Cz u
theorem dz0 (u : Nat → Rat) : (Dz u : Rat) ≠ 0 := fun e => by
  have h := Rat.intCast_eq_zero_iff.mp e
  have h0 := (u 0).den_pos
  have h1 := (u 1).den_pos
  have h2 := (u 2).den_pos
  have h3 : (0 : Int) < Dz u := Int.mul_pos (Int.mul_pos (by omega) (by omega)) (by omega)
  omega
theorem cz_r (u : Nat → Rat) : (Cz u : Rat) = u 0 * (Dz u : Rat) := by
  unfold Cz Dz
  rw [Rat.intCast_mul, Rat.intCast_mul, Rat.intCast_mul, Rat.intCast_mul, rat_nd (u 0)]
  grind
theorem bz_r (u : Nat → Rat) : (Bz u : Rat) = u 1 * (Dz u : Rat) := by
  unfold Bz Dz
  rw [Rat.intCast_mul, Rat.intCast_mul, Rat.intCast_mul, Rat.intCast_mul, rat_nd (u 1)]
  grind
theorem az_r (u : Nat → Rat) : (Az u : Rat) = u 2 * (Dz u : Rat) := by
  unfold Az Dz
  rw [Rat.intCast_mul, Rat.intCast_mul, Rat.intCast_mul, Rat.intCast_mul, rat_nd (u 2)]
  grind
theorem iz_r (u : Nat → Rat) : (Iz u : Rat) = (Dz u : Rat) * (Dz u : Rat) * disc u := by
  unfold Iz disc
  rw [Rat.intCast_sub, Rat.intCast_mul, Rat.intCast_mul, Rat.intCast_mul, cz_r, bz_r, az_r]
  have h4 : ((4 : Int) : Rat) = 4 := rfl
  rw [h4]
  grind
theorem dz_pos (u : Nat → Rat) : 0 < (Dz u : Rat) := by
  have h0 := (u 0).den_pos
  have h1 := (u 1).den_pos
  have h2 := (u 2).den_pos
  exact Rat.intCast_pos.mpr (Int.mul_pos (Int.mul_pos (by omega) (by omega)) (by omega))
theorem iz_neg (u : Nat → Rat) : Iz u < 0 ↔ disc u < 0 := by
  have h := dz_pos u
  have h2 := Rat.mul_pos h h
  rw [← Rat.intCast_neg_iff, iz_r, Rat.mul_neg_iff_of_pos_left h2]
def pl1 (u : Nat → Rat) (r : Rat) : Rat := (-u 1 - ((sgZ (u 2).num).toInt : Rat) * r) / (2 * u 2)
def pl2 (u : Nat → Rat) (r : Rat) : Rat := (-u 1 + ((sgZ (u 2).num).toInt : Rat) * r) / (2 * u 2)
def sq3 (r : Int32) : Nat → Int32 := fun j => if j = 1 then 0 else r
def sq5 (r : Int32) : Nat → Int32 := fun j => if j = 0 then r else if j = 1 then 0 else if j = 2 then -r else if j = 3 then 0 else r
/-- what a formula tells of its signs -/
def TellR (u : Nat → Rat) (n : Nat) (pt : Nat → Rat) (sg : Nat → Int32) : Prop :=
  (dgI u ≤ 0 ∧ n = 0 ∧ pt = (fun _ => 0) ∧ sg = (fun _ => sgZ (u 0).num)) ∨
  (dgI u = 1 ∧ n = 1 ∧ pt = (fun _ => -u 0 / u 1) ∧ sg = sl3 (sgZ (u 1).num)) ∨
  (dgI u = 2 ∧ disc u < 0 ∧ n = 0 ∧ pt = (fun _ => 0) ∧ sg = (fun _ => sgZ (u 2).num)) ∨
  (dgI u = 2 ∧ ∃ r : Rat, 0 ≤ r ∧ r * r = disc u ∧ ((r = 0 ∧ n = 1 ∧ pt = (fun _ => pl1 u r) ∧ sg = sq3 (sgZ (u 2).num)) ∨ (r ≠ 0 ∧ n = 2 ∧ pt = (fun k => if k = 0 then pl1 u r else pl2 u r) ∧ sg = sq5 (sgZ (u 2).num))))
def NoTell (u : Nat → Rat) : Prop := dgI u = 3 ∨ (dgI u = 2 ∧ 0 ≤ disc u ∧ ¬ ∃ r : Rat, r * r = disc u)
