/-! Euclid's steps; fractions as rational numbers -/
theorem eu_half {X Y : Nat} (hY : 0 < Y) (h : Y ≤ X) : 2 * (Y * (X % Y)) ≤ X * Y := by
  have h1 := Nat.div_add_mod X Y
  have h2 := Nat.mod_lt X hY
  have h3 : 1 ≤ X / Y := (Nat.le_div_iff_mul_le hY).mpr (by omega)
  have h4 : Y * 1 ≤ Y * (X / Y) := Nat.mul_le_mul_left Y h3
  have h5 : 2 * (X % Y) ≤ X := by omega
  have h6 := Nat.mul_le_mul_left Y h5
  calc 2 * (Y * (X % Y)) = Y * (2 * (X % Y)) := by rw [Nat.mul_left_comm]
    _ ≤ Y * X := h6
    _ = X * Y := Nat.mul_comm _ _
/-- Euclid's walk from a and b, after k steps -/
def Eu (a b k X Y : Nat) : Prop := Nat.gcd X Y = Nat.gcd a b ∧ (k = 0 ∧ X = a ∧ Y = b ∨ 1 ≤ k ∧ Y < X ∧ X ≤ b ∧ X * Y < 2 ^ (97 - k))
theorem Eu.start (a b : Nat) : Eu a b 0 a b := ⟨rfl, Or.inl ⟨rfl, rfl, rfl⟩⟩
theorem Eu.step {a b k X Y : Nat} (hb : b < 2 ^ 48) (h : Eu a b k X Y) (hY : Y ≠ 0) : Eu a b (k + 1) Y (X % Y) := by
  have hY0 : 0 < Y := Nat.pos_of_ne_zero hY
  have hm := Nat.mod_lt X hY0
  refine ⟨?_, Or.inr ?_⟩
  · rw [← h.1, Nat.gcd_comm Y, ← Nat.gcd_rec, Nat.gcd_comm]
  · rcases h.2 with ⟨rfl, rfl, rfl⟩ | ⟨h1, h2, h3, h4⟩
    · refine ⟨Nat.le_refl _, hm, Nat.le_refl _, ?_⟩
      calc Y * (X % Y) < Y * Y := Nat.mul_lt_mul_of_pos_left hm hY0
        _ ≤ 2 ^ 48 * 2 ^ 48 := Nat.mul_le_mul (Nat.le_of_lt hb) (Nat.le_of_lt hb)
        _ = 2 ^ (97 - (0 + 1)) := by decide
    · refine ⟨by omega, hm, by omega, ?_⟩
      have h5 := eu_half hY0 (Nat.le_of_lt h2)
      have hp : 0 < X * Y := Nat.mul_pos (by omega) hY0
      by_cases hk : 97 - k = 0
      · rw [hk] at h4
        omega
      · have e : 97 - k = (97 - (k + 1)) + 1 := by omega
        rw [e, Nat.pow_succ] at h4
        omega
theorem Eu.done {a b k X Y : Nat} (h : Eu a b k X Y) (hk : 97 ≤ k) : Y = 0 := by
  rcases h.2 with ⟨rfl, -⟩ | ⟨h1, h2, h3, h4⟩
  · omega
  · rw [show 97 - k = 0 by omega] at h4
    have : X * Y = 0 := by omega
    rcases Nat.mul_eq_zero.mp this with e | e <;> omega
theorem Eu.le {a b k X Y : Nat} (h : Eu a b k X Y) : X ≤ max a b ∧ Y ≤ b := by
  rcases h.2 with ⟨rfl, rfl, rfl⟩ | ⟨h1, h2, h3, h4⟩ <;> omega
theorem Eu.end {a b k X : Nat} (h : Eu a b k X 0) : X = Nat.gcd a b := by rw [← h.1, Nat.gcd_zero_right]
/-- |x| of a long, as its method has it -/
theorem i64_abs {x : Int64} (h : x.toInt ≠ -2 ^ 63) : (if 0 < x then x else -x) = lN x.toInt.natAbs := by
  have hr := x.toInt_lt
  have hr2 := x.le_toInt
  have hn : x.toInt.natAbs < 2 ^ 63 := by omega
  apply Int64.toInt_inj.mp
  rw [pk_lT hn]
  split
  · next h1 =>
    rw [Int64.lt_iff_toInt_lt, Int64.toInt_zero] at h1
    omega
  · next h1 =>
    rw [Int64.lt_iff_toInt_lt, Int64.toInt_zero] at h1
    rw [Kit.i64_neg h]
    omega
theorem lN_ne0 {n : Nat} (h : n < 2 ^ 63) (h0 : n ≠ 0) : ¬ lN n = 0 := fun e => by
  have := (pk_lEQ h (show 0 < 2 ^ 63 by decide)).mp (show lN n = lN 0 from e)
  exact h0 this
theorem lN_max1 {n : Nat} (h : n < 2 ^ 63) : (if (1 : Int64) < lN n then lN n else 1) = lN (max n 1) := by
  have e : (1 : Int64) = lN 1 := rfl
  rw [e]
  by_cases h1 : 1 < n
  · rw [if_pos ((pk_lLT (by decide) h).mpr h1), Nat.max_eq_left (Nat.le_of_lt h1)]
  · rw [if_neg (fun q => h1 ((pk_lLT (by decide) h).mp q)), Nat.max_eq_right (by omega)]
/-- the rational number that two longs stand for, in lowest terms -/
def Frx (n d : Int64) (r : Rat) : Prop := n.toInt = r.num ∧ d.toInt = (r.den : Int)
theorem fx_g {a b g : Int64} (hb : b.toInt ≠ 0) (hb2 : b.toInt.natAbs < 2 ^ 48) (hg : g = lN (max (Nat.gcd a.toInt.natAbs b.toInt.natAbs) 1)) : g.toInt = (Nat.gcd a.toInt.natAbs b.toInt.natAbs : Int) ∧ ¬ g = 0 ∧ 0 < Nat.gcd a.toInt.natAbs b.toInt.natAbs := by
  have h0 : 0 < b.toInt.natAbs := by omega
  have h1 : 0 < Nat.gcd a.toInt.natAbs b.toInt.natAbs := Nat.gcd_pos_of_pos_right _ h0
  have h2 := Nat.gcd_le_right a.toInt.natAbs h0
  rw [Nat.max_eq_left h1] at hg
  subst hg
  exact ⟨pk_lT (by omega), lN_ne0 (by omega) (by omega), h1⟩
theorem fx_pos {a b g : Int64} (hb : b.toInt ≠ 0) (hb2 : b.toInt.natAbs < 2 ^ 48) (hg : g = lN (max (Nat.gcd a.toInt.natAbs b.toInt.natAbs) 1)) (h : ¬ b < 0) : Frx (a / g) (b / g) (Rat.divInt a.toInt b.toInt) := by
  obtain ⟨h1, h2, h3⟩ := fx_g hb hb2 hg
  have hb0 : 0 < b.toInt := by
    rw [Int64.lt_iff_toInt_lt, Int64.toInt_zero] at h
    omega
  have hgm : g.toInt ≠ -1 := by omega
  have da : (Nat.gcd a.toInt.natAbs b.toInt.natAbs : Int) ∣ a.toInt := by first | exact Int.ofNat_dvd_left.mpr (Nat.gcd_dvd_left _ _) | exact Int.gcd_dvd_left ..
  refine ⟨?_, ?_⟩
  · rw [Kit.i64_div (fun q => hgm q.2), h1, Rat.num_divInt, Int.sign_eq_one_of_pos hb0, Int.one_mul, Int.gcd_comm]
    exact Int.tdiv_eq_ediv_of_dvd da
  · rw [Kit.i64_div (fun q => hgm q.2), h1, Rat.den_divInt, if_neg hb, Int.gcd_comm, Int.tdiv_eq_ediv_of_nonneg (Int.le_of_lt hb0)]
    rw [Int.natCast_ediv, Int.natAbs_of_nonneg (Int.le_of_lt hb0)]
    rfl
theorem fx_neg {a b g : Int64} (ha : a.toInt ≠ -2 ^ 63) (hb : b.toInt ≠ 0) (hb2 : b.toInt.natAbs < 2 ^ 48) (hg : g = lN (max (Nat.gcd a.toInt.natAbs b.toInt.natAbs) 1)) (h : b < 0) : Frx (-a / g) (-b / g) (Rat.divInt a.toInt b.toInt) := by
  obtain ⟨h1, h2, h3⟩ := fx_g hb hb2 hg
  have hb0 : b.toInt < 0 := by
    rw [Int64.lt_iff_toInt_lt, Int64.toInt_zero] at h
    exact h
  have hgm : g.toInt ≠ -1 := by omega
  have da : (Nat.gcd a.toInt.natAbs b.toInt.natAbs : Int) ∣ a.toInt := by first | exact Int.ofNat_dvd_left.mpr (Nat.gcd_dvd_left _ _) | exact Int.gcd_dvd_left ..
  refine ⟨?_, ?_⟩
  · rw [Kit.i64_div (fun q => hgm q.2), h1, Kit.i64_neg ha, Rat.num_divInt, Int.sign_eq_neg_one_of_neg hb0, Int.neg_one_mul, Int.gcd_comm]
    exact Int.tdiv_eq_ediv_of_dvd ((Int.dvd_neg).mpr da)
  · rw [Kit.i64_div (fun q => hgm q.2), h1, Kit.i64_neg (by omega), Rat.den_divInt, if_neg hb, Int.gcd_comm, Int.tdiv_eq_ediv_of_nonneg (by omega)]
    rw [Int.natCast_ediv, Int.ofNat_natAbs_of_nonpos (Int.le_of_lt hb0)]
    rfl
/-- a common denominator D under which two fractions and their sum stay small -/
def Pb (r1 r2 : Rat) : Prop := ∃ D : Nat, 0 < D ∧ D < 2 ^ 48 ∧ r1.den ∣ D ∧ r2.den ∣ D ∧ r1.num.natAbs * (D / r1.den) < 2 ^ 61 ∧ r2.num.natAbs * (D / r2.den) < 2 ^ 61
theorem i64_eq {x y : Int64} (h : x.toInt = y.toInt) : x = y := Int64.toInt_inj.mp h
theorem fx_den {n d : Int64} {r : Rat} (h : Frx n d r) : 0 < d.toInt ∧ d.toInt.natAbs = r.den ∧ n.toInt.natAbs = r.num.natAbs := by
  have := r.den_pos
  obtain ⟨h1, h2⟩ := h
  omega
theorem fx_sum {n1 d1 n2 d2 g : Int64} {r1 r2 : Rat} (h1 : Frx n1 d1 r1) (h2 : Frx n2 d2 r2) (hb : Pb r1 r2) (hg : g = lN (max (Nat.gcd d1.toInt.natAbs d2.toInt.natAbs) 1)) :
    ¬ g = 0 ∧ (n1 * (d2 / g) + n2 * (d1 / g)).toInt ≠ -2 ^ 63 ∧ (d1 * (d2 / g)).toInt ≠ 0 ∧ (d1 * (d2 / g)).toInt.natAbs < 2 ^ 48 ∧ Rat.divInt (n1 * (d2 / g) + n2 * (d1 / g)).toInt (d1 * (d2 / g)).toInt = r1 + r2 := by
  obtain ⟨D, hD0, hD, k1, k2, b1, b2⟩ := hb
  obtain ⟨p1, q1, -⟩ := fx_den h1
  obtain ⟨p2, q2, -⟩ := fx_den h2
  rw [q1, q2] at hg
  have z1 := r1.den_pos
  have z2 := r2.den_pos
  obtain ⟨e1, e2⟩ := h1
  obtain ⟨f1, f2⟩ := h2
  have hgp : 0 < Nat.gcd r1.den r2.den := Nat.gcd_pos_of_pos_left _ z1
  generalize hgg : Nat.gcd r1.den r2.den = k at hg hgp
  obtain ⟨x, hx⟩ : k ∣ r1.den := by rw [← hgg]; exact Nat.gcd_dvd_left _ _
  obtain ⟨y, hy⟩ : k ∣ r2.den := by rw [← hgg]; exact Nat.gcd_dvd_right _ _
  have hx0 : 0 < x := Nat.pos_of_ne_zero (fun e => by rw [e] at hx; omega)
  have hy0 : 0 < y := Nat.pos_of_ne_zero (fun e => by rw [e] at hy; omega)
  have hle1 : r1.den ≤ D := Nat.le_of_dvd hD0 k1
  have hle2 : r2.den ≤ D := Nat.le_of_dvd hD0 k2
  have hkl : k ≤ r1.den := by rw [hx]; exact Nat.le_mul_of_pos_right k hx0
  rw [Nat.max_eq_left hgp] at hg
  have hgi : g.toInt = (k : Int) := by rw [hg]; exact pk_lT (by omega)
  have hcop : Nat.Coprime x y := by
    have h9 : Nat.gcd (k * x) (k * y) = k := by rw [← hx, ← hy]; exact hgg
    rw [Nat.gcd_mul_left] at h9
    exact Nat.eq_of_mul_eq_mul_left hgp (by rw [h9, Nat.mul_one])
  -- the least common denominator k x y divides D
  have hL : k * x * y ∣ D := by
    obtain ⟨u, hu⟩ := k1
    obtain ⟨w, hw⟩ := k2
    rw [hx] at hu
    rw [hy] at hw
    have h8 : x * u = y * w := Nat.eq_of_mul_eq_mul_left hgp (by rw [← Nat.mul_assoc, ← Nat.mul_assoc, ← hu, ← hw])
    have h7 : y ∣ u := hcop.symm.dvd_of_dvd_mul_left (by rw [h8]; exact Nat.dvd_mul_right y w)
    obtain ⟨t, ht⟩ := h7
    exact ⟨t, by rw [hu, ht, Nat.mul_assoc (k * x)]⟩
  have hLle : k * x * y ≤ D := Nat.le_of_dvd hD0 hL
  obtain ⟨t, ht⟩ := hL
  have ht0 : 0 < t := Nat.pos_of_ne_zero (fun e => by rw [e] at ht; omega)
  have hD1 : D / r1.den = y * t := by rw [hx, ht, Nat.mul_assoc, Nat.mul_div_cancel_left _ (Nat.mul_pos hgp hx0)]
  have hD2 : D / r2.den = x * t := by rw [hy, ht, Nat.mul_right_comm k x y, Nat.mul_assoc (k * y), Nat.mul_div_cancel_left _ (Nat.mul_pos hgp hy0)]
  rw [hD1] at b1
  rw [hD2] at b2
  have hyt : y ≤ y * t := Nat.le_mul_of_pos_right y ht0
  have hxt : x ≤ x * t := Nat.le_mul_of_pos_right x ht0
  have c1 : r1.num.natAbs * y < 2 ^ 61 := Nat.lt_of_le_of_lt (Nat.mul_le_mul_left _ hyt) b1
  have c2 : r2.num.natAbs * x < 2 ^ 61 := Nat.lt_of_le_of_lt (Nat.mul_le_mul_left _ hxt) b2
  have hxy : k * (x * y) < 2 ^ 48 := by rw [← Nat.mul_assoc]; omega
  have hgm : g.toInt ≠ -1 := by omega
  have w1 : (d2 / g).toInt = (y : Int) := by
    rw [Kit.i64_div (fun q => hgm q.2), hgi, f2, hy, Int.natCast_mul, Int.mul_tdiv_cancel_left _ (by omega)]
  have w2 : (d1 / g).toInt = (x : Int) := by
    rw [Kit.i64_div (fun q => hgm q.2), hgi, e2, hx, Int.natCast_mul, Int.mul_tdiv_cancel_left _ (by omega)]
  have c1' : (r1.num * (y : Int)).natAbs < 2 ^ 61 := by rw [Int.natAbs_mul]; exact c1
  have c2' : (r2.num * (x : Int)).natAbs < 2 ^ 61 := by rw [Int.natAbs_mul]; exact c2
  have m1 : (n1 * (d2 / g)).toInt = r1.num * y := by rw [Kit.i64_mul (by rw [w1, e1]; omega) (by rw [w1, e1]; omega), w1, e1]
  have m2 : (n2 * (d1 / g)).toInt = r2.num * x := by rw [Kit.i64_mul (by rw [w2, f1]; omega) (by rw [w2, f1]; omega), w2, f1]
  have m3 : (n1 * (d2 / g) + n2 * (d1 / g)).toInt = r1.num * y + r2.num * x := by rw [Kit.i64_add (by rw [m1, m2]; omega) (by rw [m1, m2]; omega), m1, m2]
  have hd1y : (r1.den : Int) * y = ((k * (x * y) : Nat) : Int) := by rw [hx, ← Int.natCast_mul, Nat.mul_assoc]
  have m4 : (d1 * (d2 / g)).toInt = (r1.den : Int) * y := by rw [Kit.i64_mul (by rw [w1, e2, hd1y]; omega) (by rw [w1, e2, hd1y]; omega), w1, e2]
  have hpos : 0 < k * (x * y) := Nat.mul_pos hgp (Nat.mul_pos hx0 hy0)
  refine ⟨by rw [hg]; exact lN_ne0 (by omega) (by omega), by rw [m3]; omega, by rw [m4, hd1y]; omega, by rw [m4, hd1y]; omega, ?_⟩
  rw [m3, m4]
  have hs : r1 + r2 = Rat.divInt (r1.num * r2.den + r2.num * r1.den) (r1.den * r2.den) := by
    rw [Rat.add_def', ← Rat.divInt_ofNat, Int.natCast_mul]
  rw [hs]
  have hk0 : (k : Int) ≠ 0 := by omega
  rw [← Rat.divInt_mul_right hk0]
  congr 1
  · rw [hy, hx, Int.natCast_mul, Int.natCast_mul, Int.add_mul, Int.mul_assoc, Int.mul_assoc, Int.mul_comm (k : Int) y, Int.mul_comm (k : Int) x]
  · rw [hy, Int.natCast_mul, Int.mul_assoc, Int.mul_comm (k : Int) y]
theorem fx_mul {n1 d1 n2 d2 : Int64} {r1 r2 : Rat} (h1 : Frx n1 d1 r1) (h2 : Frx n2 d2 r2) (hn : r1.num.natAbs * r2.num.natAbs < 2 ^ 62) (hd : r1.den * r2.den < 2 ^ 48) :
    (n1 * n2).toInt ≠ -2 ^ 63 ∧ (d1 * d2).toInt ≠ 0 ∧ (d1 * d2).toInt.natAbs < 2 ^ 48 ∧ Rat.divInt (n1 * n2).toInt (d1 * d2).toInt = r1 * r2 := by
  have z1 := r1.den_pos
  have z2 := r2.den_pos
  obtain ⟨e1, e2⟩ := h1
  obtain ⟨f1, f2⟩ := h2
  have c1 : (r1.num * r2.num).natAbs < 2 ^ 62 := by rw [Int.natAbs_mul]; exact hn
  have hz : 0 < r1.den * r2.den := Nat.mul_pos z1 z2
  have e : (r1.den : Int) * r2.den = ((r1.den * r2.den : Nat) : Int) := (Int.natCast_mul _ _).symm
  have m1 : (n1 * n2).toInt = r1.num * r2.num := by rw [Kit.i64_mul (by rw [e1, f1]; omega) (by rw [e1, f1]; omega), e1, f1]
  have m2 : (d1 * d2).toInt = (r1.den : Int) * r2.den := by rw [Kit.i64_mul (by rw [e2, f2, e]; omega) (by rw [e2, f2, e]; omega), e2, f2]
  refine ⟨by rw [m1]; omega, by rw [m2, e]; omega, by rw [m2, e]; omega, ?_⟩
  rw [m1, m2, Rat.mul_def', ← Rat.divInt_ofNat, Int.natCast_mul]
/-- the order of two fractions, as a number -/
def cmpR (a b : Rat) : Int32 := if a < b then -1 else if a = b then 0 else 1
theorem fx_cmp {n1 d1 n2 d2 : Int64} {r1 r2 : Rat} (h1 : Frx n1 d1 r1) (h2 : Frx n2 d2 r2) (hn : r1.num.natAbs * r2.den < 2 ^ 62) (hm : r2.num.natAbs * r1.den < 2 ^ 62) :
    (if n1 * d2 < n2 * d1 then -1 else if n1 * d2 = n2 * d1 then 0 else 1) = cmpR r1 r2 := by
  obtain ⟨e1, e2⟩ := h1
  obtain ⟨f1, f2⟩ := h2
  have c1 : (r1.num * (r2.den : Int)).natAbs < 2 ^ 62 := by rw [Int.natAbs_mul]; exact hn
  have c2 : (r2.num * (r1.den : Int)).natAbs < 2 ^ 62 := by rw [Int.natAbs_mul]; exact hm
  have m1 : (n1 * d2).toInt = r1.num * r2.den := by rw [Kit.i64_mul (by rw [e1, f2]; omega) (by rw [e1, f2]; omega), e1, f2]
  have m2 : (n2 * d1).toInt = r2.num * r1.den := by rw [Kit.i64_mul (by rw [f1, e2]; omega) (by rw [f1, e2]; omega), f1, e2]
  have a1 : n1 * d2 < n2 * d1 ↔ r1 < r2 := by rw [Int64.lt_iff_toInt_lt, m1, m2, Rat.lt_iff]
  have a2 : n1 * d2 = n2 * d1 ↔ r1 = r2 := by rw [← Int64.toInt_inj, m1, m2, Rat.eq_iff_mul_eq_mul]
  unfold cmpR
  by_cases h : r1 < r2
  · rw [if_pos h, if_pos (a1.mpr h)]
  · rw [if_neg h, if_neg (fun q => h (a1.mp q))]
    by_cases h' : r1 = r2
    · rw [if_pos h', if_pos (a2.mpr h')]
    · rw [if_neg h', if_neg (fun q => h' (a2.mp q))]
/-- too great a part -/
def tgR (r : Rat) : Bool := decide (60 < r.num ∨ r.num < -60 ∨ 60 < (r.den : Int))
def b2i (b : Bool) : Int32 := match b with
  | true => 1
  | false => 0
theorem b2i_n (b : Bool) : narrow .boolean (.int (b2i b)) = .int (b2i b) := by cases b <;> rfl
theorem b2i_0 (b : Bool) : b2i b = 0 ↔ b = false := by cases b <;> simp [b2i]
