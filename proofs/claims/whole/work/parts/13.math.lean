/-! Euclid's steps; fractions as rational numbers -/
theorem eu_half {X Y : Nat} (hY : 0 < Y) (h : Y ≤ X) : 2 * (Y * (X % Y)) ≤ X * Y := by
  have h1 := Nat.div_add_mod X Y
  have h2 := Nat.mod_lt X hY
  have h3 : 1 ≤ X / Y := (Nat.le_div_iff_mul_le hY).mpr (by omega)
  have h4 : Y * 1 ≤ Y * (X / Y) := Nat.mul_le_mul_left Y h3
  have h5 : 2 * (X % Y) ≤ X := by omega
  have h6 := Nat.mul_le_mul_left Y h5
  calc 2 * (Y * (X % Y)) = Y * (2 * (X % Y)) := by rw [Nat.mul_left_comm]
    _ ≤ Y * X := h6
    _ = X * Y := Nat.mul_comm _ _
/-- Euclid's walk from a and b, after k steps -/
def Eu (a b k X Y : Nat) : Prop := Nat.gcd X Y = Nat.gcd a b ∧ (k = 0 ∧ X = a ∧ Y = b ∨ 1 ≤ k ∧ Y < X ∧ X ≤ b ∧ X * Y < 2 ^ (97 - k))
theorem Eu.start (a b : Nat) : Eu a b 0 a b := ⟨rfl, Or.inl ⟨rfl, rfl, rfl⟩⟩
theorem Eu.step {a b k X Y : Nat} (hb : b < 2 ^ 48) (h : Eu a b k X Y) (hY : Y ≠ 0) : Eu a b (k + 1) Y (X % Y) := by
  have hY0 : 0 < Y := Nat.pos_of_ne_zero hY
  have hm := Nat.mod_lt X hY0
  refine ⟨?_, Or.inr ?_⟩
  · rw [← h.1, Nat.gcd_comm Y, ← Nat.gcd_rec, Nat.gcd_comm]
  · rcases h.2 with ⟨rfl, rfl, rfl⟩ | ⟨h1, h2, h3, h4⟩
    · refine ⟨Nat.le_refl _, hm, Nat.le_refl _, ?_⟩
      calc Y * (X % Y) < Y * Y := Nat.mul_lt_mul_of_pos_left hm hY0
        _ ≤ 2 ^ 48 * 2 ^ 48 := Nat.mul_le_mul (Nat.le_of_lt hb) (Nat.le_of_lt hb)
        _ = 2 ^ (97 - (0 + 1)) := by decide
    · refine ⟨by omega, hm, by omega, ?_⟩
      have h5 := eu_half hY0 (Nat.le_of_lt h2)
      have hp : 0 < X * Y := Nat.mul_pos (by omega) hY0
      by_cases hk : 97 - k = 0
      · rw [hk] at h4
        omega
      · have e : 97 - k = (97 - (k + 1)) + 1 := by omega
        rw [e, Nat.pow_succ] at h4
        omega
theorem Eu.done {a b k X Y : Nat} (h : Eu a b k X Y) (hk : 97 ≤ k) : Y = 0 := by
  rcases h.2 with ⟨rfl, -⟩ | ⟨h1, h2, h3, h4⟩
  · omega
  · rw [show 97 - k = 0 by omega] at h4
    have : X * Y = 0 := by omega
    rcases Nat.mul_eq_zero.mp this with e | e <;> omega
theorem Eu.le {a b k X Y : Nat} (h : Eu a b k X Y) : X ≤ max a b ∧ Y ≤ b := by
  rcases h.2 with ⟨rfl, rfl, rfl⟩ | ⟨h1, h2, h3, h4⟩ <;> omega
theorem Eu.end {a b k X : Nat} (h : Eu a b k X 0) : X = Nat.gcd a b := by rw [← h.1, Nat.gcd_zero_right]
/-- |x| of a long, as its method has it -/
theorem i64_abs {x : Int64} (h : x.toInt ≠ -2 ^ 63) : (if 0 < x then x else -x) = lN x.toInt.natAbs := by
  have hr := x.toInt_lt
  have hr2 := x.le_toInt
  have hn : x.toInt.natAbs < 2 ^ 63 := by omega
  apply Int64.toInt_inj.mp
  rw [pk_lT hn]
  split
  · next h1 =>
    rw [Int64.lt_iff_toInt_lt, Int64.toInt_zero] at h1
    omega
  · next h1 =>
    rw [Int64.lt_iff_toInt_lt, Int64.toInt_zero] at h1
    rw [Kit.i64_neg h]
    omega
theorem lN_ne0 {n : Nat} (h : n < 2 ^ 63) (h0 : n ≠ 0) : ¬ lN n = 0 := fun e => by
  have := (pk_lEQ h (show 0 < 2 ^ 63 by decide)).mp (show lN n = lN 0 from e)
  exact h0 this
theorem lN_max1 {n : Nat} (h : n < 2 ^ 63) : (if (1 : Int64) < lN n then lN n else 1) = lN (max n 1) := by
  have e : (1 : Int64) = lN 1 := rfl
  rw [e]
  by_cases h1 : 1 < n
  · rw [if_pos ((pk_lLT (by decide) h).mpr h1), Nat.max_eq_left (Nat.le_of_lt h1)]
  · rw [if_neg (fun q => h1 ((pk_lLT (by decide) h).mp q)), Nat.max_eq_right (by omega)]
/-- the rational number that two longs stand for, in lowest terms -/
def Frx (n d : Int64) (r : Rat) : Prop := n.toInt = r.num ∧ d.toInt = (r.den : Int)
