/-! no number on the way passes a long -/
def Fq (r : Rat) (D B : Nat) : Prop := ∃ X : Int, r * ((D : Int) : Rat) = (X : Rat) ∧ X.natAbs ≤ B
theorem fq_nd {r : Rat} {D B : Nat} (hD : 0 < D) (h : Fq r D B) : r.den ∣ D ∧ r.num.natAbs * (D / r.den) ≤ B ∧ r.num.natAbs ≤ B ∧ r.den ≤ D := by
  obtain ⟨X, h1, h2⟩ := h
  have h3 : ((r.num * (D : Int) : Int) : Rat) = ((X * (r.den : Int) : Int) : Rat) := by
    rw [Rat.intCast_mul, Rat.intCast_mul, ← h1, rat_nd r]
    grind
  have h4 : r.num * (D : Int) = X * (r.den : Int) := Rat.intCast_inj.mp h3
  have h5 : r.den ∣ r.num.natAbs * D := by
    have e : (r.num * (D : Int)).natAbs = (X * (r.den : Int)).natAbs := by rw [h4]
    rw [Int.natAbs_mul, Int.natAbs_mul, Int.natAbs_natCast, Int.natAbs_natCast] at e
    rw [e]
    exact Nat.dvd_mul_left _ _
  have hdd : r.den ∣ D := (Nat.Coprime.dvd_of_dvd_mul_left r.reduced.symm h5)
  have hd0 := r.den_pos
  obtain ⟨e, he⟩ := hdd
  have e1 : D / r.den = e := by rw [he]; exact Nat.mul_div_cancel_left _ hd0
  have e0 : 0 < e := Nat.pos_of_ne_zero (fun q => by rw [q] at he; omega)
  have h6 : r.num.natAbs * e = X.natAbs := by
    have q : (r.num * (D : Int)).natAbs = (X * (r.den : Int)).natAbs := by rw [h4]
    rw [Int.natAbs_mul, Int.natAbs_mul, Int.natAbs_natCast, Int.natAbs_natCast, he] at q
    have q2 : r.den * (r.num.natAbs * e) = r.den * X.natAbs := by
      rw [Nat.mul_comm r.den X.natAbs, ← q, Nat.mul_left_comm]
    exact Nat.eq_of_mul_eq_mul_left hd0 q2
  refine ⟨⟨e, he⟩, by rw [e1, h6]; exact h2, ?_, Nat.le_of_dvd hD ⟨e, he⟩⟩
  exact Nat.le_trans (Nat.le_mul_of_pos_right _ e0) (by rw [h6]; exact h2)
theorem fq_sum {r s : Rat} {D B C : Nat} (h : Fq r D B) (g : Fq s D C) : Fq (r + s) D (B + C) := by
  obtain ⟨X, h1, h2⟩ := h
  obtain ⟨Y, g1, g2⟩ := g
  refine ⟨X + Y, ?_, Nat.le_trans (Int.natAbs_add_le X Y) (by omega)⟩
  rw [Rat.intCast_add, ← h1, ← g1]
  grind
theorem fq_mul {r s : Rat} {D E B C : Nat} (h : Fq r D B) (g : Fq s E C) : Fq (r * s) (D * E) (B * C) := by
  obtain ⟨X, h1, h2⟩ := h
  obtain ⟨Y, g1, g2⟩ := g
  refine ⟨X * Y, ?_, by rw [Int.natAbs_mul]; exact Nat.mul_le_mul h2 g2⟩
  rw [Rat.intCast_mul, ← h1, ← g1, Int.natCast_mul, Rat.intCast_mul]
  grind
theorem fq_up {r : Rat} {D B : Nat} (h : Fq r D B) (k : Nat) : Fq r (D * k) (B * k) := by
  obtain ⟨X, h1, h2⟩ := h
  refine ⟨X * (k : Int), ?_, by rw [Int.natAbs_mul, Int.natAbs_natCast]; exact Nat.mul_le_mul_right k h2⟩
  rw [Rat.intCast_mul, ← h1, Int.natCast_mul, Rat.intCast_mul]
  grind
theorem Fq.le {r : Rat} {D B C : Nat} (h : Fq r D B) (hc : B ≤ C) : Fq r D C := by
  obtain ⟨X, h1, h2⟩ := h
  exact ⟨X, h1, Nat.le_trans h2 hc⟩
theorem fq_0 (D B : Nat) : Fq 0 D B := ⟨0, by rw [Rat.zero_mul]; rfl, Nat.zero_le _⟩
theorem fq_sm {r : Rat} (h : Sm r) : Fq r r.den 60 := ⟨r.num, (rat_nd r).symm, h.1⟩
theorem pb_of {r s : Rat} {D B C : Nat} (hD : 0 < D) (hD2 : D < 2 ^ 48) (h : Fq r D B) (g : Fq s D C) (hB : B < 2 ^ 61) (hC : C < 2 ^ 61) : Pb r s := by
  obtain ⟨h1, h2, _, _⟩ := fq_nd hD h
  obtain ⟨g1, g2, _, _⟩ := fq_nd hD g
  exact ⟨D, hD, hD2, h1, g1, Nat.lt_of_le_of_lt h2 hB, Nat.lt_of_le_of_lt g2 hC⟩
theorem fq_psum {u v : Nat → Rat} {p D B : Nat} : ∀ o, (∀ i, i < o → Fq (u i * v (p - i)) D B) → Fq (psum u v p o) D (o * B) := by
  intro o
  induction o with
  | zero => exact fun _ => fq_0 _ _
  | succ o ih =>
    intro h
    rw [Nat.succ_mul]
    exact fq_sum (ih (fun i hi => h i (by omega))) (h o (by omega))
/-- a common denominator of four fractions -/
def dn4 (u : Nat → Rat) : Nat := (u 0).den * (u 1).den * ((u 2).den * (u 3).den)
theorem dn4_pos (u : Nat → Rat) : 0 < dn4 u := Nat.mul_pos (Nat.mul_pos (u 0).den_pos (u 1).den_pos) (Nat.mul_pos (u 2).den_pos (u 3).den_pos)
theorem dn4_le {u : Nat → Rat} (h : ∀ k, k < 4 → Sm (u k)) : dn4 u ≤ 12960000 := by
  have h0 := (h 0 (by decide)).2
  have h1 := (h 1 (by decide)).2
  have h2 := (h 2 (by decide)).2
  have h3 := (h 3 (by decide)).2
  have a := Nat.mul_le_mul h0 h1
  have b := Nat.mul_le_mul h2 h3
  exact Nat.mul_le_mul a b
theorem fq_4 {u : Nat → Rat} (h : ∀ k, k < 4 → Sm (u k)) : ∀ k, k < 4 → Fq (u k) (dn4 u) 12960000 := by
  have h0 := (h 0 (by decide)).2
  have h1 := (h 1 (by decide)).2
  have h2 := (h 2 (by decide)).2
  have h3 := (h 3 (by decide)).2
  have key : ∀ k m, k < 4 → (u k).den * m = dn4 u → m ≤ 216000 → Fq (u k) (dn4 u) 12960000 := fun k m hk e hm => by
    have g := fq_up (fq_sm (h k hk)) m
    rw [e] at g
    exact g.le (by omega)
  have b01 := Nat.mul_le_mul h0 h1
  have b23 := Nat.mul_le_mul h2 h3
  intro k hk
  rcases (show k = 0 ∨ k = 1 ∨ k = 2 ∨ k = 3 by omega) with rfl | rfl | rfl | rfl
  · exact key 0 ((u 1).den * ((u 2).den * (u 3).den)) hk (by unfold dn4; rw [Nat.mul_assoc]) (Nat.mul_le_mul h1 b23)
  · exact key 1 ((u 0).den * ((u 2).den * (u 3).den)) hk (by unfold dn4; rw [← Nat.mul_assoc, Nat.mul_comm (u 1).den]) (Nat.mul_le_mul h0 b23)
  · exact key 2 ((u 3).den * ((u 0).den * (u 1).den)) hk (by unfold dn4; rw [← Nat.mul_assoc, Nat.mul_comm]) (Nat.mul_le_mul h3 b01)
  · exact key 3 ((u 2).den * ((u 0).den * (u 1).den)) hk (by unfold dn4; rw [← Nat.mul_assoc, Nat.mul_comm (u 3).den, Nat.mul_comm]) (Nat.mul_le_mul h2 b01)
/-- what two rows need so that their product passes no long -/
def Bok (U V : Nat → Rat) : Prop := (∀ i, ∃ D B, 0 < D ∧ Fq (U i) D B ∧ D ≤ 46656000000 ∧ B ≤ 326592000000) ∧ (∀ j, Sm (V j)) ∧ ∀ m, ∃ D B, 0 < D ∧ D < 2 ^ 48 ∧ B ≤ 167961600000000 ∧ ∀ i, i ≤ m → Fq (U i * V (m - i)) D B
theorem Bok.m10 {U V : Nat → Rat} (h : Bok U V) : M10 U V := by
  obtain ⟨h1, h2, h3⟩ := h
  refine ⟨fun i j hij _ _ => ?_, fun m o hm ho _ _ => ?_⟩
  · obtain ⟨D, B, d0, f, d1, b1⟩ := h1 i
    obtain ⟨_, _, g1, g2⟩ := fq_nd d0 f
    have s1 := (h2 j).1
    have s2 := (h2 j).2
    have m1 := Nat.mul_le_mul g1 s1
    have m2 := Nat.mul_le_mul g2 s2
    exact ⟨by omega, by omega, by omega, by omega⟩
  · obtain ⟨D, B, d0, d1, b1, f⟩ := h3 m
    have m1 := Nat.mul_le_mul (show o ≤ 9 by omega) b1
    exact pb_of d0 d1 (fq_psum o (fun i hi => f i (by omega))) (f o ho) (by omega) (by omega)
theorem Bok.mok {U V u v : Nat → Rat} (h : Bok U V) (eu : ∀ k, k < 4 → u k = U k) (ev : ∀ k, k < 4 → v k = V k) : Mok u v := by
  obtain ⟨h1, h2, h3⟩ := h
  refine ⟨fun i j hij => ?_, fun m o hm ho => ?_⟩
  · obtain ⟨D, B, d0, f, d1, b1⟩ := h1 i
    obtain ⟨_, _, g1, g2⟩ := fq_nd d0 f
    have s1 := (h2 j).1
    have s2 := (h2 j).2
    have m1 := Nat.mul_le_mul g1 s1
    have m2 := Nat.mul_le_mul g2 s2
    rw [eu i (by omega), ev j (by omega)]
    exact ⟨by omega, by omega⟩
  · obtain ⟨D, B, d0, d1, b1, f⟩ := h3 m
    have m1 := Nat.mul_le_mul (show o ≤ 9 by omega) b1
    rw [psum_cg (u2 := U) (v2 := V) o (by omega) (fun a ha => by rw [eu a (by omega), ev (m - a) (by omega)]), eu o (by omega), ev (m - o) (by omega)]
    exact pb_of d0 d1 (fq_psum o (fun i hi => f i (by omega))) (f o ho) (by omega) (by omega)
theorem sm_0 : Sm 0 := ⟨by decide, by decide⟩
theorem ext_sm {v : Nat → Rat} (h : ∀ k, k < 4 → Sm (v k)) (j : Nat) : Sm (ext v j) := by
  unfold ext
  split
  · next q => exact h j q
  · exact sm_0
theorem ext_fq {u : Nat → Rat} (h : ∀ k, k < 4 → Sm (u k)) (k : Nat) : Fq (ext u k) (dn4 u) 12960000 := by
  unfold ext
  split
  · next q => exact fq_4 h k q
  · exact fq_0 _ _
theorem bok_A {U u v : Nat → Rat} (hu : ∀ k, k < 4 → Sm (u k)) (hv : ∀ k, k < 4 → Sm (v k)) (hU : ∀ k, Fq (U k) (dn4 u) 12960000) : Bok U (ext v) := by
  have du := dn4_le hu
  have dv := dn4_le hv
  have d0 := dn4_pos u
  have d1 := dn4_pos v
  refine ⟨fun i => ⟨dn4 u, 12960000, d0, hU i, by omega, by omega⟩, ext_sm hv, fun m => ⟨dn4 u * dn4 v, 12960000 * 12960000, Nat.mul_pos d0 d1, ?_, by omega, fun i _ => fq_mul (hU i) (ext_fq hv _)⟩⟩
  exact Nat.lt_of_le_of_lt (Nat.mul_le_mul du dv) (by decide)
theorem psum_lin {H V : Nat → Rat} (hV : ∀ j, 2 ≤ j → V j = 0) (m : Nat) : psum H V m (m + 1) = H m * V 0 + (if m = 0 then 0 else H (m - 1) * V 1) := by
  show psum H V m m + H m * V (m - m) = _
  rw [Nat.sub_self, Rat.add_comm]
  congr 1
  by_cases h : m = 0
  · rw [if_pos h, h]; rfl
  · rw [if_neg h]
    obtain ⟨n, rfl⟩ : ∃ n, m = n + 1 := ⟨m - 1, by omega⟩
    show psum H V (n + 1) n + H n * V (n + 1 - n) = _
    rw [psum_z n (fun o ho => by rw [hV (n + 1 - o) (by omega), Rat.mul_zero]), Rat.zero_add, show n + 1 - n = 1 by omega]
    rfl
def Bq : Nat → Nat
  | 0 => 12960000
  | t + 1 => 120 * Bq t + 12960000 * 60 ^ (t + 1)
theorem pw_le {a b t k : Nat} (ha : a ≤ 60) (hb : b ≤ 60) (hk : k ≤ t) : a ^ (t - k) * b ^ k ≤ 60 ^ t := by
  have h1 := Nat.pow_le_pow_left ha (t - k)
  have h2 := Nat.pow_le_pow_left hb k
  have h3 := Nat.mul_le_mul h1 h2
  rw [← Nat.pow_add, show t - k + k = t by omega] at h3
  exact h3
theorem hq_lin {u v : Nat → Rat} (hu : ∀ k, k < 4 → Sm (u k)) (hv : ∀ k, k < 4 → Sm (v k)) (h2 : v 2 = 0) (h3 : v 3 = 0) : ∀ t, t < 4 → ∀ k, (k ≤ t → Fq (hq u v (t + 1) k) (dn4 u * ((v 0).den ^ (t - k) * (v 1).den ^ k)) (Bq t)) ∧ (t < k → hq u v (t + 1) k = 0) := by
  have hV : ∀ j, 2 ≤ j → ext v j = 0 := fun j hj => by
    unfold ext
    split
    · rcases (show j = 2 ∨ j = 3 by omega) with rfl | rfl
      · exact h2
      · exact h3
    · rfl
  have a60 := (hv 0 (by decide)).2
  have f0 : Fq (ext v 0) (v 0).den 60 := fq_sm (hv 0 (by decide))
  have f1 : Fq (ext v 1) (v 1).den 60 := fq_sm (hv 1 (by decide))
  intro t
  induction t with
  | zero =>
    intro _ k
    have e : hq u v 1 k = if k = 0 then u 3 else 0 := by
      show psum (fun _ => 0) (ext v) k (k + 1) + (if k = 0 then u 3 else 0) = _
      rw [psum_z _ (fun o _ => Rat.zero_mul _), Rat.zero_add]
    refine ⟨fun hk => ?_, fun hk => by rw [e, if_neg (by omega)]⟩
    rw [e, if_pos (by omega), show k = 0 by omega]
    show Fq (u 3) (dn4 u * 1) 12960000
    rw [Nat.mul_one]
    exact fq_4 hu 3 (by decide)
  | succ t ih =>
    intro ht k
    have ih := ih (by omega)
    have e : hq u v (t + 1 + 1) k = hq u v (t + 1) k * ext v 0 + (if k = 0 then 0 else hq u v (t + 1) (k - 1) * ext v 1) + (if k = 0 then u (3 - (t + 1)) else 0) := by
      show psum (hq u v (t + 1)) (ext v) k (k + 1) + (if k = 0 then u (3 - (t + 1)) else 0) = _
      rw [psum_lin hV]
    rw [e]
    constructor
    · intro hk
      have c1 : Fq (hq u v (t + 1) k * ext v 0) (dn4 u * ((v 0).den ^ (t + 1 - k) * (v 1).den ^ k)) (Bq t * 60) := by
        rcases Nat.lt_or_ge t k with q | q
        · rw [(ih k).2 q, Rat.zero_mul]; exact fq_0 _ _
        · have g := fq_mul ((ih k).1 q) f0
          rw [show dn4 u * ((v 0).den ^ (t - k) * (v 1).den ^ k) * (v 0).den = dn4 u * ((v 0).den ^ (t + 1 - k) * (v 1).den ^ k) from by
            rw [show t + 1 - k = t - k + 1 by omega, Nat.pow_succ]
            simp only [Nat.mul_assoc, Nat.mul_comm, Nat.mul_left_comm]] at g
          exact g
      by_cases k0 : k = 0
      · rw [if_pos k0, if_pos k0, Rat.add_zero]
        have c2 := fq_up (fq_4 hu (3 - (t + 1)) (by omega)) ((v 0).den ^ (t + 1))
        rw [k0] at c1 ⊢
        have e2 : dn4 u * ((v 0).den ^ (t + 1 - 0) * (v 1).den ^ 0) = dn4 u * (v 0).den ^ (t + 1) := by rw [Nat.pow_zero, Nat.mul_one, Nat.sub_zero]
        rw [e2] at c1 ⊢
        refine (fq_sum c1 c2).le ?_
        have := Nat.mul_le_mul_left 12960000 (Nat.pow_le_pow_left a60 (t + 1))
        show _ ≤ 120 * Bq t + 12960000 * 60 ^ (t + 1)
        omega
      · rw [if_neg k0, if_neg k0, Rat.add_zero]
        have c2 : Fq (hq u v (t + 1) (k - 1) * ext v 1) (dn4 u * ((v 0).den ^ (t + 1 - k) * (v 1).den ^ k)) (Bq t * 60) := by
          have g := fq_mul ((ih (k - 1)).1 (by omega)) f1
          rw [show dn4 u * ((v 0).den ^ (t - (k - 1)) * (v 1).den ^ (k - 1)) * (v 1).den = dn4 u * ((v 0).den ^ (t + 1 - k) * (v 1).den ^ k) from by
            rw [show t - (k - 1) = t + 1 - k by omega]
            obtain ⟨n, rfl⟩ : ∃ n, k = n + 1 := ⟨k - 1, by omega⟩
            rw [show n + 1 - 1 = n by omega, Nat.pow_succ]
            simp only [Nat.mul_assoc]] at g
          exact g
        refine (fq_sum c1 c2).le ?_
        show _ ≤ 120 * Bq t + 12960000 * 60 ^ (t + 1)
        omega
    · intro hk
      rw [(ih k).2 (by omega), Rat.zero_mul, if_neg (by omega), if_neg (by omega), (ih (k - 1)).2 (by omega), Rat.zero_mul, Rat.add_zero, Rat.add_zero]
theorem bq_le : Bq 0 ≤ 326592000000 ∧ Bq 1 ≤ 326592000000 ∧ Bq 2 ≤ 326592000000 := by decide
theorem bok_B {u v : Nat → Rat} (hu : ∀ k, k < 4 → Sm (u k)) (hv : ∀ k, k < 4 → Sm (v k)) (h2 : v 2 = 0) (h3 : v 3 = 0) {t : Nat} (ht : t < 3) : Bok (hq u v (t + 1)) (ext v) ∧ ∃ D B, 0 < D ∧ D < 2 ^ 48 ∧ B < 2 ^ 61 ∧ Fq (hq u v (t + 1) 0 * ext v 0) D B ∧ Fq (u (3 - (t + 1))) D B := by
  have L := hq_lin hu hv h2 h3 t (by omega)
  have hV : ∀ j, 2 ≤ j → ext v j = 0 := fun j hj => by
    unfold ext
    split
    · rcases (show j = 2 ∨ j = 3 by omega) with rfl | rfl
      · exact h2
      · exact h3
    · rfl
  have a60 := (hv 0 (by decide)).2
  have b60 := (hv 1 (by decide)).2
  have a0 := (v 0).den_pos
  have b0 := (v 1).den_pos
  have f0 : Fq (ext v 0) (v 0).den 60 := fq_sm (hv 0 (by decide))
  have f1 : Fq (ext v 1) (v 1).den 60 := fq_sm (hv 1 (by decide))
  have du := dn4_le hu
  have d0 := dn4_pos u
  have hB : Bq t ≤ 326592000000 := by
    rcases (show t = 0 ∨ t = 1 ∨ t = 2 by omega) with rfl | rfl | rfl
    · exact bq_le.1
    · exact bq_le.2.1
    · exact bq_le.2.2
  have p3 : (60 : Nat) ^ t ≤ 3600 := by
    have := Nat.pow_le_pow_right (show 0 < 60 by decide) (show t ≤ 2 by omega)
    exact Nat.le_trans this (by decide)
  have p4 : (60 : Nat) ^ (t + 1) ≤ 216000 := by
    have := Nat.pow_le_pow_right (show 0 < 60 by decide) (show t + 1 ≤ 3 by omega)
    exact Nat.le_trans this (by decide)
  have wpos : ∀ x k, 0 < dn4 u * ((v 0).den ^ x * (v 1).den ^ k) := fun x k => Nat.mul_pos d0 (Nat.mul_pos (Nat.pow_pos a0) (Nat.pow_pos b0))
  have st : ∀ m i, i ≤ m → m ≤ t + 1 → Fq (hq u v (t + 1) i * ext v (m - i)) (dn4 u * ((v 0).den ^ (t + 1 - m) * (v 1).den ^ m)) (Bq t * 60) := by
    intro m i hi hm
    rcases Nat.lt_or_ge t i with q | q
    · rw [(L i).2 q, Rat.zero_mul]; exact fq_0 _ _
    · rcases Nat.lt_or_ge (m - i) 2 with g | g
      · rcases (show m = i ∨ m = i + 1 by omega) with rfl | rfl
        · rw [Nat.sub_self]
          have g := fq_mul ((L m).1 q) f0
          rw [show dn4 u * ((v 0).den ^ (t - m) * (v 1).den ^ m) * (v 0).den = dn4 u * ((v 0).den ^ (t + 1 - m) * (v 1).den ^ m) from by
            rw [show t + 1 - m = t - m + 1 by omega, Nat.pow_succ]
            simp only [Nat.mul_assoc, Nat.mul_comm, Nat.mul_left_comm]] at g
          exact g
        · rw [show i + 1 - i = 1 by omega]
          have g := fq_mul ((L i).1 q) f1
          rw [show dn4 u * ((v 0).den ^ (t - i) * (v 1).den ^ i) * (v 1).den = dn4 u * ((v 0).den ^ (t + 1 - (i + 1)) * (v 1).den ^ (i + 1)) from by
            rw [show t + 1 - (i + 1) = t - i by omega, Nat.pow_succ]
            simp only [Nat.mul_assoc]] at g
          exact g
      · rw [hV _ g, Rat.mul_zero]; exact fq_0 _ _
  have dm : ∀ m, m ≤ t + 1 → dn4 u * ((v 0).den ^ (t + 1 - m) * (v 1).den ^ m) < 2 ^ 48 := fun m hm => by
    have h := Nat.mul_le_mul du (Nat.le_trans (pw_le a60 b60 hm) p4)
    exact Nat.lt_of_le_of_lt h (by decide)
  refine ⟨⟨fun i => ?_, ext_sm hv, fun m => ?_⟩, dn4 u * ((v 0).den ^ (t + 1 - 0) * (v 1).den ^ 0), 19595520000000, wpos _ _, dm 0 (by omega), by decide, ?_, ?_⟩
  · rcases Nat.lt_or_ge t i with q | q
    · rw [(L i).2 q]; exact ⟨1, 0, by decide, fq_0 _ _, by decide, by decide⟩
    · refine ⟨_, _, wpos _ _, (L i).1 q, ?_, hB⟩
      have h := Nat.mul_le_mul du (Nat.le_trans (pw_le a60 b60 q) p3)
      exact Nat.le_trans h (by decide)
  · rcases Nat.lt_or_ge (t + 1) m with q | q
    · refine ⟨1, 0, by decide, by decide, by decide, fun i hi => ?_⟩
      rcases Nat.lt_or_ge t i with g | g
      · rw [(L i).2 g, Rat.zero_mul]; exact fq_0 _ _
      · rw [hV _ (by omega), Rat.mul_zero]; exact fq_0 _ _
    · exact ⟨_, _, wpos _ _, dm m q, by omega, fun i hi => st m i hi q⟩
  · exact (st 0 0 (Nat.le_refl _) (by omega)).le (by omega)
  · have c2 := fq_up (fq_4 hu (3 - (t + 1)) (by omega)) ((v 0).den ^ (t + 1))
    rw [Nat.pow_zero, Nat.mul_one, Nat.sub_zero]
    refine c2.le ?_
    have := Nat.mul_le_mul_left 12960000 (Nat.le_trans (Nat.pow_le_pow_left a60 (t + 1)) p4)
    omega
