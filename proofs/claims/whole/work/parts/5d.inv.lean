/-! what holds of a house at all times -/
theorem dg_hi {u : Nat → Rat} {d : Nat} (hd : d < 4) (h : dgI u = nI d) : ∀ k, d < k → k < 4 → u k = 0 := by
  obtain ⟨e, h1, h2, h3, _⟩ := dg_ex u
  intro k hk hk4
  have ed : e = d + 1 := by
    rw [h] at h2
    rcases (show d = 0 ∨ d = 1 ∨ d = 2 ∨ d = 3 by omega) with rfl | rfl | rfl | rfl <;> rcases (show e = 0 ∨ e = 1 ∨ e = 2 ∨ e = 3 ∨ e = 4 by omega) with rfl | rfl | rfl | rfl | rfl <;> first | rfl | exact absurd h2 (by decide)
  have := h3 k (by omega)
  unfold ext at this
  rw [if_pos hk4] at this
  exact this
theorem dg_none {u : Nat → Rat} (h : dgI u = -1) : ∀ k, k < 4 → u k = 0 := by
  obtain ⟨e, h1, h2, h3, _⟩ := dg_ex u
  intro k hk4
  have ed : e = 0 := by
    rw [h] at h2
    rcases (show e = 0 ∨ e = 1 ∨ e = 2 ∨ e = 3 ∨ e = 4 by omega) with rfl | rfl | rfl | rfl | rfl <;> first | rfl | exact absurd h2 (by decide)
  have := h3 k (by omega)
  unfold ext at this
  rw [if_pos hk4] at this
  exact this
theorem dg_lin {u v : Nat → Rat} (h : dgI u * dgI v ≤ 3) : (u 2 = 0 ∧ u 3 = 0) ∨ (v 2 = 0 ∧ v 3 = 0) := by
  have one : ∀ w : Nat → Rat, dgI w = 3 ∨ dgI w = 2 ∨ (w 2 = 0 ∧ w 3 = 0) := fun w => by
    rcases dgI_5 w with e | e | e | e | e
    · exact Or.inl e
    · exact Or.inr (Or.inl e)
    · exact Or.inr (Or.inr ⟨dg_hi (d := 1) (by decide) e 2 (by decide) (by decide), dg_hi (d := 1) (by decide) e 3 (by decide) (by decide)⟩)
    · exact Or.inr (Or.inr ⟨dg_hi (d := 0) (by decide) e 2 (by decide) (by decide), dg_hi (d := 0) (by decide) e 3 (by decide) (by decide)⟩)
    · exact Or.inr (Or.inr ⟨dg_none e 2 (by decide), dg_none e 3 (by decide)⟩)
  rcases one u with e | e | e
  · rcases one v with f | f | f
    · rw [e, f] at h; exact absurd h (by decide)
    · rw [e, f] at h; exact absurd h (by decide)
    · exact Or.inr f
  · rcases one v with f | f | f
    · rw [e, f] at h; exact absurd h (by decide)
    · rw [e, f] at h; exact absurd h (by decide)
    · exact Or.inr f
  · exact Or.inl e
theorem hq_z {u v : Nat → Rat} : ∀ t, (∀ a, a < t → u (3 - a) = 0) → ∀ m, hq u v t m = 0 := by
  intro t
  induction t with
  | zero => exact fun _ _ => rfl
  | succ t ih =>
    intro h m
    show psum (hq u v t) (ext v) m (m + 1) + (if m = 0 then u (3 - t) else 0) = 0
    rw [psum_z _ (fun o _ => by rw [ih (fun a ha => h a (by omega)) o, Rat.zero_mul]), h t (by omega), Rat.zero_add]
    split <;> rfl
theorem hq_s {u v : Nat → Rat} {t : Nat} (h : ∀ a, a < t → u (3 - a) = 0) (m : Nat) : hq u v (t + 1) m = if m = 0 then u (3 - t) else 0 := by
  show psum (hq u v t) (ext v) m (m + 1) + (if m = 0 then u (3 - t) else 0) = _
  rw [psum_z _ (fun o _ => by rw [hq_z t h o, Rat.zero_mul]), Rat.zero_add]
theorem put_bok {u v : Nat → Rat} (hu : ∀ k, k < 4 → Sm (u k)) (hv : ∀ k, k < 4 → Sm (v k)) (h : dgI u * dgI v ≤ 3) {t : Nat} (ht : t < 4) : Bok (hq u v t) (ext v) ∧ ∃ D B, 0 < D ∧ D < 2 ^ 48 ∧ B < 2 ^ 61 ∧ Fq (hq u v t 0 * ext v 0) D B ∧ Fq (u (3 - t)) D B := by
  have du := dn4_le hu
  have dv := dn4_le hv
  have d0 := dn4_pos u
  have d1 := dn4_pos v
  have cA : (∀ k, Fq (hq u v t k) (dn4 u) 12960000) → Bok (hq u v t) (ext v) ∧ ∃ D B, 0 < D ∧ D < 2 ^ 48 ∧ B < 2 ^ 61 ∧ Fq (hq u v t 0 * ext v 0) D B ∧ Fq (u (3 - t)) D B := fun hU =>
    ⟨bok_A hu hv hU, dn4 u * dn4 v, 12960000 * 12960000, Nat.mul_pos d0 d1, Nat.lt_of_le_of_lt (Nat.mul_le_mul du dv) (by decide), by decide, fq_mul (hU 0) (ext_fq hv 0), (fq_up (fq_4 hu (3 - t) (by omega)) (dn4 v)).le (Nat.mul_le_mul_left _ dv)⟩
  rcases dg_lin h with ⟨u2, u3⟩ | ⟨v2, v3⟩
  · apply cA
    intro k
    have z2 : ∀ a, a < 2 → u (3 - a) = 0 := fun a ha => by
      rcases (show a = 0 ∨ a = 1 by omega) with rfl | rfl
      · exact u3
      · exact u2
    rcases Nat.lt_or_ge t 3 with q | q
    · rw [hq_z t (fun a ha => z2 a (by omega)) k]; exact fq_0 _ _
    · rw [show t = 2 + 1 by omega, hq_s z2]
      split
      · exact fq_4 hu 1 (by decide)
      · exact fq_0 _ _
  · cases t with
    | zero => exact cA (fun k => fq_0 _ _)
    | succ t => exact bok_B hu hv v2 v3 (by omega)
theorem hq_hor {u v : Nat → Rat} {d : Nat} (hd : d < 4) (hz : ∀ k, d < k → k < 4 → u k = 0) : ∀ i, i ≤ d → ∀ m, m < 4 → hq u v (4 - d + i) m = hor u v d i m := by
  intro i
  induction i with
  | zero =>
    intro _ m _
    show hq u v (4 - d) m = cst (u d) m
    rw [show 4 - d = 3 - d + 1 by omega, hq_s (fun a ha => hz (3 - a) (by omega) (by omega)), show 3 - (3 - d) = d by omega]
    rfl
  | succ i ih =>
    intro hi m hm
    show psum (hq u v (4 - d + i)) (ext v) m (m + 1) + (if m = 0 then u (3 - (4 - d + i)) else 0) = psum (hor u v d i) v m (m + 1) + (if m = 0 then u (d - 1 - i) else 0)
    rw [show 3 - (4 - d + i) = d - 1 - i by omega]
    congr 1
    exact psum_cg (m + 1) (Nat.le_refl _) (fun o ho => by rw [ih (by omega) o (by omega)]; unfold ext; rw [if_pos (by omega)])
theorem dg_nI {u : Nat → Rat} (h : dgI u ≠ -1) : ∃ d, d < 4 ∧ dgI u = nI d := by
  rcases dgI_5 u with e | e | e | e | e
  · exact ⟨3, by decide, e⟩
  · exact ⟨2, by decide, e⟩
  · exact ⟨1, by decide, e⟩
  · exact ⟨0, by decide, e⟩
  · exact absurd e h
theorem put_p10 {u v : Nat → Rat} (hu : ∀ k, k < 4 → Sm (u k)) (hv : ∀ k, k < 4 → Sm (v k)) (h : dgI u * dgI v ≤ 3) : P10 u v := by
  refine ⟨fun t ht => ?_, fun m hm => ?_, fun m h1 h2 => ?_⟩
  · obtain ⟨b, D, B, d0, d1, b1, f1, f2⟩ := put_bok hu hv h ht
    refine ⟨b.m10, pb_of d0 d1 ?_ f2 b1 b1⟩
    show Fq (0 + hq u v t 0 * ext v 0) D B
    rw [Rat.zero_add]; exact f1
  · unfold putF
    by_cases e : dgI u = -1
    · rw [if_pos e, hq_z 4 (fun a ha => dg_none e _ (by omega))]
      unfold cst
      split <;> rfl
    · rw [if_neg e]
      obtain ⟨d, hd, ed⟩ := dg_nI e
      rw [ed, nI_clamp (by omega)]
      have := hq_hor (v := v) hd (dg_hi hd ed) d (Nat.le_refl _) m hm
      rw [show 4 - d + d = 4 by omega] at this
      exact this
  · rcases dg_lin h with ⟨u2, u3⟩ | ⟨v2, v3⟩
    · have z2 : ∀ a, a < 2 → u (3 - a) = 0 := fun a ha => by
        rcases (show a = 0 ∨ a = 1 by omega) with rfl | rfl
        · exact u3
        · exact u2
      show psum (hq u v 3) (ext v) m (m + 1) + (if m = 0 then u (3 - 3) else 0) = 0
      rw [if_neg (by omega), Rat.add_zero]
      refine psum_z _ (fun o ho => ?_)
      rw [hq_s z2]
      by_cases o0 : o = 0
      · have : ext v (m - o) = 0 := by unfold ext; rw [if_neg (by omega)]
        rw [this, Rat.mul_zero]
      · rw [if_neg o0, Rat.zero_mul]
    · exact (hq_lin hu hv v2 v3 3 (by decide) m).2 (by omega)
theorem put_pok {u v : Nat → Rat} (hu : ∀ k, k < 4 → Sm (u k)) (hv : ∀ k, k < 4 → Sm (v k)) : Pok u v := by
  intro d hd ed h i hi
  have e := fun m hm => (hq_hor (v := v) hd (dg_hi hd ed) i (by omega) m hm).symm
  have ev : ∀ k, k < 4 → v k = ext v k := fun k hk => by unfold ext; rw [if_pos hk]
  obtain ⟨b, D, B, d0, d1, b1, f1, f2⟩ := put_bok hu hv h (t := 4 - d + i) (by omega)
  refine ⟨b.mok e ev, fun k hk => ?_⟩
  unfold mulF
  rw [psum_cg (u2 := hq u v (4 - d + i)) (v2 := ext v) (k + 1) (Nat.le_refl _) (fun a ha => by rw [e a (by omega), ev (k - a) (by omega)])]
  unfold cst
  by_cases k0 : k = 0
  · rw [if_pos k0, k0]
    have f3 : Fq (psum (hq u v (4 - d + i)) (ext v) 0 (0 + 1)) D B := by
      show Fq (0 + hq u v (4 - d + i) 0 * ext v 0) D B
      rw [Rat.zero_add]; exact f1
    rw [show 3 - (4 - d + i) = d - 1 - i by omega] at f2
    exact pb_of d0 d1 f3 f2 b1 b1
  · rw [if_neg k0]
    obtain ⟨D2, B2, g0, g1, g2, g3⟩ := b.2.2 k
    have m1 := Nat.mul_le_mul (show k + 1 ≤ 4 by omega) g2
    exact pb_of g0 g1 (fq_psum (k + 1) (fun i hi => g3 i (by omega))) (fq_0 D2 0) (by omega) (by decide)
theorem sm_neg {r : Rat} (h : Sm r) : Sm (r * (-1)) := by
  have e : r * (-1) = -r := by grind
  rw [e]
  refine ⟨?_, h.2⟩
  show (-r.num).natAbs ≤ 60
  rw [Int.natAbs_neg]
  exact h.1
theorem sm_pb {r s : Rat} (h : Sm r) (g : Sm s) : Pb r s := by
  have h1 := h.2
  have g1 := g.2
  have m1 := Nat.mul_le_mul h1 g1
  have f1 := fq_up (fq_sm h) s.den
  have f2 := fq_up (fq_sm g) r.den
  have e : s.den * r.den = r.den * s.den := Nat.mul_comm _ _
  rw [e] at f2
  exact pb_of (Nat.mul_pos r.den_pos s.den_pos) (by omega) f1 f2 (by omega) (by omega)
