/-! sets of numbers as their numbers -/
theorem rt_ll {a b c : Rat} (h1 : a < b) (h2 : b < c) : a < c := by grind
theorem rt_le {a b c : Rat} (h1 : a < b) (h2 : b ≤ c) : a < c := by grind
theorem rt_el {a b c : Rat} (h1 : a ≤ b) (h2 : b < c) : a < c := by grind
def Srt (n : Nat) (p : Nat → Rat) : Prop := ∀ i j, i < j → j < n → p i < p j
theorem ips_uni {n : Nat} {p : Nat → Rat} {x : Rat} {t t' : Nat} (h : IsPos n p x t) (h' : IsPos n p x t') : t = t' := by
  obtain ⟨k, a1, a2, a3⟩ := h
  obtain ⟨k', b1, b2, b3⟩ := h'
  rcases Nat.lt_trichotomy k k' with q | q | q
  · have h1 := b2 k q
    rcases a3 with ⟨_, e, _⟩ | ⟨e, _⟩
    · rw [e] at h1; exact absurd h1 Rat.lt_irrefl
    · exact absurd (rt_ll h1 (e (by omega))) Rat.lt_irrefl
  · subst q
    rcases a3 with ⟨c1, e, r1⟩ | ⟨e, r1⟩
    · rcases b3 with ⟨_, _, r2⟩ | ⟨e2, _⟩
      · omega
      · have := e2 c1; rw [e] at this; exact absurd this Rat.lt_irrefl
    · rcases b3 with ⟨c1, e2, _⟩ | ⟨_, r2⟩
      · have := e c1; rw [e2] at this; exact absurd this Rat.lt_irrefl
      · omega
  · have h1 := a2 k' q
    rcases b3 with ⟨_, e, _⟩ | ⟨e, _⟩
    · rw [e] at h1; exact absurd h1 Rat.lt_irrefl
    · exact absurd (rt_ll h1 (e (by omega))) Rat.lt_irrefl
theorem rat_tri (a b : Rat) : a < b ∨ a = b ∨ b < a := by
  rcases Rat.le_total (a := a) (b := b) with h | h
  · rcases Rat.le_iff_lt_or_eq.mp h with h | h
    · exact Or.inl h
    · exact Or.inr (Or.inl h)
  · rcases Rat.le_iff_lt_or_eq.mp h with h | h
    · exact Or.inr (Or.inr h)
    · exact Or.inr (Or.inl h.symm)
theorem ips_lo {n : Nat} {p : Nat → Rat} {x : Rat} {t : Nat} (h : IsPos n p x t) (hx : x < p n) : IsPos (n + 1) p x t := by
  obtain ⟨k, a1, a2, a3⟩ := h
  refine ⟨k, by omega, a2, ?_⟩
  rcases a3 with ⟨c1, e, r1⟩ | ⟨e, r1⟩
  · exact Or.inl ⟨by omega, e, r1⟩
  · refine Or.inr ⟨fun _ => ?_, r1⟩
    rcases Nat.lt_or_ge k n with q | q
    · exact e q
    · rw [show k = n by omega]; exact hx
theorem ips_at {n : Nat} {p : Nat → Rat} {x : Rat} (hp : ∀ j, j < n → p j < p n) (hx : x = p n) : IsPos (n + 1) p x (2 * n + 1) := ⟨n, by omega, fun j hj => by rw [hx]; exact hp j hj, Or.inl ⟨by omega, hx, rfl⟩⟩
theorem ips_hi {n : Nat} {p : Nat → Rat} {x : Rat} (hp : ∀ j, j < n → p j < p n) (hx : p n < x) : IsPos (n + 1) p x (2 * n + 2) := ⟨n + 1, by omega, fun j hj => by
  rcases Nat.lt_or_ge j n with q | q
  · exact rt_ll (hp j q) hx
  · rw [show j = n by omega]; exact hx, Or.inr ⟨fun h => absurd h (by omega), by omega⟩⟩
theorem ips_top {n : Nat} {p : Nat → Rat} {x : Rat} (h : ∀ j, j < n → p j < x) : IsPos n p x (2 * n) := ⟨n, Nat.le_refl _, h, Or.inr ⟨fun q => absurd q (Nat.lt_irrefl _), rfl⟩⟩
theorem ips_cg {n : Nat} {p q : Nat → Rat} {x : Rat} {t : Nat} (e : ∀ j, j < n → p j = q j) (h : IsPos n p x t) : IsPos n q x t := by
  obtain ⟨k, a1, a2, a3⟩ := h
  refine ⟨k, a1, fun j hj => by rw [← e j (by omega)]; exact a2 j hj, ?_⟩
  rcases a3 with ⟨c1, e1, r1⟩ | ⟨e1, r1⟩
  · exact Or.inl ⟨c1, by rw [← e k c1]; exact e1, r1⟩
  · exact Or.inr ⟨fun c1 => by rw [← e k c1]; exact e1 c1, r1⟩
theorem ips_ex (n : Nat) (p : Nat → Rat) (x : Rat) : ∃ t, IsPos n p x t := by
  have h : ∀ m, m ≤ n → (∃ t, IsPos n p x t) ∨ ∀ j, j < m → p j < x := by
    intro m
    induction m with
    | zero => exact fun _ => Or.inr (fun j hj => absurd hj (Nat.not_lt_zero _))
    | succ m ih =>
      intro hm
      rcases ih (by omega) with h | h
      · exact Or.inl h
      · rcases rat_tri (p m) x with q | q | q
        · exact Or.inr (fun j hj => (Nat.lt_succ_iff_lt_or_eq.mp hj).elim (h j) (fun e => by rw [e]; exact q))
        · exact Or.inl ⟨2 * m + 1, m, by omega, h, Or.inl ⟨by omega, q.symm, rfl⟩⟩
        · exact Or.inl ⟨2 * m, m, by omega, h, Or.inr ⟨fun _ => q, rfl⟩⟩
  rcases h n (Nat.le_refl _) with h | h
  · exact h
  · exact ⟨_, ips_top h⟩
theorem ips_bd {n : Nat} {p : Nat → Rat} {x : Rat} {t : Nat} (h : IsPos n p x t) : t < 2 * n + 1 := h.le
theorem Srt.lt {n : Nat} {p : Nat → Rat} (h : Srt (n + 1) p) : ∀ j, j < n → p j < p n := fun j hj => h j n hj (by omega)
theorem Srt.lo {n m : Nat} {p : Nat → Rat} (h : Srt n p) (hm : m ≤ n) : Srt m p := fun i j h1 h2 => h i j h1 (by omega)
/-- kept places are places -/
theorem czp_of (p : Nat → Rat) (b : Nat → Bool) (k : Nat) : ∀ j, j < czn b k → ∃ i, i < k ∧ czp p b k j = p i := by
  induction k with
  | zero => intro j hj; exact absurd hj (Nat.not_lt_zero _)
  | succ k ih =>
    intro j hj
    cases h : chg b k
    · rw [czn_n h] at hj
      rw [czp_n h]
      obtain ⟨i, h1, h2⟩ := ih j hj
      exact ⟨i, by omega, h2⟩
    · rw [czn_y h] at hj
      rw [czp_y h]
      by_cases e : j = czn b k
      · exact ⟨k, by omega, if_pos e⟩
      · obtain ⟨i, h1, h2⟩ := ih j (by omega)
        exact ⟨i, by omega, (if_neg e).trans h2⟩
theorem czp_srt {p : Nat → Rat} {b : Nat → Bool} {k : Nat} (hs : Srt k p) : Srt (czn b k) (czp p b k) := by
  induction k with
  | zero => exact fun i j h1 h2 => absurd h2 (Nat.not_lt_zero _)
  | succ k ih =>
    have ih := ih (hs.lo (by omega))
    cases h : chg b k
    · rw [czn_n h, czp_n h]; exact ih
    · rw [czn_y h, czp_y h]
      intro i j h1 h2
      show (if i = czn b k then p k else czp p b k i) < (if j = czn b k then p k else czp p b k j)
      rw [if_neg (by omega)]
      by_cases e : j = czn b k
      · rw [if_pos e]
        obtain ⟨a, g1, g2⟩ := czp_of p b k i (by omega)
        rw [g2]
        exact hs a k g1 (by omega)
      · rw [if_neg e]
        exact ih i j h1 (by omega)
/-- keeping the places that are changes alone leaves the numbers as they are -/
theorem cz_val {p : Nat → Rat} {b : Nat → Bool} (x : Rat) : ∀ k, Srt k p → ∃ t t', IsPos k p x t ∧ IsPos (czn b k) (czp p b k) x t' ∧ b t = czm b k t' := by
  intro k
  induction k with
  | zero => exact fun _ => ⟨0, 0, ips_top (n := 0) (fun j hj => absurd hj (Nat.not_lt_zero _)), ips_top (n := 0) (fun j hj => absurd hj (Nat.not_lt_zero _)), rfl⟩
  | succ k ih =>
    intro hs
    obtain ⟨t, t', h1, h2, h3⟩ := ih (hs.lo (by omega))
    have hp := hs.lt
    have hc : ∀ j, j < czn b k → czp p b k j < p k := fun j hj => by
      obtain ⟨a, g1, g2⟩ := czp_of p b k j hj
      rw [g2]; exact hp a g1
    cases h : chg b k
    · obtain ⟨c1, c2⟩ := chg_n h
      rw [czn_n h, czp_n h, czm_n h]
      rcases rat_tri x (p k) with q | q | q
      · exact ⟨t, t', ips_lo h1 q, h2, h3⟩
      · have e := ips_uni h1 (ips_top (fun j hj => by rw [q]; exact hp j hj))
        refine ⟨2 * k + 1, t', ips_at hp q, h2, ?_⟩
        rw [← h3, e, c1]
      · have e := ips_uni h1 (ips_top (fun j hj => rt_ll (hp j hj) q))
        refine ⟨2 * k + 2, t', ips_hi hp q, h2, ?_⟩
        rw [← h3, e, c1, c2]
    · rw [czn_y h, czp_y h, czm_y h]
      have eq1 : ∀ j, j < czn b k → czp p b k j = (fun j => if j = czn b k then p k else czp p b k j) j := fun j hj => (if_neg (by omega)).symm
      have e0 : (fun j => if j = czn b k then p k else czp p b k j) (czn b k) = p k := if_pos rfl
      have hc' : ∀ j, j < czn b k → (fun j => if j = czn b k then p k else czp p b k j) j < (fun j => if j = czn b k then p k else czp p b k j) (czn b k) := fun j hj => by rw [e0, ← eq1 j hj]; exact hc j hj
      have h2' := ips_cg eq1 h2
      have ht' := ips_bd h2
      rcases rat_tri x (p k) with q | q | q
      · refine ⟨t, t', ips_lo h1 q, ips_lo h2' (by rw [if_pos rfl]; exact q), ?_⟩
        show b t = if t' = 2 * czn b k + 1 then _ else if t' = 2 * czn b k + 2 then _ else _
        rw [if_neg (by omega), if_neg (by omega)]
        exact h3
      · refine ⟨2 * k + 1, 2 * czn b k + 1, ips_at hp q, ips_at hc' (by rw [if_pos rfl]; exact q), ?_⟩
        show _ = if 2 * czn b k + 1 = 2 * czn b k + 1 then _ else _
        rw [if_pos rfl]
      · refine ⟨2 * k + 2, 2 * czn b k + 2, ips_hi hp q, ips_hi hc' (by rw [if_pos rfl]; exact q), ?_⟩
        show _ = if 2 * czn b k + 2 = 2 * czn b k + 1 then _ else if 2 * czn b k + 2 = 2 * czn b k + 2 then _ else _
        rw [if_neg (by omega), if_pos rfl]
/-- every cell has a number -/
theorem mid_lt {a b : Rat} (h : a < b) : a < (a + b) / 2 ∧ (a + b) / 2 < b := by
  have h2 : (a + b) / 2 = a + (b - a) / 2 := by grind
  have h3 : 0 < (b - a) / 2 := by
    rw [Rat.div_def]
    exact Rat.mul_pos (by grind) (Rat.inv_pos.mpr (by decide))
  have h4 : (a + b) / 2 = b - (b - a) / 2 := by grind
  constructor
  · rw [h2]; grind
  · rw [h4]; grind
theorem cell_in {n : Nat} {p : Nat → Rat} (hs : Srt n p) {i : Nat} (hi : i ≤ n) {lo hi' : Rat} (hl : 0 < i → p (i - 1) ≤ lo) (hh : i < n → hi' ≤ p i) {x : Rat} (h1 : 0 < i → lo < x) (h2 : i < n → x < hi') : IsPos n p x (2 * i) := by
  refine ⟨i, hi, fun j hj => ?_, Or.inr ⟨fun q => rt_le (h2 q) (hh q), rfl⟩⟩
  have h3 := rt_el (hl (by omega)) (h1 (by omega))
  rcases Nat.lt_or_ge j (i - 1) with q | q
  · exact rt_ll (hs j (i - 1) q (by omega)) h3
  · rw [show j = i - 1 by omega]; exact h3
theorem cell_ex {n : Nat} {p : Nat → Rat} (hs : Srt n p) {t : Nat} (ht : t < 2 * n + 1) : ∃ x, IsPos n p x t := by
  rcases (show (∃ i, t = 2 * i) ∨ ∃ i, t = 2 * i + 1 from by rcases Nat.mod_two_eq_zero_or_one t with q | q; exact Or.inl ⟨t / 2, by omega⟩; exact Or.inr ⟨t / 2, by omega⟩) with ⟨i, rfl⟩ | ⟨i, rfl⟩
  · by_cases h0 : 0 < i
    · by_cases h1 : i < n
      · obtain ⟨a, b⟩ := mid_lt (hs (i - 1) i (by omega) h1)
        exact ⟨_, cell_in hs (by omega) (lo := p (i - 1)) (hi' := p i) (fun _ => Rat.le_refl) (fun _ => Rat.le_refl) (fun _ => a) (fun _ => b)⟩
      · exact ⟨p (i - 1) + 1, cell_in hs (by omega) (lo := p (i - 1)) (hi' := 0) (fun _ => Rat.le_refl) (fun q => absurd q h1) (fun _ => by grind) (fun q => absurd q h1)⟩
    · by_cases h1 : i < n
      · exact ⟨p i - 1, cell_in hs (by omega) (lo := 0) (hi' := p i) (fun q => absurd q h0) (fun _ => Rat.le_refl) (fun q => absurd q h0) (fun _ => by grind)⟩
      · exact ⟨0, cell_in hs (by omega) (lo := 0) (hi' := 0) (fun q => absurd q h0) (fun q => absurd q h1) (fun q => absurd q h0) (fun q => absurd q h1)⟩
  · exact ⟨p i, i, by omega, fun j hj => hs j i hj (by omega), Or.inl ⟨by omega, rfl, rfl⟩⟩
theorem ips_mono {n : Nat} {p : Nat → Rat} {x y : Rat} {t t' : Nat} (h : IsPos n p x t) (h' : IsPos n p y t') (hxy : x ≤ y) : t ≤ t' := by
  obtain ⟨k, a1, a2, a3⟩ := h
  obtain ⟨k', b1, b2, b3⟩ := h'
  rcases Nat.lt_trichotomy k k' with q | q | q
  · have : t ≤ 2 * k + 1 := by rcases a3 with ⟨_, _, r⟩ | ⟨_, r⟩ <;> omega
    have : 2 * k' ≤ t' := by rcases b3 with ⟨_, _, r⟩ | ⟨_, r⟩ <;> omega
    omega
  · subst q
    rcases a3 with ⟨c1, e, r1⟩ | ⟨e, r1⟩
    · rcases b3 with ⟨_, _, r2⟩ | ⟨e2, _⟩
      · omega
      · have := e2 c1; rw [← e] at this; exact absurd (rt_el hxy this) Rat.lt_irrefl
    · rcases b3 with ⟨_, _, r2⟩ | ⟨_, r2⟩ <;> omega
  · have h1 := a2 k' q
    have h2 := rt_le h1 hxy
    rcases b3 with ⟨_, e, _⟩ | ⟨e, _⟩
    · rw [e] at h2; exact absurd h2 Rat.lt_irrefl
    · exact absurd (rt_ll h2 (e (by omega))) Rat.lt_irrefl
/-- an even cell is open -/
theorem cell_lr {n : Nat} {p : Nat → Rat} (hs : Srt n p) {x : Rat} {t : Nat} (h : IsPos n p x t) (he : t % 2 = 0) : (∃ y, y < x ∧ IsPos n p y t) ∧ ∃ y, x < y ∧ IsPos n p y t := by
  obtain ⟨k, a1, a2, a3⟩ := h
  rcases a3 with ⟨_, _, r1⟩ | ⟨e, r1⟩
  · omega
  · subst r1
    constructor
    · by_cases h0 : 0 < k
      · obtain ⟨a, b⟩ := mid_lt (a2 (k - 1) (by omega))
        exact ⟨_, b, cell_in hs a1 (lo := p (k - 1)) (hi' := x) (fun _ => Rat.le_refl) (fun q => Rat.le_of_lt (e q)) (fun _ => a) (fun _ => b)⟩
      · have hy : x - 1 < x := by grind
        exact ⟨x - 1, hy, cell_in hs a1 (lo := 0) (hi' := x) (fun q => absurd q h0) (fun q => Rat.le_of_lt (e q)) (fun q => absurd q h0) (fun _ => hy)⟩
    · by_cases h1 : k < n
      · obtain ⟨a, b⟩ := mid_lt (e h1)
        exact ⟨_, a, cell_in hs a1 (lo := x) (hi' := p k) (fun q => Rat.le_of_lt (a2 _ (by omega))) (fun _ => Rat.le_refl) (fun _ => a) (fun _ => b)⟩
      · have hy : x < x + 1 := by grind
        exact ⟨x + 1, hy, cell_in hs a1 (lo := x) (hi' := 0) (fun q => Rat.le_of_lt (a2 _ (by omega))) (fun q => absurd q h1) (fun _ => hy) (fun q => absurd q h1)⟩
theorem cell_odd {n : Nat} {p : Nat → Rat} {x y : Rat} {t : Nat} (h : IsPos n p x t) (h' : IsPos n p y t) (he : ¬ t % 2 = 0) : x = y := by
  obtain ⟨k, a1, a2, a3⟩ := h
  obtain ⟨k', b1, b2, b3⟩ := h'
  rcases a3 with ⟨_, e, r1⟩ | ⟨_, r1⟩
  · rcases b3 with ⟨_, e2, r2⟩ | ⟨_, r2⟩
    · rw [e, e2, show k = k' by omega]
    · omega
  · omega
