/-! two sets side by side: what their cells hold -/
theorem nxt_neg {n1 n2 : Nat} {p q : Nat → Rat} {i k : Nat} (h : nxt n1 p n2 q i k = -1) : i < n1 ∧ (k < n2 → p i < q k) := by
  unfold nxt at h
  split at h
  · exact absurd h (by decide)
  · next h1 =>
    refine ⟨by omega, fun h2 => ?_⟩
    rw [if_neg (by omega)] at h
    unfold cmpR at h
    split at h
    · next h3 => exact h3
    · split at h <;> exact absurd h (by decide)
theorem nxt_zer {n1 n2 : Nat} {p q : Nat → Rat} {i k : Nat} (h : nxt n1 p n2 q i k = 0) : i < n1 ∧ k < n2 ∧ p i = q k := by
  unfold nxt at h
  split at h
  · exact absurd h (by decide)
  · next h1 =>
    split at h
    · exact absurd h (by decide)
    · next h2 =>
      refine ⟨by omega, by omega, ?_⟩
      unfold cmpR at h
      split at h
      · exact absurd h (by decide)
      · split at h
        · next h3 => exact h3
        · exact absurd h (by decide)
theorem nxt_pos {n1 n2 : Nat} {p q : Nat → Rat} {i k : Nat} (h : nxt n1 p n2 q i k = 1) : i < n1 → k < n2 ∧ q k < p i := by
  intro h1
  unfold nxt at h
  rw [if_neg (by omega)] at h
  split at h
  · exact absurd h (by decide)
  · next h2 =>
    refine ⟨by omega, ?_⟩
    unfold cmpR at h
    split at h
    · exact absurd h (by decide)
    · next h3 =>
      split at h
      · exact absurd h (by decide)
      · next h4 =>
        rcases rat_tri (p i) (q k) with g | g | g
        · exact absurd g h3
        · exact absurd g h4
        · exact g
theorem srt_le {n : Nat} {p : Nat → Rat} (hs : Srt n p) {i j : Nat} (h : i ≤ j) (hj : j < n) : p i ≤ p j := by
  rcases Nat.lt_or_ge i j with q | q
  · exact Rat.le_of_lt (hs i j q hj)
  · rw [show i = j by omega]; exact Rat.le_refl
def MgI (n1 : Nat) (p : Nat → Rat) (n2 : Nat) (q : Nat → Rat) (i k : Nat) : Prop := (∀ a, a < i → ∀ b, k ≤ b → b < n2 → p a < q b) ∧ ∀ b, b < k → ∀ a, i ≤ a → a < n1 → q b < p a
theorem mg_inv {n1 n2 : Nat} {p q : Nat → Rat} (hs1 : Srt n1 p) (hs2 : Srt n2 q) : ∀ j i k, mgs n1 p n2 q j = (i, k) → MgI n1 p n2 q i k := by
  intro j
  induction j with
  | zero =>
    intro i k h
    have e : (0, 0) = (i, k) := h
    obtain ⟨rfl, rfl⟩ := Prod.mk.inj e
    exact ⟨fun a ha => absurd ha (Nat.not_lt_zero _), fun a ha => absurd ha (Nat.not_lt_zero _)⟩
  | succ j ih =>
    intro i k h
    have e : mgs n1 p n2 q j = ((mgs n1 p n2 q j).1, (mgs n1 p n2 q j).2) := rfl
    obtain ⟨h1, h2⟩ := ih _ _ e
    rw [mgs_s e] at h
    generalize (mgs n1 p n2 q j).1 = i0 at *
    generalize (mgs n1 p n2 q j).2 = k0 at *
    obtain ⟨e1, e2⟩ := Prod.mk.inj h
    rcases nxt_3 n1 p n2 q i0 k0 with o | o | o
    · rw [o] at e1 e2
      have e1 : i0 + 1 = i := e1
      have e2 : k0 + 0 = k := e2
      subst e1 e2
      obtain ⟨g1, g2⟩ := nxt_neg o
      refine ⟨fun a ha b hb hb2 => ?_, fun b hb a ha ha2 => h2 b hb a (by omega) ha2⟩
      rcases Nat.lt_or_ge a i0 with c | c
      · exact h1 a c b hb hb2
      · rw [show a = i0 by omega]
        exact rt_le (g2 (by omega)) (srt_le hs2 hb hb2)
    · rw [o] at e1 e2
      have e1 : i0 + 1 = i := e1
      have e2 : k0 + 1 = k := e2
      subst e1 e2
      obtain ⟨g1, g2, g3⟩ := nxt_zer o
      refine ⟨fun a ha b hb hb2 => ?_, fun b hb a ha ha2 => ?_⟩
      · rcases Nat.lt_or_ge a i0 with c | c
        · exact h1 a c b (by omega) hb2
        · rw [show a = i0 by omega, g3]
          exact hs2 k0 b (by omega) hb2
      · rcases Nat.lt_or_ge b k0 with c | c
        · exact h2 b c a (by omega) ha2
        · rw [show b = k0 by omega, ← g3]
          exact hs1 i0 a (by omega) ha2
    · rw [o] at e1 e2
      have e1 : i0 + 0 = i := e1
      have e2 : k0 + 1 = k := e2
      subst e1 e2
      refine ⟨fun a ha b hb hb2 => h1 a ha b (by omega) hb2, fun b hb a ha ha2 => ?_⟩
      rcases Nat.lt_or_ge b k0 with c | c
      · exact h2 b c a ha ha2
      · rw [show b = k0 by omega]
        exact rt_le (nxt_pos o (by omega)).2 (srt_le hs1 ha ha2)
theorem lo2 {A B : Prop} (a b : Rat) (dA : A ∨ ¬ A) (dB : B ∨ ¬ B) : ∃ c, (A → a ≤ c) ∧ (B → b ≤ c) ∧ (A ∨ B → (A ∧ c = a) ∨ (B ∧ c = b)) := by
  rcases dA with hA | hA
  · rcases dB with hB | hB
    · rcases Rat.le_total (a := a) (b := b) with h | h
      · exact ⟨b, fun _ => h, fun _ => Rat.le_refl, fun _ => Or.inr ⟨hB, rfl⟩⟩
      · exact ⟨a, fun _ => Rat.le_refl, fun _ => h, fun _ => Or.inl ⟨hA, rfl⟩⟩
    · exact ⟨a, fun _ => Rat.le_refl, fun q => absurd q hB, fun _ => Or.inl ⟨hA, rfl⟩⟩
  · exact ⟨b, fun q => absurd q hA, fun _ => Rat.le_refl, fun q => q.elim (fun q => absurd q hA) (fun q => Or.inr ⟨q, rfl⟩)⟩
theorem hi2 {A B : Prop} (a b : Rat) (dA : A ∨ ¬ A) (dB : B ∨ ¬ B) : ∃ c, (A → c ≤ a) ∧ (B → c ≤ b) ∧ (A ∨ B → (A ∧ c = a) ∨ (B ∧ c = b)) := by
  rcases dA with hA | hA
  · rcases dB with hB | hB
    · rcases Rat.le_total (a := a) (b := b) with h | h
      · exact ⟨a, fun _ => Rat.le_refl, fun _ => h, fun _ => Or.inl ⟨hA, rfl⟩⟩
      · exact ⟨b, fun _ => h, fun _ => Rat.le_refl, fun _ => Or.inr ⟨hB, rfl⟩⟩
    · exact ⟨a, fun _ => Rat.le_refl, fun q => absurd q hB, fun _ => Or.inl ⟨hA, rfl⟩⟩
  · exact ⟨b, fun q => absurd q hA, fun _ => Rat.le_refl, fun q => q.elim (fun q => absurd q hA) (fun q => Or.inr ⟨q, rfl⟩)⟩
theorem btw {A B : Prop} {a b : Rat} (dA : A ∨ ¬ A) (dB : B ∨ ¬ B) (h : A → B → a < b) : ∃ x, (A → a < x) ∧ (B → x < b) := by
  rcases dA with hA | hA
  · rcases dB with hB | hB
    · exact ⟨_, fun _ => (mid_lt (h hA hB)).1, fun _ => (mid_lt (h hA hB)).2⟩
    · exact ⟨a + 1, fun _ => by grind, fun q => absurd q hB⟩
  · exact ⟨b - 1, fun q => absurd q hA, fun _ => by grind⟩
theorem mg_even {n1 n2 : Nat} {p q : Nat → Rat} (hs1 : Srt n1 p) (hs2 : Srt n2 q) {i k : Nat} (hi : i ≤ n1) (hk : k ≤ n2) (hI : MgI n1 p n2 q i k) : ∃ x, IsPos n1 p x (2 * i) ∧ IsPos n2 q x (2 * k) := by
  obtain ⟨lo, l1, l2, l3⟩ := lo2 (A := 0 < i) (B := 0 < k) (p (i - 1)) (q (k - 1)) (Decidable.em _) (Decidable.em _)
  obtain ⟨up, u1, u2, u3⟩ := hi2 (A := i < n1) (B := k < n2) (p i) (q k) (Decidable.em _) (Decidable.em _)
  obtain ⟨x, x1, x2⟩ := btw (A := 0 < i ∨ 0 < k) (B := i < n1 ∨ k < n2) (a := lo) (b := up) (Decidable.em _) (Decidable.em _) (fun hA hB => by
    rcases l3 hA with ⟨a1, e1⟩ | ⟨a1, e1⟩ <;> rcases u3 hB with ⟨b1, e2⟩ | ⟨b1, e2⟩ <;> rw [e1, e2]
    · exact hs1 _ _ (by omega) b1
    · exact hI.1 _ (by omega) _ (Nat.le_refl _) b1
    · exact hI.2 _ (by omega) _ (Nat.le_refl _) b1
    · exact hs2 _ _ (by omega) b1)
  exact ⟨x, cell_in hs1 hi l1 u1 (fun g => x1 (Or.inl g)) (fun g => x2 (Or.inl g)), cell_in hs2 hk l2 u2 (fun g => x1 (Or.inr g)) (fun g => x2 (Or.inr g))⟩
theorem mg_odd {n1 n2 : Nat} {p q : Nat → Rat} (hs1 : Srt n1 p) (hs2 : Srt n2 q) {i k : Nat} (hi : i ≤ n1) (hk : k ≤ n2) (hsum : i + k < n1 + n2) (hI : MgI n1 p n2 q i k) : ∃ x, IsPos n1 p x (2 * i + oA (nxt n1 p n2 q i k)) ∧ IsPos n2 q x (2 * k + oB (nxt n1 p n2 q i k)) := by
  rcases nxt_3 n1 p n2 q i k with o | o | o <;> rw [o]
  · obtain ⟨g1, g2⟩ := nxt_neg o
    exact ⟨p i, ⟨i, hi, fun j hj => hs1 j i hj g1, Or.inl ⟨g1, rfl, rfl⟩⟩, ⟨k, hk, fun j hj => hI.2 j hj i (Nat.le_refl _) g1, Or.inr ⟨g2, rfl⟩⟩⟩
  · obtain ⟨g1, g2, g3⟩ := nxt_zer o
    exact ⟨p i, ⟨i, hi, fun j hj => hs1 j i hj g1, Or.inl ⟨g1, rfl, rfl⟩⟩, ⟨k, hk, fun j hj => by rw [g3]; exact hs2 j k hj g2, Or.inl ⟨g2, g3, rfl⟩⟩⟩
  · have g2 : k < n2 := nxt_ge hsum hi (by rw [o]; decide)
    exact ⟨q k, ⟨i, hi, fun j hj => hI.1 j hj k (Nat.le_refl _) g2, Or.inr ⟨fun g => (nxt_pos o g).2, rfl⟩⟩, ⟨k, hk, fun j hj => hs2 j k hj g2, Or.inl ⟨g2, rfl, rfl⟩⟩⟩
theorem mg_find {n1 n2 : Nat} {p q : Nat → Rat} {m1 m2 : Nat → Bool} {zb : Bool} {r : Rat} {t1 t2 : Nat} (h1 : IsPos n1 p r t1) (h2 : IsPos n2 q r t2) {J : Nat} (hJ : MgE n1 p n2 q J) : ∃ t, t < 2 * J + 1 ∧ mgb zb n1 p m1 n2 q m2 t = dec zb (m1 t1) (m2 t2) := by
  have key : ∀ j, j ≤ J → (∃ t, t < 2 * J + 1 ∧ mgb zb n1 p m1 n2 q m2 t = dec zb (m1 t1) (m2 t2)) ∨ ((∀ a, a < (mgs n1 p n2 q j).1 → p a < r) ∧ ∀ b, b < (mgs n1 p n2 q j).2 → q b < r) := by
    intro j
    induction j with
    | zero => exact fun _ => Or.inr ⟨fun a ha => absurd ha (Nat.not_lt_zero _), fun a ha => absurd ha (Nat.not_lt_zero _)⟩
    | succ j ih =>
      intro hj
      rcases ih (by omega) with ih | ⟨p1, p2⟩
      · exact Or.inl ih
      · have hsum := hJ.2.2 j (by omega)
        obtain ⟨hi, hk, _⟩ := mgs_inv (n1 := n1) (n2 := n2) (p1 := p) (p2 := q) j (fun a ha => hJ.2.2 a (by omega))
        have ev := mgb_e zb n1 p m1 n2 q m2 j
        have ov := mgb_o zb n1 p m1 n2 q m2 j
        have e : mgs n1 p n2 q j = ((mgs n1 p n2 q j).1, (mgs n1 p n2 q j).2) := rfl
        have e2 := mgs_s e
        unfold mgo at ov
        rw [e2]
        clear ih e e2
        generalize (mgs n1 p n2 q j).1 = i at *
        generalize (mgs n1 p n2 q j).2 = k at *
        have found : ∀ t, t < 2 * J + 1 → ∀ c1 c2, mgb zb n1 p m1 n2 q m2 t = dec zb (m1 c1) (m2 c2) → IsPos n1 p r c1 → IsPos n2 q r c2 → ∃ t, t < 2 * J + 1 ∧ mgb zb n1 p m1 n2 q m2 t = dec zb (m1 t1) (m2 t2) := fun t ht c1 c2 g1 g2 g3 => ⟨t, ht, by rw [g1, ips_uni h1 g2, ips_uni h2 g3]⟩
        rcases nxt_3 n1 p n2 q i k with o | o | o
        · obtain ⟨g1, g2⟩ := nxt_neg o
          rw [o] at ov ⊢
          rcases rat_tri (p i) r with c | c | c
          · refine Or.inr ⟨fun a ha => ?_, p2⟩
            have ha : a < i + 1 := ha
            rcases Nat.lt_or_ge a i with d | d
            · exact p1 a d
            · rw [show a = i by omega]; exact c
          · exact Or.inl (found (2 * j + 1) (by omega) _ _ ov ⟨i, hi, p1, Or.inl ⟨g1, c.symm, rfl⟩⟩ ⟨k, hk, p2, Or.inr ⟨fun d => by rw [← c]; exact g2 d, rfl⟩⟩)
          · exact Or.inl (found (2 * j) (by omega) _ _ ev ⟨i, hi, p1, Or.inr ⟨fun _ => c, rfl⟩⟩ ⟨k, hk, p2, Or.inr ⟨fun d => rt_ll c (g2 d), rfl⟩⟩)
        · obtain ⟨g1, g2, g3⟩ := nxt_zer o
          rw [o] at ov ⊢
          rcases rat_tri (p i) r with c | c | c
          · refine Or.inr ⟨fun a ha => ?_, fun b hb => ?_⟩
            · have ha : a < i + 1 := ha
              rcases Nat.lt_or_ge a i with d | d
              · exact p1 a d
              · rw [show a = i by omega]; exact c
            · have hb : b < k + 1 := hb
              rcases Nat.lt_or_ge b k with d | d
              · exact p2 b d
              · rw [show b = k by omega, ← g3]; exact c
          · exact Or.inl (found (2 * j + 1) (by omega) _ _ ov ⟨i, hi, p1, Or.inl ⟨g1, c.symm, rfl⟩⟩ ⟨k, hk, p2, Or.inl ⟨g2, by rw [← c, g3], rfl⟩⟩)
          · exact Or.inl (found (2 * j) (by omega) _ _ ev ⟨i, hi, p1, Or.inr ⟨fun _ => c, rfl⟩⟩ ⟨k, hk, p2, Or.inr ⟨fun d => by rw [← g3]; exact c, rfl⟩⟩)
        · have g2 : k < n2 := nxt_ge hsum hi (by rw [o]; decide)
          have g3 := nxt_pos o
          rw [o] at ov ⊢
          rcases rat_tri (q k) r with c | c | c
          · refine Or.inr ⟨p1, fun b hb => ?_⟩
            have hb : b < k + 1 := hb
            rcases Nat.lt_or_ge b k with d | d
            · exact p2 b d
            · rw [show b = k by omega]; exact c
          · exact Or.inl (found (2 * j + 1) (by omega) _ _ ov ⟨i, hi, p1, Or.inr ⟨fun d => by rw [← c]; exact (g3 d).2, rfl⟩⟩ ⟨k, hk, p2, Or.inl ⟨g2, c.symm, rfl⟩⟩)
          · exact Or.inl (found (2 * j) (by omega) _ _ ev ⟨i, hi, p1, Or.inr ⟨fun d => rt_ll c (g3 d).2, rfl⟩⟩ ⟨k, hk, p2, Or.inr ⟨fun _ => c, rfl⟩⟩)
  rcases key J (Nat.le_refl _) with h | ⟨p1, p2⟩
  · exact h
  · have ev := mgb_e zb n1 p m1 n2 q m2 J
    rw [hJ.2.1] at p1 p2 ev
    exact ⟨2 * J, by omega, by rw [ev, ips_uni h1 (ips_top p1), ips_uni h2 (ips_top p2)]⟩
theorem em_cz {b : Nat → Bool} {p : Nat → Rat} {J : Nat} : emZ (czn b J, czp p b J, czm b J) = true ↔ ∀ t, t < 2 * J + 1 → b t = false := by
  unfold emZ
  rw [Bool.and_eq_true, decide_eq_true_eq, Bool.not_eq_true']
  have h0 : czn b J = 0 → czm b J 0 = b 0 := fun e => by rw [← (cz_stop p b (Nat.zero_le J) (show czn b 0 = czn b J from e.symm)).2]; rfl
  constructor
  · rintro ⟨h1, h2⟩
    have h1 : czn b J = 0 := h1
    have h2 : czm b J 0 = false := h2
    rw [h0 h1] at h2
    have nc : ∀ j, j < J → chg b j = false := fun j hj => by
      cases e : chg b j
      · rfl
      · have g1 := czn_mono b (show j + 1 ≤ J by omega)
        rw [czn_y e] at g1
        omega
    have al : ∀ j, j ≤ J → b (2 * j) = false := by
      intro j
      induction j with
      | zero => exact fun _ => h2
      | succ j ih =>
        intro hj
        have g := chg_n (nc j (by omega))
        rw [show 2 * (j + 1) = 2 * j + 2 by omega, ← g.2, ← g.1]
        exact ih (by omega)
    intro t ht
    rcases Nat.mod_two_eq_zero_or_one t with q | q
    · rw [show t = 2 * (t / 2) by omega]; exact al _ (by omega)
    · rw [show t = 2 * (t / 2) + 1 by omega, ← (chg_n (nc (t / 2) (by omega))).1]; exact al _ (by omega)
  · intro h
    have z : ∀ j, j ≤ J → czn b j = 0 := by
      intro j
      induction j with
      | zero => exact fun _ => rfl
      | succ j ih =>
        intro hj
        have e : chg b j = false := by
          unfold chg
          rw [h _ (by omega), h _ (by omega), h _ (by omega)]
          rfl
        rw [czn_n e]
        exact ih (by omega)
    refine ⟨z J (Nat.le_refl _), ?_⟩
    show czm b J 0 = false
    rw [h0 (z J (Nat.le_refl _))]
    exact h 0 (by omega)
theorem meet_iff {y w : St3} (hs1 : Srt y.1 y.2.1) (hs2 : Srt w.1 w.2.1) {x : Bool} (h : meet y w x) : x = true ↔ ∃ r t1 t2, IsPos y.1 y.2.1 r t1 ∧ IsPos w.1 w.2.1 r t2 ∧ y.2.2 t1 = true ∧ w.2.2 t2 = true := by
  obtain ⟨J, hJ, rfl⟩ := h
  rw [Bool.not_eq_true', ← Bool.not_eq_true]
  unfold jn
  rw [em_cz]
  constructor
  · intro hn
    have hex : ∃ t, t < 2 * J + 1 ∧ mgb true y.1 y.2.1 y.2.2 w.1 w.2.1 w.2.2 t = true := by
      rcases Classical.em (∃ t, t < 2 * J + 1 ∧ mgb true y.1 y.2.1 y.2.2 w.1 w.2.1 w.2.2 t = true) with g | g
      · exact g
      · exact absurd (fun t ht => by
          cases e : mgb true y.1 y.2.1 y.2.2 w.1 w.2.1 w.2.2 t
          · rfl
          · exact absurd ⟨t, ht, e⟩ g) hn
    obtain ⟨t, ht, e⟩ := hex
    have hlt : ∀ j, j ≤ J → (∀ a, a < j → (mgs y.1 y.2.1 w.1 w.2.1 a).1 + (mgs y.1 y.2.1 w.1 w.2.1 a).2 < y.1 + w.1) := fun j hj a ha => hJ.2.2 a (by omega)
    rcases Nat.mod_two_eq_zero_or_one t with q | q
    · rw [show t = 2 * (t / 2) by omega, mgb_e] at e
      obtain ⟨i1, i2, i3⟩ := mgs_inv (t / 2) (hlt (t / 2) (by omega))
      obtain ⟨r, g1, g2⟩ := mg_even hs1 hs2 i1 i2 (mg_inv hs1 hs2 (t / 2) _ _ rfl)
      have e := (Bool.and_eq_true _ _).mp e
      exact ⟨r, _, _, g1, g2, e.1, e.2⟩
    · rw [show t = 2 * (t / 2) + 1 by omega, mgb_o] at e
      obtain ⟨i1, i2, i3⟩ := mgs_inv (t / 2) (hlt (t / 2) (by omega))
      obtain ⟨r, g1, g2⟩ := mg_odd hs1 hs2 i1 i2 (hJ.2.2 (t / 2) (by omega)) (mg_inv hs1 hs2 (t / 2) _ _ rfl)
      have e := (Bool.and_eq_true _ _).mp e
      exact ⟨r, _, _, g1, g2, e.1, e.2⟩
  · rintro ⟨r, t1, t2, g1, g2, g3, g4⟩ hall
    obtain ⟨t, ht, e⟩ := mg_find (m1 := y.2.2) (m2 := w.2.2) (zb := true) g1 g2 hJ
    rw [hall t ht, g3, g4] at e
    exact absurd e (by decide)
theorem wh_iff {op : Int32} {n : Nat} {pt : Nat → Rat} {sg : Nat → Int32} (hs : Srt n pt) {r : Rat} {t t2 : Nat} (h : IsPos n pt r t) (h2 : IsPos (whS op n pt sg).1 (whS op n pt sg).2.1 r t2) : (whS op n pt sg).2.2 t2 = chB op (sg t) := by
  obtain ⟨a, b, g1, g2, g3⟩ := cz_val (b := fun j => chB op (sg j)) r n hs
  rw [ips_uni h g1, ips_uni h2 g2]
  exact g3.symm
