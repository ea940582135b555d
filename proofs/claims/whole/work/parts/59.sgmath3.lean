/-! signs on a cell -/
def sbS (be : Int32) (r : Nat) : Int32 := if r % 2 = 0 then be else -be
theorem sb2 (be : Int32) : sbS be 2 = be := by unfold sbS; rw [if_pos (by decide)]
def cR (A : Nat → Rat) (x : Rat) : Nat → Nat
  | 0 => 0
  | i + 1 => if x < A i then cR A x i + 1 else cR A x i
def SgR (j : Nat) (be : Int32) (A : Nat → Rat) (x : Rat) (s : Int32) : Prop := ((∃ i, i < j ∧ A i = x) ∧ s = 0) ∨ ((∀ i, i < j → A i ≠ x) ∧ s = sbS be (cR A x j))
theorem SgR.uni {j : Nat} {be : Int32} {A : Nat → Rat} {x : Rat} {s s' : Int32} (h : SgR j be A x s) (h' : SgR j be A x s') : s = s' := by
  rcases h with ⟨⟨i, h1, h2⟩, e⟩ | ⟨h1, e⟩
  · rcases h' with ⟨_, e'⟩ | ⟨g1, _⟩
    · rw [e, e']
    · exact absurd h2 (g1 i h1)
  · rcases h' with ⟨⟨i, g1, g2⟩, _⟩ | ⟨_, e'⟩
    · exact absurd g2 (h1 i g1)
    · rw [e, e']
theorem cR_0 {A : Nat → Rat} {x : Rat} : cR A x 0 = 0 := rfl
theorem cR_y {A : Nat → Rat} {x : Rat} {i : Nat} (h : x < A i) : cR A x (i + 1) = cR A x i + 1 := if_pos h
theorem cR_n {A : Nat → Rat} {x : Rat} {i : Nat} (h : ¬ x < A i) : cR A x (i + 1) = cR A x i := if_neg h
theorem rt_nl {a b : Rat} (h : a ≤ b) : ¬ b < a := fun q => absurd (rt_el h q) Rat.lt_irrefl
theorem sg_1 {be : Int32} {A : Nat → Rat} {x : Rat} : (x < A 0 → SgR 1 be A x (-be)) ∧ (x = A 0 → SgR 1 be A x 0) ∧ (A 0 < x → SgR 1 be A x be) := by
  have h1 : ∀ i, i < 1 → i = 0 := fun i hi => by omega
  refine ⟨fun h => Or.inr ⟨fun i hi => ?_, ?_⟩, fun h => Or.inl ⟨⟨0, by decide, h.symm⟩, rfl⟩, fun h => Or.inr ⟨fun i hi => ?_, ?_⟩⟩
  · rw [h1 i hi]; exact (Rat.ne_of_lt h).symm
  · rw [cR_y h]; rfl
  · rw [h1 i hi]; exact Rat.ne_of_lt h
  · rw [cR_n (rt_nl (Rat.le_of_lt h))]; rfl
theorem sg_2s {be : Int32} {A : Nat → Rat} {x : Rat} (e : A 0 = A 1) : (x ≠ A 0 → SgR 2 be A x be) ∧ (x = A 0 → SgR 2 be A x 0) := by
  have h1 : ∀ i, i < 2 → A i = A 0 := fun i hi => by
    rcases (show i = 0 ∨ i = 1 by omega) with rfl | rfl
    · rfl
    · exact e.symm
  refine ⟨fun h => Or.inr ⟨fun i hi => by rw [h1 i hi]; exact h.symm, ?_⟩, fun h => Or.inl ⟨⟨0, by decide, h.symm⟩, rfl⟩⟩
  by_cases g : x < A 0
  · rw [show (2 : Nat) = 0 + 1 + 1 from rfl, cR_y (by rw [h1 1 (by decide)]; exact g), cR_y g]; exact (sb2 be).symm
  · rw [show (2 : Nat) = 0 + 1 + 1 from rfl, cR_n (by rw [h1 1 (by decide)]; exact g), cR_n g]; rfl
theorem sg_2d {be : Int32} {A : Nat → Rat} {x : Rat} (e : A 0 < A 1) : (x < A 0 → SgR 2 be A x be) ∧ (x = A 0 → SgR 2 be A x 0) ∧ (A 0 < x → x < A 1 → SgR 2 be A x (-be)) ∧ (x = A 1 → SgR 2 be A x 0) ∧ (A 1 < x → SgR 2 be A x be) := by
  have h1 : (A 0 ≠ x) → (A 1 ≠ x) → ∀ i, i < 2 → A i ≠ x := fun a b i hi => by
    rcases (show i = 0 ∨ i = 1 by omega) with rfl | rfl
    · exact a
    · exact b
  refine ⟨fun h => Or.inr ⟨h1 (Rat.ne_of_lt h).symm (Rat.ne_of_lt (rt_ll h e)).symm, ?_⟩, fun h => Or.inl ⟨⟨0, by decide, h.symm⟩, rfl⟩, fun h g => Or.inr ⟨h1 (Rat.ne_of_lt h) (Rat.ne_of_lt g).symm, ?_⟩, fun h => Or.inl ⟨⟨1, by decide, h.symm⟩, rfl⟩, fun h => Or.inr ⟨h1 (Rat.ne_of_lt (rt_ll e h)) (Rat.ne_of_lt h), ?_⟩⟩
  · rw [show (2 : Nat) = 0 + 1 + 1 from rfl, cR_y (rt_ll h e), cR_y h]; exact (sb2 be).symm
  · rw [show (2 : Nat) = 0 + 1 + 1 from rfl, cR_y g, cR_n (rt_nl (Rat.le_of_lt h))]; rfl
  · rw [show (2 : Nat) = 0 + 1 + 1 from rfl, cR_n (rt_nl (Rat.le_of_lt h)), cR_n (rt_nl (Rat.le_of_lt (rt_ll e h)))]; rfl
theorem pos_0 {pt : Nat → Rat} {x : Rat} : IsPos 0 pt x 0 := ips_top (n := 0) (fun j hj => absurd hj (Nat.not_lt_zero _))
theorem pos_1 {pt : Nat → Rat} {x : Rat} : (x < pt 0 → IsPos 1 pt x 0) ∧ (x = pt 0 → IsPos 1 pt x 1) ∧ (pt 0 < x → IsPos 1 pt x 2) :=
  ⟨fun h => ips_lo (n := 0) pos_0 h, fun h => ips_at (n := 0) (fun j hj => absurd hj (Nat.not_lt_zero _)) h, fun h => ips_hi (n := 0) (fun j hj => absurd hj (Nat.not_lt_zero _)) h⟩
theorem pos_2 {pt : Nat → Rat} {x : Rat} (e : pt 0 < pt 1) : (x < pt 0 → IsPos 2 pt x 0) ∧ (x = pt 0 → IsPos 2 pt x 1) ∧ (pt 0 < x → x < pt 1 → IsPos 2 pt x 2) ∧ (x = pt 1 → IsPos 2 pt x 3) ∧ (pt 1 < x → IsPos 2 pt x 4) := by
  have h1 : ∀ j, j < 1 → pt j < pt 1 := fun j hj => by rw [show j = 0 by omega]; exact e
  exact ⟨fun h => ips_lo (n := 1) (pos_1.1 h) (rt_ll h e), fun h => ips_lo (n := 1) (pos_1.2.1 h) (by rw [h]; exact e), fun h g => ips_lo (n := 1) (pos_1.2.2 h) g, fun h => ips_at (n := 1) h1 h, fun h => ips_hi (n := 1) h1 h⟩
theorem ans_srt {j : Nat} {be : Int32} {A : Nat → Rat} {n : Nat} {pt : Nat → Rat} {sg : Nat → Int32} (h : AnsR j be A n pt sg) : Srt n pt := by
  intro a b h1 h2
  rcases h with ⟨_, rfl, _⟩ | ⟨_, rfl, _⟩ | ⟨_, rfl, _⟩ | ⟨_, rfl, e, e0, e1, _⟩
  · omega
  · omega
  · omega
  · rw [show a = 0 by omega, show b = 1 by omega, e0, e1]; exact e
theorem ans_sg {j : Nat} {be : Int32} {A : Nat → Rat} {n : Nat} {pt : Nat → Rat} {sg : Nat → Int32} (h : AnsR j be A n pt sg) {x : Rat} {t : Nat} (ht : IsPos n pt x t) : SgR j be A x (sg t) := by
  rcases h with ⟨rfl, rfl, rfl⟩ | ⟨rfl, rfl, e0, rfl⟩ | ⟨rfl, rfl, e, e0, rfl⟩ | ⟨rfl, rfl, e, e0, e1, rfl⟩
  · exact Or.inr ⟨fun i hi => absurd hi (Nat.not_lt_zero _), rfl⟩
  · rcases rat_tri x (A 0) with q | q | q
    · rw [ips_uni ht (pos_1.1 (by rw [e0]; exact q))]; exact sg_1.1 q
    · rw [ips_uni ht (pos_1.2.1 (by rw [e0]; exact q))]; exact sg_1.2.1 q
    · rw [ips_uni ht (pos_1.2.2 (by rw [e0]; exact q))]; exact sg_1.2.2 q
  · rcases rat_tri x (A 0) with q | q | q
    · rw [ips_uni ht (pos_1.1 (by rw [e0]; exact q))]; exact (sg_2s e).1 (Rat.ne_of_lt q)
    · rw [ips_uni ht (pos_1.2.1 (by rw [e0]; exact q))]; exact (sg_2s e).2 q
    · rw [ips_uni ht (pos_1.2.2 (by rw [e0]; exact q))]; exact (sg_2s e).1 (Rat.ne_of_lt q).symm
  · have e2 : pt 0 < pt 1 := by rw [e0, e1]; exact e
    rcases rat_tri x (A 0) with q | q | q
    · rw [ips_uni ht ((pos_2 e2).1 (by rw [e0]; exact q))]; exact (sg_2d e).1 q
    · rw [ips_uni ht ((pos_2 e2).2.1 (by rw [e0]; exact q))]; exact (sg_2d e).2.1 q
    · rcases rat_tri x (A 1) with g | g | g
      · rw [ips_uni ht ((pos_2 e2).2.2.1 (by rw [e0]; exact q) (by rw [e1]; exact g))]; exact (sg_2d e).2.2.1 q g
      · rw [ips_uni ht ((pos_2 e2).2.2.2.1 (by rw [e1]; exact g))]; exact (sg_2d e).2.2.2.1 g
      · rw [ips_uni ht ((pos_2 e2).2.2.2.2 (by rw [e1]; exact g))]; exact (sg_2d e).2.2.2.2 g
/-- of the answers' places, how many lie behind a cell -/
def rgt (at_ : Nat → Nat) (k : Nat) : Nat → Nat
  | 0 => 0
  | i + 1 => if k < at_ i then rgt at_ k i + 1 else rgt at_ k i
theorem rgt_le (at_ : Nat → Nat) (k : Nat) : ∀ i, rgt at_ k i ≤ i
  | 0 => Nat.le_refl _
  | i + 1 => by
    have := rgt_le at_ k i
    show (if k < at_ i then rgt at_ k i + 1 else rgt at_ k i) ≤ i + 1
    split <;> omega
theorem no_hit {n : Nat} {p : Nat → Rat} {j k : Nat} {be : Int32} {A : Nat → Rat} {at_ : Nat → Nat} (ha : ∀ i, i < j → IsPos n p (A i) (at_ i)) (hn : ∀ i, i < j → at_ i ≠ k) {x : Rat} {s : Int32} (hx : IsPos n p x k) (hs : SgR j be A x s) : s = sbS be (rgt at_ k j) := by
  have h1 : ∀ i, i < j → A i ≠ x := fun i hi e => hn i hi (ips_uni (by rw [← e]; exact ha i hi) hx)
  have h2 : ∀ i, i ≤ j → cR A x i = rgt at_ k i := by
    intro i
    induction i with
    | zero => exact fun _ => rfl
    | succ i ih =>
      intro hi
      show (if x < A i then cR A x i + 1 else cR A x i) = (if k < at_ i then rgt at_ k i + 1 else rgt at_ k i)
      rw [ih (by omega)]
      by_cases g : x < A i
      · have := ips_mono hx (ha i (by omega)) (Rat.le_of_lt g)
        have := hn i (by omega)
        rw [if_pos g, if_pos (by omega)]
      · have := ips_mono (ha i (by omega)) hx (Rat.not_lt.mp g)
        rw [if_neg g, if_neg (by omega)]
  rcases hs with ⟨⟨i, hi, e⟩, _⟩ | ⟨_, e⟩
  · exact absurd e (h1 i hi)
  · rw [e, h2 j (Nat.le_refl _)]
theorem sandw {n : Nat} {p : Nat → Rat} {a b x : Rat} {k : Nat} (ha : IsPos n p a k) (hb : IsPos n p b k) (h1 : a ≤ x) (h2 : x ≤ b) : IsPos n p x k := by
  obtain ⟨t, ht⟩ := ips_ex n p x
  have g1 := ips_mono ha ht h1
  have g2 := ips_mono ht hb h2
  rw [show k = t by omega]
  exact ht
def lfS (be : Int32) (sm : Bool) (j i : Nat) : Int32 := sbS be (if sm = true then 2 else j - 1 - i + 1)
theorem lf_t (be : Int32) (j i : Nat) : lfS be true j i = be := by unfold lfS; rw [if_pos rfl]; exact sb2 be
def afS (be : Int32) (sm : Bool) (j i : Nat) : Int32 := sbS be (if sm = true then 0 else j - 1 - i)
theorem af_t (be : Int32) (j i : Nat) : afS be true j i = be := by unfold afS; rw [if_pos rfl]; rfl
theorem hit_cell {n : Nat} {p : Nat → Rat} (hs : Srt n p) {j k : Nat} {be : Int32} {A : Nat → Rat} {at_ : Nat → Nat} {sm : Bool} (hj : (j = 1 ∧ sm = false) ∨ (j = 2 ∧ sm = true ∧ A 0 = A 1) ∨ (j = 2 ∧ sm = false ∧ A 0 < A 1)) (ha : ∀ i, i < j → IsPos n p (A i) (at_ i)) (hh : ∃ i, i < j ∧ at_ i = k) (c : Int32 → Prop) (c0 : ¬ c 0) : (∃ x s, IsPos n p x k ∧ SgR j be A x s ∧ c s) ↔ (k % 2 = 0 ∧ ∃ i, i < j ∧ at_ i = k ∧ (c (lfS be sm j i) ∨ c (afS be sm j i))) := by
  by_cases hk : k % 2 = 0
  · have lr : ∀ i, i < j → at_ i = k → (∃ y, y < A i ∧ IsPos n p y k) ∧ ∃ y, A i < y ∧ IsPos n p y k := fun i hi e => by
      have := ha i hi
      rw [e] at this
      exact cell_lr hs this hk
    have pk : ∀ i, i < j → at_ i = k → IsPos n p (A i) k := fun i hi e => by rw [← e]; exact ha i hi
    rcases hj with ⟨rfl, rfl⟩ | ⟨rfl, rfl, e⟩ | ⟨rfl, rfl, e⟩
    · obtain ⟨i, hi, ei⟩ := hh
      have i0 : i = 0 := by omega
      subst i0
      constructor
      · rintro ⟨x, s, h1, h2, h3⟩
        refine ⟨hk, 0, hi, ei, ?_⟩
        rcases rat_tri x (A 0) with q | q | q
        · exact Or.inl (by rw [h2.uni (sg_1.1 q)] at h3; exact h3)
        · rw [h2.uni (sg_1.2.1 q)] at h3; exact absurd h3 c0
        · exact Or.inr (by rw [h2.uni (sg_1.2.2 q)] at h3; exact h3)
      · rintro ⟨_, i, hi2, _, h⟩
        have i0 : i = 0 := by omega
        subst i0
        obtain ⟨⟨y, y1, y2⟩, ⟨z, z1, z2⟩⟩ := lr 0 hi ei
        rcases h with h | h
        · exact ⟨y, _, y2, sg_1.1 y1, h⟩
        · exact ⟨z, _, z2, sg_1.2.2 z1, h⟩
    · obtain ⟨i, hi, ei⟩ := hh
      have eA : A i = A 0 := by rcases (show i = 0 ∨ i = 1 by omega) with rfl | rfl; rfl; exact e.symm
      constructor
      · rintro ⟨x, s, h1, h2, h3⟩
        refine ⟨hk, i, hi, ei, Or.inl ?_⟩
        rcases Decidable.em (x = A 0) with q | q
        · rw [h2.uni ((sg_2s e).2 q)] at h3; exact absurd h3 c0
        · rw [h2.uni ((sg_2s e).1 q)] at h3; rw [lf_t]; exact h3
      · rintro ⟨_, i2, hi2, ei2, h⟩
        obtain ⟨⟨y, y1, y2⟩, _⟩ := lr i hi ei
        rw [eA] at y1
        refine ⟨y, be, y2, (sg_2s e).1 (Rat.ne_of_lt y1), ?_⟩
        rw [lf_t, af_t] at h
        exact h.elim id id
    · have mid : at_ 0 = k → at_ 1 = k → ∃ y, A 0 < y ∧ y < A 1 ∧ IsPos n p y k := fun e0 e1 => by
        obtain ⟨m1, m2⟩ := mid_lt e
        exact ⟨_, m1, m2, sandw (pk 0 (by decide) e0) (pk 1 (by decide) e1) (Rat.le_of_lt m1) (Rat.le_of_lt m2)⟩
      constructor
      · rintro ⟨x, s, h1, h2, h3⟩
        have both : at_ 0 = k ∨ at_ 1 = k := by
          obtain ⟨i, hi, ei⟩ := hh
          rcases (show i = 0 ∨ i = 1 by omega) with rfl | rfl
          · exact Or.inl ei
          · exact Or.inr ei
        refine ⟨hk, ?_⟩
        rcases rat_tri x (A 0) with q | q | q
        · rw [h2.uni ((sg_2d e).1 q)] at h3
          have e0 : at_ 0 = k := both.elim id (fun e1 => ips_uni (ha 0 (by decide)) (sandw h1 (pk 1 (by decide) e1) (Rat.le_of_lt q) (Rat.le_of_lt e)))
          exact ⟨0, by decide, e0, Or.inl h3⟩
        · rw [h2.uni ((sg_2d e).2.1 q)] at h3; exact absurd h3 c0
        · rcases rat_tri x (A 1) with g | g | g
          · rw [h2.uni ((sg_2d e).2.2.1 q g)] at h3
            rcases both with e0 | e1
            · exact ⟨0, by decide, e0, Or.inr h3⟩
            · exact ⟨1, by decide, e1, Or.inl h3⟩
          · rw [h2.uni ((sg_2d e).2.2.2.1 g)] at h3; exact absurd h3 c0
          · rw [h2.uni ((sg_2d e).2.2.2.2 g)] at h3
            have e1 : at_ 1 = k := both.elim (fun e0 => ips_uni (ha 1 (by decide)) (sandw (pk 0 (by decide) e0) h1 (Rat.le_of_lt e) (Rat.le_of_lt g))) id
            exact ⟨1, by decide, e1, Or.inr h3⟩
      · rintro ⟨_, i, hi, ei, h⟩
        obtain ⟨⟨y, y1, y2⟩, ⟨z, z1, z2⟩⟩ := lr i hi ei
        rcases (show i = 0 ∨ i = 1 by omega) with rfl | rfl
        · rcases h with h | h
          · exact ⟨y, _, y2, (sg_2d e).1 y1, h⟩
          · rcases Decidable.em (z < A 1) with g | g
            · exact ⟨z, _, z2, (sg_2d e).2.2.1 z1 g, h⟩
            · have e1 := ips_uni (ha 1 (by decide)) (sandw (pk 0 (by decide) ei) z2 (Rat.le_of_lt e) (Rat.not_lt.mp g))
              obtain ⟨w, w1, w2, w3⟩ := mid ei e1
              exact ⟨w, _, w3, (sg_2d e).2.2.1 w1 w2, h⟩
        · rcases h with h | h
          · rcases Decidable.em (A 0 < y) with g | g
            · exact ⟨y, _, y2, (sg_2d e).2.2.1 g y1, h⟩
            · have e0 := ips_uni (ha 0 (by decide)) (sandw y2 (pk 1 (by decide) ei) (Rat.not_lt.mp g) (Rat.le_of_lt e))
              obtain ⟨w, w1, w2, w3⟩ := mid e0 ei
              exact ⟨w, _, w3, (sg_2d e).2.2.1 w1 w2, h⟩
          · exact ⟨z, _, z2, (sg_2d e).2.2.2.2 z1, h⟩
  · constructor
    · rintro ⟨x, s, h1, h2, h3⟩
      obtain ⟨i, hi, ei⟩ := hh
      have g := ha i hi
      rw [ei] at g
      have e := cell_odd g h1 hk
      rcases h2 with ⟨_, e2⟩ | ⟨e2, _⟩
      · rw [e2] at h3; exact absurd h3 c0
      · exact absurd e (e2 i hi)
    · rintro ⟨q, _⟩
      exact absurd q hk
/-- what the law's own count of a cell says -/
def CellP (z : St3) (j : Nat) (be : Int32) (A : Nat → Rat) (c : Int32 → Prop) (k : Nat) : Prop := z.2.2 k = true ∧ ∃ x s, IsPos z.1 z.2.1 x k ∧ SgR j be A x s ∧ c s
theorem has_iff {y : St3} {op : Int32} {j : Nat} {be : Int32} {A : Nat → Rat} {n : Nat} {pt : Nat → Rat} {sg : Nat → Int32} (hs : Srt y.1 y.2.1) (h : AnsR j be A n pt sg) {w : St3} (hw1 : w.1 = (whS op n pt sg).1) (hw2 : w.2.1 = (whS op n pt sg).2.1) {c : Int32 → Prop} (hw : ∀ t, w.2.2 t = true ↔ ∃ v, (whS op n pt sg).2.2 t = v ∧ ∀ s, chB op s = v → c s) (hc : ∀ s, c s ∨ ¬ c s) (hcv : ∀ s, c s → ∀ s', chB op s' = chB op s → c s') {x : Bool} (hm : meet y w x) : x = true ↔ ∃ k, k < 2 * y.1 + 1 ∧ CellP y j be A c k := by
  have hs2 : Srt w.1 w.2.1 := by rw [hw1, hw2]; exact czp_srt (ans_srt h)
  rw [meet_iff hs hs2 hm]
  constructor
  · rintro ⟨r, t1, t2, g1, g2, g3, g4⟩
    obtain ⟨t, ht⟩ := ips_ex n pt r
    rw [hw1, hw2] at g2
    have e := wh_iff (op := op) (sg := sg) (ans_srt h) ht g2
    obtain ⟨v, v1, v2⟩ := (hw t2).mp g4
    exact ⟨t1, ips_bd g1, g3, r, sg t, g1, ans_sg h ht, v2 _ (by rw [← v1, e])⟩
  · rintro ⟨k, hk, g3, r, s, g1, g2, g4⟩
    obtain ⟨t, ht⟩ := ips_ex n pt r
    obtain ⟨t2, ht2⟩ := ips_ex w.1 w.2.1 r
    have ht3 := ht2
    rw [hw1, hw2] at ht3
    have e := wh_iff (op := op) (sg := sg) (ans_srt h) ht ht3
    have es := g2.uni (ans_sg h ht)
    exact ⟨r, k, t2, g1, ht2, g3, (hw t2).mpr ⟨_, e, fun s' hs' => hcv s g4 s' (by rw [es]; exact hs')⟩⟩
theorem sgV_of {no le mo : Bool} (h : mo = true ∨ no = true ∨ le = true) : sgV no le mo = if mo = true ∧ no = false ∧ le = false then 1 else if le = true ∧ no = false ∧ mo = false then -1 else if no = true ∧ mo = false ∧ le = false then 0 else 2 := by
  cases no <;> cases le <;> cases mo <;> simp [sgV] at h ⊢
theorem chB_0 {s : Int32} : chB 0 s = true ↔ s = 0 := by unfold chB; rw [if_pos rfl, decide_eq_true_eq]
theorem chB_1 {s : Int32} : chB 1 s = true ↔ s < 0 := by unfold chB; rw [if_neg (by decide), if_pos rfl, decide_eq_true_eq]
theorem chB_2 {s : Int32} : chB 2 s = true ↔ s ≤ 0 := by unfold chB; rw [if_neg (by decide), if_neg (by decide), decide_eq_true_eq]
/-- the three answers of the law's count, and what the class asks of the sets -/
theorem sg_meets {y : St3} {j : Nat} {be : Int32} {A : Nat → Rat} {n : Nat} {pt : Nat → Rat} {sg : Nat → Int32} (hs : Srt y.1 y.2.1) (h : AnsR j be A n pt sg) {mo no le : Bool} (h1 : mo = true ↔ ∃ k, k < 2 * y.1 + 1 ∧ CellP y j be A (fun s => ¬ s ≤ 0) k) (h2 : no = true ↔ ∃ k, k < 2 * y.1 + 1 ∧ CellP y j be A (fun s => s = 0) k) (h3 : le = true ↔ ∃ k, k < 2 * y.1 + 1 ∧ CellP y j be A (fun s => s < 0) k) : meet y (whS 0 n pt sg) no ∧ meet y (whS 1 n pt sg) le ∧ meet y ((whS 2 n pt sg).1, (whS 2 n pt sg).2.1, fun j => !(whS 2 n pt sg).2.2 j) mo := by
  have uni : ∀ {a b : Bool} {P : Prop}, (a = true ↔ P) → (b = true ↔ P) → a = b := fun {a b P} g1 g2 => by
    cases a <;> cases b
    · rfl
    · exact absurd (g1.mpr (g2.mp rfl)) (by decide)
    · exact absurd (g2.mpr (g1.mp rfl)) (by decide)
    · rfl
  have ex : ∀ w : St3, ∃ x, meet y w x := fun w => by
    obtain ⟨J, hJ⟩ := mge_ex y.1 w.1 y.2.1 w.2.1
    exact ⟨_, J, hJ, rfl⟩
  refine ⟨?_, ?_, ?_⟩
  · obtain ⟨x, hx⟩ := ex (whS 0 n pt sg)
    have g := has_iff (op := 0) (c := fun s => s = 0) hs h rfl rfl (fun t => ⟨fun e => ⟨true, e, fun s q => chB_0.mp q⟩, fun ⟨v, e, q⟩ => by
      cases v
      · exact absurd (q 1 (by decide)) (by decide)
      · exact e⟩) (fun s => Decidable.em _) (fun s q s' e => by rw [chB_0.mpr q] at e; exact chB_0.mp e) hx
    rw [uni h2 g]; exact hx
  · obtain ⟨x, hx⟩ := ex (whS 1 n pt sg)
    have g := has_iff (op := 1) (c := fun s => s < 0) hs h rfl rfl (fun t => ⟨fun e => ⟨true, e, fun s q => chB_1.mp q⟩, fun ⟨v, e, q⟩ => by
      cases v
      · exact absurd (q 1 (by decide)) (by decide)
      · exact e⟩) (fun s => Decidable.em _) (fun s q s' e => by rw [chB_1.mpr q] at e; exact chB_1.mp e) hx
    rw [uni h3 g]; exact hx
  · obtain ⟨x, hx⟩ := ex ((whS 2 n pt sg).1, (whS 2 n pt sg).2.1, fun j => !(whS 2 n pt sg).2.2 j)
    have g := has_iff (op := 2) (w := ((whS 2 n pt sg).1, (whS 2 n pt sg).2.1, fun j => !(whS 2 n pt sg).2.2 j)) (c := fun s => ¬ s ≤ 0) hs h rfl rfl (fun t => ⟨fun e => ⟨false, (Bool.not_eq_true' _).mp e, fun s q g => by rw [chB_2.mpr g] at q; exact absurd q (by decide)⟩, fun ⟨v, e, q⟩ => by
      cases v
      · exact (Bool.not_eq_true' _).mpr e
      · exact absurd (by decide) (q 0 (by decide))⟩) (fun s => Decidable.em _) (fun s q s' e g => by rw [chB_2.mpr g] at e; exact q (chB_2.mp e.symm)) hx
    rw [uni h1 g]; exact hx
