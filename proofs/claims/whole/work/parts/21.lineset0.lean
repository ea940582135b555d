/-! sets: places and cells; which places are kept -/
theorem ix0 (k : Nat) : 2 * nI k = nI (2 * k) := pk_mul 2 k
theorem ix1 (k : Nat) : 2 * nI k + 1 = nI (2 * k + 1) := by rw [ix0, nI_1]
theorem ix2 (k : Nat) : 2 * nI k + 2 = nI (2 * k + 2) := by rw [ix0]; exact nI_add (2 * k) 2
def chg (b : Nat → Bool) (k : Nat) : Bool := (b (2 * k + 1) != b (2 * k)) || (b (2 * k + 1) != b (2 * k + 2))
/-- how many of the first k places are kept, which, and the cells with them -/
def czn (b : Nat → Bool) : Nat → Nat
  | 0 => 0
  | k + 1 => if chg b k = true then czn b k + 1 else czn b k
def czp (p : Nat → Rat) (b : Nat → Bool) : Nat → (Nat → Rat)
  | 0 => fun _ => 0
  | k + 1 => if chg b k = true then (fun j => if j = czn b k then p k else czp p b k j) else czp p b k
def czm (b : Nat → Bool) : Nat → (Nat → Bool)
  | 0 => fun _ => b 0
  | k + 1 => if chg b k = true then (fun j => if j = 2 * czn b k + 1 then b (2 * k + 1) else if j = 2 * czn b k + 2 then b (2 * k + 2) else czm b k j) else czm b k
theorem czn_le (b : Nat → Bool) (k : Nat) : czn b k ≤ k := by
  induction k with
  | zero => exact Nat.le_refl _
  | succ k ih => unfold czn; split <;> omega
theorem czn_mono (b : Nat → Bool) {k n : Nat} (h : k ≤ n) : czn b k ≤ czn b n := by
  induction n with
  | zero => rw [show k = 0 by omega]; exact Nat.le_refl _
  | succ n ih =>
    rcases Nat.lt_or_ge k (n + 1) with q | q
    · have := ih (by omega)
      show _ ≤ (if chg b n = true then czn b n + 1 else czn b n)
      split <;> omega
    · rw [show k = n + 1 by omega]; exact Nat.le_refl _
theorem cz_stop (p : Nat → Rat) (b : Nat → Bool) {k n : Nat} (h : k ≤ n) (e : czn b k = czn b n) : czp p b k = czp p b n ∧ czm b k = czm b n := by
  induction n with
  | zero => rw [show k = 0 by omega]; exact ⟨rfl, rfl⟩
  | succ n ih =>
    rcases Nat.lt_or_ge k (n + 1) with q | q
    · have m1 := czn_mono b (show k ≤ n by omega)
      have hc : ¬ chg b n = true := fun hc => by
        have e2 : czn b (n + 1) = czn b n + 1 := by show (if chg b n = true then czn b n + 1 else czn b n) = _; rw [if_pos hc]
        omega
      have e2 : czn b (n + 1) = czn b n := by show (if chg b n = true then czn b n + 1 else czn b n) = _; rw [if_neg hc]
      obtain ⟨i1, i2⟩ := ih (by omega) (by omega)
      refine ⟨?_, ?_⟩
      · rw [i1]; show _ = (if chg b n = true then _ else _); rw [if_neg hc]
      · rw [i2]; show _ = (if chg b n = true then _ else _); rw [if_neg hc]
    · rw [show k = n + 1 by omega]; exact ⟨rfl, rfl⟩
theorem czn_y {b : Nat → Bool} {k : Nat} (h : chg b k = true) : czn b (k + 1) = czn b k + 1 := if_pos h
theorem czn_n {b : Nat → Bool} {k : Nat} (h : chg b k = false) : czn b (k + 1) = czn b k := if_neg (by rw [h]; decide)
theorem czp_n {p : Nat → Rat} {b : Nat → Bool} {k : Nat} (h : chg b k = false) : czp p b (k + 1) = czp p b k := if_neg (by rw [h]; decide)
theorem czm_n {b : Nat → Bool} {k : Nat} (h : chg b k = false) : czm b (k + 1) = czm b k := if_neg (by rw [h]; decide)
theorem czp_y {p : Nat → Rat} {b : Nat → Bool} {k : Nat} (h : chg b k = true) : czp p b (k + 1) = fun j => if j = czn b k then p k else czp p b k j := if_pos h
theorem czm_y {b : Nat → Bool} {k : Nat} (h : chg b k = true) : czm b (k + 1) = fun j => if j = 2 * czn b k + 1 then b (2 * k + 1) else if j = 2 * czn b k + 2 then b (2 * k + 2) else czm b k j := if_pos h
def RowP (G : Gm) (A : Nat → Prop) (H : Heap) (a n k : Nat) (c : Nat → Rat) : Prop := ∃ f : Nat → Value, Ar A H a (G.2 3) n f ∧ ∀ j, j < k → ∃ x, f j = .ref x ∧ Fr G A H x (c j)
def ZrP (G : Gm) (A : Nat → Prop) (H : Heap) (a n k : Nat) (b : Nat → Bool) : Prop := ∃ f : Nat → Value, Ar A H a (G.2 2) n f ∧ ∀ j, j < k → f j = .int (b2i (b j))
def ZrM (G : Gm) (H : Heap) (a n k : Nat) (b : Nat → Bool) : Prop := ∃ f : Nat → Value, H[a]? = some (arrV (G.2 2) n f) ∧ ∀ j, j < k → f j = .int (b2i (b j))
def Ls (G : Gm) (A : Nat → Prop) (H : Heap) (q n : Nat) (pt : Nat → Rat) (mk : Nat → Bool) : Prop := ∃ pa ca : Nat, Ob G A H q 2 [.ref pa, .ref ca] ∧ RowF G A H pa n pt ∧ ZrP G A H ca (2 * n + 1) (2 * n + 1) mk
section LS
variable {G : Gm} {A A' : Nat → Prop} {H H' H1 H2 : Heap} {a n k q : Nat} {c c' : Nat → Rat} {b b' : Nat → Bool}
theorem RowP.mv (h : RowP G A H a n k c) (m : Mv A H A' H') : RowP G A' H' a n k c := by
  obtain ⟨f, h1, h2⟩ := h
  refine ⟨f, h1.mv m, fun j hj => ?_⟩
  obtain ⟨x, e, hx⟩ := h2 j hj
  exact ⟨x, e, hx.mv m⟩
theorem ZrP.mv (h : ZrP G A H a n k b) (m : Mv A H A' H') : ZrP G A' H' a n k b := by
  obtain ⟨f, h1, h2⟩ := h
  exact ⟨f, h1.mv m, h2⟩
theorem ZrP.congr (h : ZrP G A H a n k b) (e : ∀ j, j < k → b j = b' j) : ZrP G A H a n k b' := by
  obtain ⟨f, h1, h2⟩ := h
  exact ⟨f, h1, fun j hj => by rw [← e j hj]; exact h2 j hj⟩
theorem Ls.mv {pt : Nat → Rat} (h : Ls G A H q n pt b) (m : Mv A H A' H') : Ls G A' H' q n pt b := by
  obtain ⟨pa, ca, h1, h2, h3⟩ := h
  exact ⟨pa, ca, h1.mv m, h2.mv m, h3.mv m⟩
theorem Ls.ob {pt : Nat → Rat} (h : Ls G A H q n pt b) : ∃ fs, va_at G.1 vwCl (q, .inr (2, fs)) H := by
  obtain ⟨pa, ca, h1, -⟩ := h
  exact ⟨_, h1.2⟩
theorem ZrM.ex (h : ZrM G H a n k b) (e : Ex H H1) : ZrM G H1 a n k b := by
  obtain ⟨f, h1, h2⟩ := h
  exact ⟨f, (e.2 a (Array.getElem?_eq_some_iff.mp h1).1).trans h1, h2⟩
theorem ZrM.oth {x : Nat} (h : ZrM G H a n k b) (o : ∀ z, z ≠ x → H1[z]? = H[z]?) (hx : a ≠ x) : ZrM G H1 a n k b := by
  obtain ⟨f, h1, h2⟩ := h
  exact ⟨f, (o a hx).trans h1, h2⟩
theorem ZrM.lt (h : ZrM G H a n k b) : a < H.size := by
  obtain ⟨f, h1, -⟩ := h
  exact (Array.getElem?_eq_some_iff.mp h1).1
theorem ZrM.put {f : Nat → Value} {i k' : Nat} {x : Bool} (h2 : ∀ j, j < k → f j = .int (b2i (b j))) (w1 : H1[a]? = some (arrV (G.2 2) n (updV f i (.int (b2i x))))) (hk : ∀ j, j < k' → j ≠ i → j < k ∧ b' j = b j) (hr : i < k' → b' i = x) : ZrM G H1 a n k' b' := by
  refine ⟨_, w1, fun j hj => ?_⟩
  by_cases e : j = i
  · subst e
    simp [updV, hr hj]
  · obtain ⟨hj2, e2⟩ := hk j hj e
    simp [updV, e, e2, h2 j hj2]
/-- a row of fractions while another cell is written -/
theorem RowM.oth {x : Nat} (h : RowM G A H a n k c) (z : H1.size = H.size) (o : ∀ z, z ≠ x → H1[z]? = H[z]?) (hx : a ≠ x) (hA : A x) : RowM G A H1 a n k c := by
  obtain ⟨f, h1, h2⟩ := h
  refine ⟨f, (o a hx).trans h1, fun j hj => ?_⟩
  obtain ⟨y, e, hy⟩ := h2 j hj
  exact ⟨y, e, hy.mv (Mv.put z o (Or.inl hA))⟩
end LS
