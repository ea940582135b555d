/-! each call has one answer -/
def Dt {α : Type} (X : Nat → α → Prop) : Prop := ∀ c r c' r', X c r → X c' r' → c = c' ∧ (c = 0 → r = r')
theorem dt_kp {N bad : Nat} (hb : bad ≠ 0) (t0 : Th) : Dt (Kp N bad t0) := by
  intro c r c' r' h h'
  rcases h with ⟨h1, h2⟩ | ⟨h1, h2, h3, h4⟩
  · rcases h' with ⟨g1, g2⟩ | ⟨g1, g2, g3, g4⟩
    · exact ⟨h1.trans g1.symm, fun e => absurd (h1.symm.trans e) hb⟩
    · rcases h2 with h2 | h2
      · omega
      · rw [g3] at h2; exact absurd h2 (by decide)
  · rcases h' with ⟨g1, g2⟩ | ⟨g1, g2, g3, g4⟩
    · rcases g2 with g2 | g2
      · omega
      · rw [h3] at g2; exact absurd g2 (by decide)
    · exact ⟨h1.trans g1.symm, fun _ => h4.trans g4.symm⟩
theorem dt_one {α : Type} {N : Nat} {th : Nat → Th} {f : Int32} {X : Th → Nat → α → Prop} (hN : N ≤ 80) (hX : ∀ i, i < N → Dt (X (th i))) : Dt (One N th f X) := by
  intro c r c' r' h h'
  rcases h with ⟨h1, h2⟩ | ⟨i, hi, e, h⟩
  · rcases h' with ⟨g1, _⟩ | ⟨i, hi, e, _⟩
    · exact ⟨h1.trans g1.symm, fun q => by omega⟩
    · exact absurd ⟨i, hi, e⟩ h2
  · rcases h' with ⟨_, g2⟩ | ⟨j, hj, e2, g⟩
    · exact absurd ⟨i, hi, e⟩ g2
    · have ij : i = j := (nI_eq (by omega) (by omega)).mp (e.symm.trans e2)
      subst ij
      exact hX i hi c r c' r' h g
theorem dt_two {α : Type} {N : Nat} {th : Nat → Th} {f g : Int32} {X : Th → Th → Nat → α → Prop} (hN : N ≤ 80) (hX : ∀ i j, i < N → j < N → Dt (X (th i) (th j))) : Dt (Two N th f g X) := by
  intro c r c' r' h h'
  rcases h with ⟨h1, h2⟩ | ⟨i, j, hi, hj, e, e2, h⟩
  · rcases h' with ⟨g1, _⟩ | ⟨i, j, hi, hj, e, e2, _⟩
    · exact ⟨h1.trans g1.symm, fun q => by omega⟩
    · exact absurd ⟨⟨i, hi, e⟩, ⟨j, hj, e2⟩⟩ h2
  · rcases h' with ⟨_, g2⟩ | ⟨i', j', hi', hj', e', e2', g⟩
    · exact absurd ⟨⟨i, hi, e⟩, ⟨j, hj, e2⟩⟩ g2
    · have ii : i = i' := (nI_eq (by omega) (by omega)).mp (e.symm.trans e')
      have jj : j = j' := (nI_eq (by omega) (by omega)).mp (e2.symm.trans e2')
      subst ii jj
      exact hX i j hi hj c r c' r' h g
theorem dt_fm1 {α : Type} {Y : (Nat → Rat) → Nat → α → Prop} {a : Th} (hY : ∀ u, a = .inl u → Dt (Y u)) : Dt (Fm1 Y a) := by
  intro c r c' r' h h'
  rcases h with ⟨h1, h2⟩ | ⟨u, e, h⟩
  · rcases h' with ⟨g1, _⟩ | ⟨u, e, _⟩
    · exact ⟨h1.trans g1.symm, fun q => by omega⟩
    · exact absurd ⟨u, e⟩ h2
  · rcases h' with ⟨_, g2⟩ | ⟨u', e', g⟩
    · exact absurd ⟨u, e⟩ g2
    · have ee : u = u' := Sum.inl.inj (e.symm.trans e')
      subst ee
      exact hY u e c r c' r' h g
theorem dt_se1 {α : Type} {Y : St3 → Nat → α → Prop} {a : Th} (hY : ∀ u, a = .inr u → Dt (Y u)) : Dt (Se1 Y a) := by
  intro c r c' r' h h'
  rcases h with ⟨h1, h2⟩ | ⟨u, e, h⟩
  · rcases h' with ⟨g1, _⟩ | ⟨u, e, _⟩
    · exact ⟨h1.trans g1.symm, fun q => by omega⟩
    · exact absurd ⟨u, e⟩ h2
  · rcases h' with ⟨_, g2⟩ | ⟨u', e', g⟩
    · exact absurd ⟨u, e⟩ g2
    · have ee : u = u' := Sum.inr.inj (e.symm.trans e')
      subst ee
      exact hY u e c r c' r' h g
theorem dt_fm2 {α : Type} {Y : (Nat → Rat) → (Nat → Rat) → Nat → α → Prop} {a b : Th} (hY : ∀ u v, a = .inl u → b = .inl v → Dt (Y u v)) : Dt (Fm2 Y a b) := by
  intro c r c' r' h h'
  rcases h with ⟨h1, h2⟩ | ⟨u, v, e, f, h⟩
  · rcases h' with ⟨g1, _⟩ | ⟨u, v, e, f, _⟩
    · exact ⟨h1.trans g1.symm, fun q => by omega⟩
    · exact absurd ⟨⟨u, e⟩, ⟨v, f⟩⟩ h2
  · rcases h' with ⟨_, g2⟩ | ⟨u', v', e', f', g⟩
    · exact absurd ⟨⟨u, e⟩, ⟨v, f⟩⟩ g2
    · have ee : u = u' := Sum.inl.inj (e.symm.trans e')
      have ff : v = v' := Sum.inl.inj (f.symm.trans f')
      subst ee ff
      exact hY u v e f c r c' r' h g
theorem dt_se2 {α : Type} {Y : St3 → St3 → Nat → α → Prop} {a b : Th} (hY : ∀ u v, a = .inr u → b = .inr v → Dt (Y u v)) : Dt (Se2 Y a b) := by
  intro c r c' r' h h'
  rcases h with ⟨h1, h2⟩ | ⟨u, v, e, f, h⟩
  · rcases h' with ⟨g1, _⟩ | ⟨u, v, e, f, _⟩
    · exact ⟨h1.trans g1.symm, fun q => by omega⟩
    · exact absurd ⟨⟨u, e⟩, ⟨v, f⟩⟩ h2
  · rcases h' with ⟨_, g2⟩ | ⟨u', v', e', f', g⟩
    · exact absurd ⟨⟨u, e⟩, ⟨v, f⟩⟩ g2
    · have ee : u = u' := Sum.inr.inj (e.symm.trans e')
      have ff : v = v' := Sum.inr.inj (f.symm.trans f')
      subst ee ff
      exact hY u v e f c r c' r' h g
/-- a test in front: refused with bad where P fails -/
theorem dt_if {α : Type} {P : Prop} {bad : Nat} (hb : bad ≠ 0) {X : Nat → α → Prop} (hX : Dt X) : Dt (fun c r => (c = bad ∧ ¬ P) ∨ (P ∧ X c r)) := by
  intro c r c' r' h h'
  rcases h with ⟨h1, h2⟩ | ⟨h1, h2⟩
  · rcases h' with ⟨g1, _⟩ | ⟨g1, _⟩
    · exact ⟨h1.trans g1.symm, fun q => absurd (h1.symm.trans q) hb⟩
    · exact absurd g1 h2
  · rcases h' with ⟨_, g2⟩ | ⟨_, g2⟩
    · exact absurd h1 g2
    · exact hX c r c' r' h2 g2
theorem dt_if' {α : Type} {P : Prop} {bad : Nat} (hb : bad ≠ 0) {X : Nat → α → Prop} (hX : Dt X) : Dt (fun c r => (c = bad ∧ P) ∨ (¬ P ∧ X c r)) := by
  intro c r c' r' h h'
  rcases h with ⟨h1, h2⟩ | ⟨h1, h2⟩
  · rcases h' with ⟨g1, _⟩ | ⟨g1, _⟩
    · exact ⟨h1.trans g1.symm, fun q => absurd (h1.symm.trans q) hb⟩
    · exact absurd h2 g1
  · rcases h' with ⟨_, g2⟩ | ⟨_, g2⟩
    · exact absurd g2 h1
    · exact hX c r c' r' h2 g2
theorem dt_eq {α : Type} (x : α) : Dt (fun c r => c = 0 ∧ r = x) := fun _ _ _ _ h g => ⟨h.1.trans g.1.symm, fun _ => h.2.trans g.2.symm⟩
theorem tell_uni {u : Nat → Rat} {n n' : Nat} {pt pt' : Nat → Rat} {sg sg' : Nat → Int32} (h : TellR u n pt sg) (h' : TellR u n' pt' sg') : n = n' ∧ pt = pt' ∧ sg = sg' := by
  have k0 : ¬ (0 : Int32) = 1 := by decide
  rcases h with ⟨d, rfl, rfl, rfl⟩ | ⟨d, rfl, rfl, rfl⟩ | ⟨d, e, rfl, rfl, rfl⟩ | ⟨d, r, r0, e, h⟩
  · rcases h' with ⟨d', rfl, rfl, rfl⟩ | ⟨d', _⟩ | ⟨d', _⟩ | ⟨d', _⟩
    · exact ⟨rfl, rfl, rfl⟩
    · rw [d'] at d; exact absurd d (by decide)
    · rw [d'] at d; exact absurd d (by decide)
    · rw [d'] at d; exact absurd d (by decide)
  · rcases h' with ⟨d', _⟩ | ⟨d', rfl, rfl, rfl⟩ | ⟨d', _⟩ | ⟨d', _⟩
    · rw [d] at d'; exact absurd d' (by decide)
    · exact ⟨rfl, rfl, rfl⟩
    · rw [d] at d'; exact absurd d' (by decide)
    · rw [d] at d'; exact absurd d' (by decide)
  · rcases h' with ⟨d', _⟩ | ⟨d', _⟩ | ⟨_, _, rfl, rfl, rfl⟩ | ⟨_, r, r0, e', _⟩
    · rw [d] at d'; exact absurd d' (by decide)
    · rw [d] at d'; exact absurd d' (by decide)
    · exact ⟨rfl, rfl, rfl⟩
    · rw [← e'] at e; exact absurd e (rt_nl (Rat.mul_nonneg r0 r0))
  · rcases h' with ⟨d', _⟩ | ⟨d', _⟩ | ⟨_, e', _⟩ | ⟨_, r', r0', e', h'⟩
    · rw [d] at d'; exact absurd d' (by decide)
    · rw [d] at d'; exact absurd d' (by decide)
    · rw [← e] at e'; exact absurd e' (rt_nl (Rat.mul_nonneg r0 r0))
    · have rr : r = r' := root_uni r0 r0' (e.trans e'.symm)
      subst rr
      rcases h with ⟨z, rfl, rfl, rfl⟩ | ⟨z, rfl, rfl, rfl⟩
      · rcases h' with ⟨_, rfl, rfl, rfl⟩ | ⟨z', _⟩
        · exact ⟨rfl, rfl, rfl⟩
        · exact absurd z z'
      · rcases h' with ⟨z', _⟩ | ⟨_, rfl, rfl, rfl⟩
        · exact absurd z' z
        · exact ⟨rfl, rfl, rfl⟩
theorem tell_no {u : Nat → Rat} {n : Nat} {pt : Nat → Rat} {sg : Nat → Int32} (h : TellR u n pt sg) : ¬ NoTell u := by
  intro g
  rcases h with ⟨d, _⟩ | ⟨d, _⟩ | ⟨d, e, _⟩ | ⟨d, r, r0, e, _⟩ <;> rcases g with g | ⟨g, g1, g2⟩
  · rw [g] at d; exact absurd d (by decide)
  · rw [g] at d; exact absurd d (by decide)
  · rw [g] at d; exact absurd d (by decide)
  · rw [g] at d; exact absurd d (by decide)
  · rw [g] at d; exact absurd d (by decide)
  · exact absurd e (rt_nl g1)
  · rw [g] at d; exact absurd d (by decide)
  · exact g2 ⟨r, e⟩
theorem mge_uni {n1 n2 : Nat} {p q : Nat → Rat} {J J' : Nat} (h : MgE n1 p n2 q J) (h' : MgE n1 p n2 q J') : J = J' := by
  rcases Nat.lt_trichotomy J J' with g | g | g
  · have := h'.2.2 J g; rw [h.2.1] at this; exact absurd this (Nat.lt_irrefl _)
  · exact g
  · have := h.2.2 J' g; rw [h'.2.1] at this; exact absurd this (Nat.lt_irrefl _)
theorem dt_tell {α : Type} {u : Nat → Rat} {X : Nat → (Nat → Rat) → (Nat → Int32) → Nat → α → Prop} (hX : ∀ n pt sg, Dt (X n pt sg)) : Dt (fun c r => (c = 3 ∧ NoTell u) ∨ ∃ n pt sg, TellR u n pt sg ∧ X n pt sg c r) := by
  intro c r c' r' h h'
  rcases h with ⟨h1, h2⟩ | ⟨n, pt, sg, h1, h2⟩
  · rcases h' with ⟨g1, _⟩ | ⟨n, pt, sg, g1, _⟩
    · exact ⟨h1.trans g1.symm, fun q => by omega⟩
    · exact absurd h2 (tell_no g1)
  · rcases h' with ⟨_, g2⟩ | ⟨n', pt', sg', g1, g2⟩
    · exact absurd g2 (tell_no h1)
    · obtain ⟨rfl, rfl, rfl⟩ := tell_uni h1 g1
      exact hX n pt sg c r c' r' h2 g2
theorem dt_number {N : Nat} {p0 q0 : Int32} : Dt (R_number N p0 q0) := dt_if' (by decide) (dt_kp (by decide) _)
theorem dt_letter {N : Nat} : Dt (R_letter N) := dt_kp (by decide) _
section DET
variable {N : Nat} {th : Nat → Th} {as : St3} {f g k side part : Int32}
theorem dt_add (hN : N ≤ 80) : Dt (R_add N th f g) := dt_two hN (fun _ _ _ _ => dt_fm2 (fun _ _ _ _ => dt_kp (by decide) _))
theorem dt_less (hN : N ≤ 80) : Dt (R_less N th f g) := dt_two hN (fun _ _ _ _ => dt_fm2 (fun _ _ _ _ => dt_kp (by decide) _))
theorem dt_times (hN : N ≤ 80) : Dt (R_times N th f g) := dt_two hN (fun _ _ _ _ => dt_fm2 (fun _ _ _ _ => dt_if (by decide) (dt_kp (by decide) _)))
theorem dt_over (hN : N ≤ 80) : Dt (R_over N th f g) := dt_two hN (fun _ _ _ _ => dt_fm2 (fun _ _ _ _ => dt_if (by decide) (dt_if' (by decide) (dt_kp (by decide) _))))
theorem dt_derive (hN : N ≤ 80) : Dt (R_derive N th f) := dt_one hN (fun _ _ => dt_fm1 (fun _ _ => dt_kp (by decide) _))
theorem dt_integral (hN : N ≤ 80) : Dt (R_integral N th f) := dt_one hN (fun _ _ => dt_fm1 (fun _ _ => dt_if (by decide) (dt_kp (by decide) _)))
theorem dt_put (hN : N ≤ 80) : Dt (R_put N th f g) := dt_two hN (fun _ _ _ _ => dt_fm2 (fun _ _ _ _ => dt_if (by decide) (dt_kp (by decide) _)))
theorem dt_where (hN : N ≤ 80) : Dt (R_where N th f g) := dt_one hN (fun _ _ => dt_fm1 (fun _ _ => dt_if (by decide) (dt_tell (fun _ _ _ => dt_kp (by decide) _))))
theorem dt_join {zb : Bool} (hN : N ≤ 80) : Dt (R_join zb N th f g) := dt_two hN (fun _ _ _ _ => dt_se2 (fun _ _ _ _ c r c' r' ⟨J, h1, h2⟩ ⟨J', g1, g2⟩ => by
  obtain rfl := mge_uni h1 g1
  exact dt_kp (by decide) _ c r c' r' h2 g2))
theorem dt_other (hN : N ≤ 80) : Dt (R_other N th f) := dt_one hN (fun _ _ => dt_se1 (fun _ _ => dt_kp (by decide) _))
theorem dt_kind (hN : N ≤ 80) : Dt (R_kind N th f) := dt_one hN (fun _ _ => dt_eq _)
theorem dt_degree (hN : N ≤ 80) : Dt (R_degree N th f) := dt_one hN (fun _ _ => dt_fm1 (fun _ _ => dt_eq _))
theorem dt_pieces (hN : N ≤ 80) : Dt (R_pieces N th f) := dt_one hN (fun _ _ => dt_se1 (fun _ _ => dt_eq _))
theorem dt_at (hN : N ≤ 80) : Dt (R_at N th f g part) := dt_one hN (fun _ _ => dt_fm1 (fun u _ c r c' r' h h' => by
  rcases h with ⟨h1, h2⟩ | ⟨h1, h2⟩
  · rcases h' with ⟨g1, _⟩ | ⟨_, g2⟩
    · exact ⟨h1.trans g1.symm, fun q => by omega⟩
    · exact absurd (g2.elim (fun q => Or.inl q.1) (fun q => Or.inr q.1)) h2
  · rcases h' with ⟨_, g2⟩ | ⟨g1, g2⟩
    · exact absurd (h2.elim (fun q => Or.inl q.1) (fun q => Or.inr q.1)) g2
    · refine ⟨h1.trans g1.symm, fun _ => ?_⟩
      rcases h2 with ⟨a, b⟩ | ⟨a, b⟩ <;> rcases g2 with ⟨a', b'⟩ | ⟨a', b'⟩
      · exact Int32.toInt_inj.mp (b.trans b'.symm)
      · rw [a] at a'; exact absurd a' (by decide)
      · rw [a] at a'; exact absurd a' (by decide)
      · exact Int32.toInt_inj.mp (b.trans b'.symm)))
theorem dt_holds (hN : N ≤ 80) : Dt (R_holds N th f g) := dt_two hN (fun i j _ _ c r c' r' h h' => by
  rcases h with ⟨h1, h2⟩ | ⟨z, u, e1, e2, e3, h1, t, ht, h2⟩
  · rcases h' with ⟨g1, _⟩ | ⟨z, u, e1, e2, e3, _⟩
    · exact ⟨h1.trans g1.symm, fun q => by omega⟩
    · exact absurd ⟨⟨z, e1⟩, ⟨u, e2, e3⟩⟩ h2
  · rcases h' with ⟨_, g2⟩ | ⟨z', u', e1', e2', _, g1, t', ht', g2⟩
    · exact absurd ⟨⟨z, e1⟩, ⟨u, e2, e3⟩⟩ g2
    · obtain rfl := Sum.inr.inj (e1.symm.trans e1')
      obtain rfl := Sum.inl.inj (e2.symm.trans e2')
      obtain rfl := ips_uni ht ht'
      exact ⟨h1.trans g1.symm, fun _ => h2.trans g2.symm⟩)
theorem bool_uni {a b : Bool} {P : Prop} (h : a = true ↔ P) (h' : b = true ↔ P) : a = b := by
  cases a <;> cases b
  · rfl
  · exact absurd (h.mpr (h'.mp rfl)) (by decide)
  · exact absurd (h'.mpr (h.mp rfl)) (by decide)
  · rfl
theorem dt_same (hN : N ≤ 80) : Dt (R_same N th f g) := dt_two hN (fun _ _ _ _ c r c' r' ⟨h1, x, h2, h3⟩ ⟨g1, x', g2, g3⟩ => by
  obtain rfl := bool_uni h3 g3
  exact ⟨h1.trans g1.symm, fun _ => h2.trans g2.symm⟩)
theorem dt_assume (hN : N ≤ 80) : Dt (R_assume N th as f) := dt_one hN (fun _ _ => dt_se1 (fun z _ c r c' r' h h' => by
  rcases h with ⟨h1, h2⟩ | ⟨h1, h2, h3, b, h4, h5⟩
  · rcases h' with ⟨g1, _⟩ | ⟨_, g2, _⟩
    · exact ⟨h1.trans g1.symm, fun q => by omega⟩
    · rw [h2] at g2; exact absurd g2 (by decide)
  · rcases h' with ⟨_, g2⟩ | ⟨g1, g2, g3, b', g4, g5⟩
    · rw [h2] at g2; exact absurd g2 (by decide)
    · obtain rfl := bool_uni h5 g5
      exact ⟨h1.trans g1.symm, fun _ => Prod.ext (h4.trans g4.symm) (h3.trans g3.symm)⟩))
theorem meet_uni {y z : St3} {a b : Bool} (h : meet y z a) (h' : meet y z b) : a = b := by
  obtain ⟨J, h1, h2⟩ := h
  obtain ⟨J', g1, g2⟩ := h'
  obtain rfl := mge_uni h1 g1
  exact h2.trans g2.symm
theorem dt_sign (hN : N ≤ 80) : Dt (R_sign N th as f) := dt_one hN (fun _ _ => dt_fm1 (fun _ _ => dt_tell (fun n pt sg c r c' r' ⟨h1, z, b, a, m1, m2, m3, h2⟩ ⟨g1, z', b', a', k1, k2, k3, g2⟩ => by
  obtain rfl := meet_uni m1 k1
  obtain rfl := meet_uni m2 k2
  obtain rfl := meet_uni m3 k3
  exact ⟨h1.trans g1.symm, fun _ => h2.trans g2.symm⟩)))
theorem pcn_inj {mk : Nat → Bool} {a b : Nat} (ha : sp mk a = true) (hb : sp mk b = true) (e : pcn mk a = pcn mk b) : a = b := by
  rcases Nat.lt_trichotomy a b with q | q | q
  · have := pcn_mono (mk := mk) (show a + 1 ≤ b by omega)
    rw [pcn_y ha] at this
    omega
  · exact q
  · have := pcn_mono (mk := mk) (show b + 1 ≤ a by omega)
    rw [pcn_y hb] at this
    omega
theorem enc_uni {z : St3} {c0 d d' : Nat} (h : EnC z c0 side d) (h' : EnC z c0 side d') : d = d' := by
  rcases h with ⟨h1, h2⟩ | ⟨h1, h2, h3, h4, h5⟩ <;> rcases h' with ⟨g1, g2⟩ | ⟨g1, g2, g3, g4, g5⟩
  · omega
  · rw [h1] at g1; exact absurd g1 (by decide)
  · rw [h1] at g1; exact absurd g1 (by decide)
  · rcases Nat.lt_trichotomy d d' with q | q | q
    · have a := h5 (by omega)
      rw [g4 (d + 1) (by omega) (by omega)] at a
      exact absurd a (by decide)
    · exact q
    · have a := g5 (by omega)
      rw [h4 (d' + 1) (by omega) (by omega)] at a
      exact absurd a (by decide)
theorem dt_end (hN : N ≤ 80) (hz : ∀ i, i < N → ∀ z, th i = .inr z → z.1 ≤ 160) : Dt (R_end N th f k side part) := dt_one hN (fun i hi => dt_se1 (fun z e c r c' r' h h' => by
  have hz := hz i hi z e
  rcases h with ⟨h1, h2⟩ | ⟨c0, a1, a2, a3, h⟩
  · rcases h' with ⟨g1, _⟩ | ⟨c0, b1, b2, b3, _⟩
    · exact ⟨h1.trans g1.symm, fun q => by omega⟩
    · exact absurd b3 (h2 c0 b1 b2)
  · rcases h' with ⟨_, g2⟩ | ⟨c1, b1, b2, b3, g⟩
    · exact absurd a3 (g2 c0 a1 a2)
    · have l1 := pcn_le z.2.2 c0
      have l2 := pcn_le z.2.2 c1
      obtain rfl := pcn_inj a2 b2 ((nI_eq (by omega) (by omega)).mp (a3.symm.trans b3))
      rcases h with ⟨h1, h2⟩ | ⟨h1, h2, d, hd, h3⟩
      · rcases g with ⟨g1, _⟩ | ⟨g1, _⟩
        · exact ⟨h1.trans g1.symm, fun q => by omega⟩
        · exact absurd g1 h2
      · rcases g with ⟨_, g2⟩ | ⟨_, g2, d', hd', g3⟩
        · exact absurd h1 g2
        · obtain rfl := enc_uni hd hd'
          refine ⟨h2.trans g2.symm, fun _ => ?_⟩
          rcases h3 with ⟨p1, q1⟩ | ⟨p1, q1⟩ | ⟨p1, q1⟩ <;> rcases g3 with ⟨p2, q2⟩ | ⟨p2, q2⟩ | ⟨p2, q2⟩
          · exact q1.trans q2.symm
          · rw [p1] at p2; exact absurd p2 (by decide)
          · rw [p1] at p2; exact absurd p2 (by decide)
          · rw [p1] at p2; exact absurd p2 (by decide)
          · exact Int32.toInt_inj.mp (q1.trans q2.symm)
          · rw [p1] at p2; exact absurd p2 (by decide)
          · rw [p1] at p2; exact absurd p2 (by decide)
          · rw [p1] at p2; exact absurd p2 (by decide)
          · exact Int32.toInt_inj.mp (q1.trans q2.symm)))
end DET
/-! what a call makes keeps the house in order -/
theorem tg_sm {r : Rat} (h : tgR r = false) : Sm r := by
  unfold tgR at h
  have h := of_decide_eq_false h
  exact ⟨by omega, by omega⟩
theorem cs_cg {th th' : Nat → Th} : ∀ n, (∀ k, k < n → th k = th' k) → cs th n = cs th' n := by
  intro n
  induction n with
  | zero => exact fun _ => rfl
  | succ n ih =>
    intro h
    have i := ih (fun k hk => h k (by omega))
    cases e : th n with
    | inl u => rw [cs_l e, cs_l (by rw [← h n (by omega)]; exact e), i]
    | inr z => rw [cs_r e, cs_r (by rw [← h n (by omega)]; exact e), i]
theorem cs_up (th : Nat → Th) (N : Nat) (t : Th) : cs (upT th N t) N = cs th N := cs_cg N (fun k hk => upT_ne th t (by omega))
theorem SeOk.up {U V : List Rat} {z : St3} (h : SeOk U z) (hs : ∀ x, x ∈ U → x ∈ V) : SeOk V z := ⟨h.1, fun k hk => hs _ (h.2.1 k hk), h.2.2.1, h.2.2.2⟩
theorem iv_formula {N bad : Nat} {th : Nat → Th} {as : St3} {u : Nat → Rat} {t : Th} (hb : bad ≠ 0) (h : Iv N th as) (hk : Kp N bad (.inl u) 0 t) : Iv (N + 1) (upT th N t) as := by
  obtain ⟨hN, hf, ⟨U, hU, hz, ha⟩, hne⟩ := h
  rcases hk with ⟨h1, _⟩ | ⟨_, h2, h3, rfl⟩
  · exact absurd h1.symm hb
  · have tg : tgF u = false := h3
    unfold tgF at tg
    rw [Bool.or_eq_false_iff, Bool.or_eq_false_iff, Bool.or_eq_false_iff] at tg
    refine ⟨by omega, fun i hi v e => ?_, ⟨U, ?_, fun i hi z e => ?_, ha⟩, hne⟩
    · by_cases g : i = N
      · subst g
        rw [upT_at] at e
        obtain rfl := Sum.inl.inj e
        intro k hk
        rcases (show k = 0 ∨ k = 1 ∨ k = 2 ∨ k = 3 by omega) with rfl | rfl | rfl | rfl
        · exact tg_sm tg.1.1.1
        · exact tg_sm tg.1.1.2
        · exact tg_sm tg.1.2
        · exact tg_sm tg.2
      · rw [upT_ne th _ g] at e
        exact hf i (by omega) v e
    · rw [cs_l (upT_at th N _), cs_up]; exact hU
    · by_cases g : i = N
      · subst g
        rw [upT_at] at e
        exact absurd e (by intro q; cases q)
      · rw [upT_ne th _ g] at e
        exact hz i (by omega) z e
theorem iv_set {N bad : Nat} {th : Nat → Th} {as : St3} {y : St3} {t : Th} (hb : bad ≠ 0) (h : Iv N th as) (hs : Srt y.1 y.2.1) (hc : ∀ k, k < y.1 → chg y.2.2 k = true) (hm : ∀ U : List Rat, (∀ i, i < N → ∀ z, th i = .inr z → SeOk U z) → ∃ V : List Rat, V.length ≤ U.length + 2 ∧ (∀ x, x ∈ U → x ∈ V) ∧ ∀ k, k < y.1 → y.2.1 k ∈ V) (hk : Kp N bad (.inr y) 0 t) : Iv (N + 1) (upT th N t) as := by
  obtain ⟨hN, hf, ⟨U, hU, hz, ha⟩, hne⟩ := h
  rcases hk with ⟨h1, _⟩ | ⟨_, h2, h3, rfl⟩
  · exact absurd h1.symm hb
  · obtain ⟨V, hV, hUV, hy⟩ := hm U hz
    have tg : tgS y.1 y.2.1 = false := h3
    refine ⟨by omega, fun i hi v e => ?_, ⟨V, ?_, fun i hi z e => ?_, ha.up hUV⟩, hne⟩
    · by_cases g : i = N
      · subst g
        rw [upT_at] at e
        exact absurd e (by intro q; cases q)
      · rw [upT_ne th _ g] at e
        exact hf i (by omega) v e
    · rw [cs_r (upT_at th N _), cs_up]; omega
    · by_cases g : i = N
      · subst g
        rw [upT_at] at e
        obtain rfl := Sum.inr.inj e
        refine ⟨hs, hy, fun k hk => tg_sm ?_, hc⟩
        cases q : tgR (y.2.1 k)
        · rfl
        · rw [tgS_ex.mpr ⟨k, hk, q⟩] at tg; exact absurd tg (by decide)
      · rw [upT_ne th _ g] at e
        exact (hz i (by omega) z e).up hUV
theorem one_0 {α : Type} {N : Nat} {th : Nat → Th} {f : Int32} {X : Th → Nat → α → Prop} {r : α} (h : One N th f X 0 r) : ∃ i, i < N ∧ X (th i) 0 r := by
  rcases h with ⟨h, _⟩ | ⟨i, hi, _, h⟩
  · exact absurd h (by decide)
  · exact ⟨i, hi, h⟩
theorem two_0 {α : Type} {N : Nat} {th : Nat → Th} {f g : Int32} {X : Th → Th → Nat → α → Prop} {r : α} (h : Two N th f g X 0 r) : ∃ i j, i < N ∧ j < N ∧ X (th i) (th j) 0 r := by
  rcases h with ⟨h, _⟩ | ⟨i, j, hi, hj, _, _, h⟩
  · exact absurd h (by decide)
  · exact ⟨i, j, hi, hj, h⟩
theorem fm1_0 {α : Type} {Y : (Nat → Rat) → Nat → α → Prop} {a : Th} {r : α} (h : Fm1 Y a 0 r) : ∃ u, a = .inl u ∧ Y u 0 r := h.elim (fun q => absurd q.1 (by decide)) id
theorem fm2_0 {α : Type} {Y : (Nat → Rat) → (Nat → Rat) → Nat → α → Prop} {a b : Th} {r : α} (h : Fm2 Y a b 0 r) : ∃ u v, a = .inl u ∧ b = .inl v ∧ Y u v 0 r := h.elim (fun q => absurd q.1 (by decide)) id
theorem se1_0 {α : Type} {Y : St3 → Nat → α → Prop} {a : Th} {r : α} (h : Se1 Y a 0 r) : ∃ u, a = .inr u ∧ Y u 0 r := h.elim (fun q => absurd q.1 (by decide)) id
theorem se2_0 {α : Type} {Y : St3 → St3 → Nat → α → Prop} {a b : Th} {r : α} (h : Se2 Y a b 0 r) : ∃ u v, a = .inr u ∧ b = .inr v ∧ Y u v 0 r := h.elim (fun q => absurd q.1 (by decide)) id
section IVS
variable {N : Nat} {th : Nat → Th} {as : St3} {f g p0 q0 : Int32} {t : Th}
theorem iv_number (h : Iv N th as) (hr : R_number N p0 q0 0 t) : Iv (N + 1) (upT th N t) as := by
  rcases hr with ⟨q, _⟩ | ⟨_, q⟩
  · exact absurd q (by decide)
  · exact iv_formula (by decide) h q
theorem iv_letter (h : Iv N th as) (hr : R_letter N 0 t) : Iv (N + 1) (upT th N t) as := iv_formula (by decide) h hr
theorem iv_add (h : Iv N th as) (hr : R_add N th f g 0 t) : Iv (N + 1) (upT th N t) as := by
  obtain ⟨i, j, _, _, q⟩ := two_0 hr
  obtain ⟨u, v, _, _, q⟩ := fm2_0 q
  exact iv_formula (by decide) h q
theorem iv_less (h : Iv N th as) (hr : R_less N th f g 0 t) : Iv (N + 1) (upT th N t) as := by
  obtain ⟨i, j, _, _, q⟩ := two_0 hr
  obtain ⟨u, v, _, _, q⟩ := fm2_0 q
  exact iv_formula (by decide) h q
theorem iv_times (h : Iv N th as) (hr : R_times N th f g 0 t) : Iv (N + 1) (upT th N t) as := by
  obtain ⟨i, j, _, _, q⟩ := two_0 hr
  obtain ⟨u, v, _, _, q⟩ := fm2_0 q
  rcases q with ⟨q, _⟩ | ⟨_, q⟩
  · exact absurd q (by decide)
  · exact iv_formula (by decide) h q
theorem iv_over (h : Iv N th as) (hr : R_over N th f g 0 t) : Iv (N + 1) (upT th N t) as := by
  obtain ⟨i, j, _, _, q⟩ := two_0 hr
  obtain ⟨u, v, _, _, q⟩ := fm2_0 q
  rcases q with ⟨q, _⟩ | ⟨_, ⟨q, _⟩ | ⟨_, q⟩⟩
  · exact absurd q (by decide)
  · exact absurd q (by decide)
  · exact iv_formula (by decide) h q
theorem iv_derive (h : Iv N th as) (hr : R_derive N th f 0 t) : Iv (N + 1) (upT th N t) as := by
  obtain ⟨i, _, q⟩ := one_0 hr
  obtain ⟨u, _, q⟩ := fm1_0 q
  exact iv_formula (by decide) h q
theorem iv_integral (h : Iv N th as) (hr : R_integral N th f 0 t) : Iv (N + 1) (upT th N t) as := by
  obtain ⟨i, _, q⟩ := one_0 hr
  obtain ⟨u, _, q⟩ := fm1_0 q
  rcases q with ⟨q, _⟩ | ⟨_, q⟩
  · exact absurd q (by decide)
  · exact iv_formula (by decide) h q
theorem iv_put (h : Iv N th as) (hr : R_put N th f g 0 t) : Iv (N + 1) (upT th N t) as := by
  obtain ⟨i, j, _, _, q⟩ := two_0 hr
  obtain ⟨u, v, _, _, q⟩ := fm2_0 q
  rcases q with ⟨q, _⟩ | ⟨_, q⟩
  · exact absurd q (by decide)
  · exact iv_formula (by decide) h q
theorem iv_where (h : Iv N th as) (hr : R_where N th f g 0 t) : Iv (N + 1) (upT th N t) as := by
  obtain ⟨i, _, q⟩ := one_0 hr
  obtain ⟨u, _, q⟩ := fm1_0 q
  rcases q with ⟨q, _⟩ | ⟨_, ⟨q, _⟩ | ⟨n, pt, sg, ht, q⟩⟩
  · exact absurd q (by decide)
  · exact absurd q (by decide)
  · obtain ⟨ts, tn⟩ := tell_srt ht
    refine iv_set (by decide) h (czp_srt ts) (cz_chg n) (fun U _ => ⟨pt 0 :: pt 1 :: U, by rw [List.length_cons, List.length_cons]; omega, fun x hx => List.mem_cons_of_mem _ (List.mem_cons_of_mem _ hx), fun k hk => ?_⟩) q
    obtain ⟨a, ha, e⟩ := czp_of pt (fun j => chB g (sg j)) n k hk
    show czp pt (fun j => chB g (sg j)) n k ∈ _
    rw [e]
    rcases (show a = 0 ∨ a = 1 by omega) with rfl | rfl
    · exact List.mem_cons_self
    · exact List.mem_cons_of_mem _ List.mem_cons_self
theorem iv_join {zb : Bool} (h : Iv N th as) (hr : R_join zb N th f g 0 t) : Iv (N + 1) (upT th N t) as := by
  obtain ⟨i, j, hi, hj, q⟩ := two_0 hr
  obtain ⟨y, z, ey, ez, J, hJ, q⟩ := se2_0 q
  have so : ∀ a, a < N → ∀ x, th a = .inr x → Srt x.1 x.2.1 := fun a ha x e => by
    obtain ⟨_, _, ⟨U, _, hz, _⟩, _⟩ := h
    exact (hz a ha x e).1
  exact iv_set (by decide) h (czp_srt (mgp_srt (so i hi y ey) (so j hj z ez) hJ)) (cz_chg J) (fun U hU => ⟨U, by omega, fun x hx => hx, (jn_len (zb := zb) (so i hi y ey) (so j hj z ez) hJ (hU i hi y ey).2.1 (hU j hj z ez).2.1).2.1⟩) q
theorem iv_other (h : Iv N th as) (hr : R_other N th f 0 t) : Iv (N + 1) (upT th N t) as := by
  obtain ⟨i, hi, q⟩ := one_0 hr
  obtain ⟨z, ez, q⟩ := se1_0 q
  have ok := h
  obtain ⟨_, _, ⟨U0, _, hz, _⟩, _⟩ := ok
  have o := hz i hi z ez
  refine iv_set (bad := 3) (y := (z.1, z.2.1, fun j => !z.2.2 j)) (by decide) h o.1 (fun k hk => ?_) (fun U hU => ⟨U, by omega, fun x hx => hx, (hU i hi z ez).2.1⟩) q
  have g := o.2.2.2 k hk
  unfold chg at g ⊢
  revert g
  show _ → ((!z.2.2 (2 * k + 1)) != (!z.2.2 (2 * k)) || (!z.2.2 (2 * k + 1)) != (!z.2.2 (2 * k + 2))) = true
  cases z.2.2 (2 * k + 1) <;> cases z.2.2 (2 * k) <;> cases z.2.2 (2 * k + 2) <;> decide
theorem iv_assume {r : Int32 × St3} (h : Iv N th as) (hr : R_assume N th as f 0 r) : Iv N th r.2 := by
  obtain ⟨i, hi, q⟩ := one_0 hr
  obtain ⟨z, ez, q⟩ := se1_0 q
  rcases q with ⟨q, _⟩ | ⟨_, e0, e2, _⟩
  · exact absurd q (by decide)
  · obtain ⟨hN, hf, ⟨U, hU, hz, ha⟩, hne⟩ := h
    have o := hz i hi z ez
    rw [e2]
    refine ⟨hN, hf, ⟨U, hU, hz, o⟩, ?_⟩
    rcases Nat.eq_zero_or_pos z.1 with g | g
    · refine ⟨0, by omega, ?_⟩
      cases e : z.2.2 0
      · unfold emZ at e0
        rw [g, e] at e0
        exact absurd e0 (by decide)
      · rfl
    · have c := o.2.2.2 0 g
      unfold chg at c
      cases a0 : z.2.2 (2 * 0)
      · cases a1 : z.2.2 (2 * 0 + 1)
        · cases a2 : z.2.2 (2 * 0 + 2)
          · rw [a0, a1, a2] at c; exact absurd c (by decide)
          · exact ⟨2, by omega, a2⟩
        · exact ⟨1, by omega, a1⟩
      · exact ⟨0, by omega, a0⟩
theorem iv0 (th : Nat → Th) : Iv 0 th as0 := ⟨by decide, fun i hi => absurd hi (Nat.not_lt_zero _), ⟨[], Nat.zero_le _, fun i hi => absurd hi (Nat.not_lt_zero _), fun i j _ h => absurd h (Nat.not_lt_zero _), fun k hk => absurd hk (Nat.not_lt_zero _), fun k hk => absurd hk (Nat.not_lt_zero _), fun k hk => absurd hk (Nat.not_lt_zero _)⟩, 0, by decide, rfl⟩
end IVS
