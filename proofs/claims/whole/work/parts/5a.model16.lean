theorem mgZ_0 (y z : St3) (J : Nat) : mgZ 0 y z J = jn true y z J := by
  have e : mgF (jnB 0) y z = mgb true y.1 y.2.1 y.2.2 z.1 z.2.1 z.2.2 := rfl
  unfold mgZ jn
  rw [e]
theorem mgZ_1 (y z : St3) (J : Nat) : mgZ 1 y z J = jn false y z J := by
  have e : mgF (jnB 1) y z = mgb false y.1 y.2.1 y.2.2 z.1 z.2.1 z.2.2 := rfl
  unfold mgZ jn
  rw [e]
theorem cmpR_self (a : Rat) : cmpR a a = 0 := by unfold cmpR; rw [if_neg Rat.lt_irrefl, if_pos rfl]
theorem mg_self (n : Nat) (p : Nat → Rat) : ∀ j, j ≤ n → mgs n p n p j = (j, j) := by
  intro j
  induction j with
  | zero => exact fun _ => rfl
  | succ j ih =>
    intro hj
    rw [mgs_s (ih (by omega)), nxt_c (by omega) (by omega), cmpR_self]
    rfl
theorem mg_selfJ {n : Nat} {p : Nat → Rat} {J : Nat} (h : MgE n p n p J) : J = n := by
  obtain ⟨h1, h2, h3⟩ := h
  rcases Nat.lt_trichotomy J n with q | q | q
  · rw [mg_self n p J (by omega)] at h2
    have := (Prod.mk.inj h2).1
    omega
  · exact q
  · have := h3 n q
    rw [mg_self n p n (Nat.le_refl _)] at this
    exact absurd this (Nat.lt_irrefl _)
theorem cz_all {b : Nat → Bool} {p : Nat → Rat} : ∀ n, (∀ j, j < n → chg b j = true) → czn b n = n ∧ (∀ j, j < n → czp p b n j = p j) ∧ ∀ t, t < 2 * n + 1 → czm b n t = b t := by
  intro n
  induction n with
  | zero => exact fun _ => ⟨rfl, fun j hj => absurd hj (Nat.not_lt_zero _), fun t ht => by rw [show t = 0 by omega]; rfl⟩
  | succ n ih =>
    intro h
    obtain ⟨h1, h2, h3⟩ := ih (fun j hj => h j (by omega))
    have hc := h n (by omega)
    rw [czn_y hc, czp_y hc, czm_y hc, h1]
    refine ⟨rfl, fun j hj => ?_, fun t ht => ?_⟩
    · show (if j = n then p n else czp p b n j) = p j
      by_cases e : j = n
      · rw [if_pos e, e]
      · rw [if_neg e]; exact h2 j (by omega)
    · show (if t = 2 * n + 1 then b (2 * n + 1) else if t = 2 * n + 2 then b (2 * n + 2) else czm b n t) = b t
      by_cases e : t = 2 * n + 1
      · rw [if_pos e, e]
      · by_cases e2 : t = 2 * n + 2
        · rw [if_neg e, if_pos e2, e2]
        · rw [if_neg e, if_neg e2]; exact h3 t (by omega)
theorem mgz2 {y : St3} (hc : ∀ i, i < y.1 → chg y.2.2 i = true) {J : Nat} (hJ : MgE y.1 y.2.1 y.1 y.2.1 J) : SameZ (y.1, y.2.1, fun j => !y.2.2 j) (mgZ 2 y y J) := by
  have e := mg_selfJ hJ
  subst e
  have z : ∀ j, j < y.1 → nxt y.1 y.2.1 y.1 y.2.1 j j = 0 := fun j hj => by rw [nxt_c hj hj, cmpR_self]
  have be : ∀ j, j ≤ y.1 → mgF (jnB 2) y y (2 * j) = !y.2.2 (2 * j) := fun j hj => mgF_e (mg_self _ _ j hj)
  have bo : ∀ j, j < y.1 → mgF (jnB 2) y y (2 * j + 1) = !y.2.2 (2 * j + 1) := fun j hj => mgF_o (mg_self _ _ j (by omega)) (z j hj)
  have bc : ∀ j, j < y.1 → chg (mgF (jnB 2) y y) j = true := fun j hj => by
    have h := hc j hj
    unfold chg at h ⊢
    have b2 : mgF (jnB 2) y y (2 * j + 2) = !y.2.2 (2 * j + 2) := be (j + 1) (by omega)
    rw [be j (by omega), bo j hj, b2]
    revert h
    cases y.2.2 (2 * j + 1) <;> cases y.2.2 (2 * j) <;> cases y.2.2 (2 * j + 2) <;> decide
  obtain ⟨h1, h2, h3⟩ := cz_all (p := mgp y.1 y.2.1 y.1 y.2.1) y.1 bc
  refine ⟨h1.symm, fun k hk => ?_, fun t ht => ?_⟩
  · exact ((h2 k hk).trans (mgp_j (mg_self _ _ k (by omega)) (z k hk))).symm
  · refine ((h3 t ht).trans ?_).symm
    have ht : t < 2 * y.1 + 1 := ht
    rcases Nat.mod_two_eq_zero_or_one t with q | q
    · rw [show t = 2 * (t / 2) by omega]; exact be _ (by omega)
    · rw [show t = 2 * (t / 2) + 1 by omega]; exact bo _ (by omega)
theorem tgS_cg {n : Nat} {p q : Nat → Rat} (h : ∀ k, k < n → p k = q k) : tgS n p = tgS n q := by
  have e : ∀ {a b : Bool}, (a = true ↔ b = true) → a = b := fun {a b} g => by cases a <;> cases b <;> simp at g ⊢
  apply e
  rw [tgS_ex, tgS_ex]
  exact ⟨fun ⟨j, h1, h2⟩ => ⟨j, h1, by rw [← h j h1]; exact h2⟩, fun ⟨j, h1, h2⟩ => ⟨j, h1, by rw [h j h1]; exact h2⟩⟩
theorem Pst.same {N : Nat} {th : Nat → Th} {as : St3} {S : Sc} {ct : Ct} {y z : St3} (h : Pst (N + 1) (upT th N (.inr y)) as S ct) (e : SameZ z y) : Pst (N + 1) (upT th N (.inr z)) as S ct := by
  refine ⟨h.1, h.2.1, fun k hk => ?_, h.2.2.2⟩
  have g := h.2.2.1 k hk
  by_cases ek : k = N
  · subst ek
    rw [upT_at] at g ⊢
    exact ⟨g.1, g.2.same e⟩
  · rw [upT_ne _ _ ek] at g ⊢
    exact g
theorem kp_same {N bd c : Nat} (hb : bd ≠ 0) {y z : St3} {t : Th} (e : SameZ z y) (h : Kp N bd (.inr y) c t) : Kp N bd (.inr z) c (.inr z) ∧ (c = 0 → t = .inr y) := by
  have et : tgT (.inr z) = tgT (.inr y) := by
    show tgS z.1 z.2.1 = tgS y.1 y.2.1
    rw [e.1]
    exact tgS_cg (fun k hk => e.2.1 k (by rw [e.1]; exact hk))
  rcases h with ⟨h1, h2⟩ | ⟨h1, h2, h3, h4⟩
  · exact ⟨Or.inl ⟨h1, by rw [et]; exact h2⟩, fun q => absurd (h1.symm.trans q) hb⟩
  · exact ⟨Or.inr ⟨h1, h2, by rw [et]; exact h3, rfl⟩, fun _ => h4⟩

def po_X6_both (mo : Nat) (S : Sc) (ct : Ct) (N : Nat) (th : Nat → Th) (as : St3) (f0 g0 : Int32) : Option Value → Sc → Ct → Prop := fun v S2 ct2 => MkK N th as (R_join true N th f0 g0) v S2 ct2
theorem bkX6_both_0_4 : pb_chk cX6_both 0 [.aload_n 0, .iload_n 1, .iload_n 2, .iconst 0] = some 4 := by decide +kernel
theorem dX6_both_4 : decode cX6_both 4 = .ok (.invokevirtual 195, 3) := by decide +kernel
theorem dX6_both_7 : decode cX6_both 7 = .ok (.ireturn, 1) := by decide +kernel
set_option maxHeartbeats 4000000 in
set_option maxRecDepth 100000 in
theorem c_X6_both (l : Launch) (G : Gm) (mo : Nat) (S : Sc) (ct : Ct) (N : Nat) (th : Nat → Th) (as : St3) (f0 g0 : Int32) (hP : Pst N th as S ct) (hB : Bds N th as) : Mm l yX6_both cX6_both 3 (some .int) (⟨4, 0, 0, 107⟩ : Room) G mo S ct [.ref mo, .int f0, .int g0] (po_X6_both mo S ct N th as f0 g0) := by
  refine of_met (by decide) (Nat.le_of_ble_eq_true rfl) ?_
  intro p e s m below meth c ls B hA hM0 hl
  have hw := Mw.start hM0
  refine pb_blk B.hx B.hb (lv' := [(0, .ref mo), (1, .int f0), (2, .int g0)]) (st' := [.int 0, .int g0, .int f0, .ref mo]) hl bkX6_both_0_4 rfl (fun ls hl => ?_)
  rw [show (0 : Int32) = nI 0 from rfl]
  refine m_callV B hw (c_X6_join l G mo _ _ N th as f0 g0 0 hP hB (by decide) (fun i j hi hj _ _ y z hy hz J hJ => by rw [mgZ_0]; exact hB.2.2.2.1 i j hi hj y z hy hz true J hJ)) cy_X6_join im_X6_join se_X6_join wd_M_X6_195 rfl hl.1 rfl (Nat.le_of_ble_eq_true rfl) ⟨by decide, by decide⟩ ⟨rfl, rfl⟩ ⟨Nat.le_refl _, Nat.le_refl _⟩ dX6_both_4 (fun v H locs Sd ctd hw_89 hv => ?_)
  obtain ⟨cc, tt, g1, g2, g3⟩ := hv
  have hw := hw_89
  simp only [mgZ_0] at g1
  have hval : ∃ r, v = some (.int r) := by rcases g3 with ⟨-, e9, -⟩ | ⟨-, ⟨r9, e9⟩, -⟩; exact ⟨_, e9⟩; exact ⟨_, e9⟩
  obtain ⟨r9, rfl⟩ := hval
  exact m_iret (v := r9) B hw dX6_both_7 (by exact ⟨cc, tt, g1, g2, g3⟩) (Nat.le_of_ble_eq_true rfl) (Nat.le_of_ble_eq_true rfl)

def po_X6_either (mo : Nat) (S : Sc) (ct : Ct) (N : Nat) (th : Nat → Th) (as : St3) (f0 g0 : Int32) : Option Value → Sc → Ct → Prop := fun v S2 ct2 => MkK N th as (R_join false N th f0 g0) v S2 ct2
theorem bkX6_either_0_4 : pb_chk cX6_either 0 [.aload_n 0, .iload_n 1, .iload_n 2, .iconst 1] = some 4 := by decide +kernel
theorem dX6_either_4 : decode cX6_either 4 = .ok (.invokevirtual 195, 3) := by decide +kernel
theorem dX6_either_7 : decode cX6_either 7 = .ok (.ireturn, 1) := by decide +kernel
set_option maxHeartbeats 4000000 in
set_option maxRecDepth 100000 in
theorem c_X6_either (l : Launch) (G : Gm) (mo : Nat) (S : Sc) (ct : Ct) (N : Nat) (th : Nat → Th) (as : St3) (f0 g0 : Int32) (hP : Pst N th as S ct) (hB : Bds N th as) : Mm l yX6_either cX6_either 3 (some .int) (⟨4, 0, 0, 107⟩ : Room) G mo S ct [.ref mo, .int f0, .int g0] (po_X6_either mo S ct N th as f0 g0) := by
  refine of_met (by decide) (Nat.le_of_ble_eq_true rfl) ?_
  intro p e s m below meth c ls B hA hM0 hl
  have hw := Mw.start hM0
  refine pb_blk B.hx B.hb (lv' := [(0, .ref mo), (1, .int f0), (2, .int g0)]) (st' := [.int 1, .int g0, .int f0, .ref mo]) hl bkX6_either_0_4 rfl (fun ls hl => ?_)
  rw [show (1 : Int32) = nI 1 from rfl]
  refine m_callV B hw (c_X6_join l G mo _ _ N th as f0 g0 1 hP hB (by decide) (fun i j hi hj _ _ y z hy hz J hJ => by rw [mgZ_1]; exact hB.2.2.2.1 i j hi hj y z hy hz false J hJ)) cy_X6_join im_X6_join se_X6_join wd_M_X6_195 rfl hl.1 rfl (Nat.le_of_ble_eq_true rfl) ⟨by decide, by decide⟩ ⟨rfl, rfl⟩ ⟨Nat.le_refl _, Nat.le_refl _⟩ dX6_either_4 (fun v H locs Sd ctd hw_90 hv => ?_)
  obtain ⟨cc, tt, g1, g2, g3⟩ := hv
  have hw := hw_90
  simp only [mgZ_1] at g1
  have hval : ∃ r, v = some (.int r) := by rcases g3 with ⟨-, e9, -⟩ | ⟨-, ⟨r9, e9⟩, -⟩; exact ⟨_, e9⟩; exact ⟨_, e9⟩
  obtain ⟨r9, rfl⟩ := hval
  exact m_iret (v := r9) B hw dX6_either_7 (by exact ⟨cc, tt, g1, g2, g3⟩) (Nat.le_of_ble_eq_true rfl) (Nat.le_of_ble_eq_true rfl)

theorem ot_rm {N : Nat} {th : Nat → Th} {as : St3} {f : Int32} (hN : N ≤ 80) (hB : Bds N th as) {i j : Nat} (hi : i < N) (hj : j < N) (ei : f = nI i) (ej : f = nI j) {y z : St3} (hy : th i = .inr y) (hz : th j = .inr z) {J : Nat} (hJ : MgE y.1 y.2.1 z.1 z.2.1 J) : (mgZ 2 y z J).1 ≤ 160 := by
  have e : i = j := (nI_eq (by omega) (by omega)).mp (ei.symm.trans ej)
  subst e
  have e2 : y = z := Sum.inr.inj (hy.symm.trans hz)
  subst e2
  have h1 := (hB.2.1 i hi y hy).1
  have h2 := czn_le (mgF (jnB 2) y y) J
  rw [mg_selfJ hJ] at h2 ⊢
  exact Nat.le_trans h2 h1
theorem ot_mk {N : Nat} {th : Nat → Th} {as : St3} {f : Int32} (hN : N ≤ 80) (hcg : ∀ i, i < N → ∀ z, th i = .inr z → ∀ k, k < z.1 → chg z.2.2 k = true) {v : Option Value} {S2 : Sc} {ct2 : Ct} (h : MkK N th as (Two N th f f (Se2 fun y z c t => ∃ J, MgE y.1 y.2.1 z.1 z.2.1 J ∧ Kp N 3 (.inr (mgZ 2 y z J)) c t)) v S2 ct2) : MkK N th as (R_other N th f) v S2 ct2 := by
  obtain ⟨c, t, h1, h2, h3⟩ := h
  rcases h1 with ⟨rfl, hb⟩ | ⟨i, j, hi, hj, rfl, ej, h1⟩
  · exact ⟨1, t, Or.inl ⟨rfl, fun q => hb ⟨q, q⟩⟩, h2, h3⟩
  · have e : i = j := (nI_eq (by omega) (by omega)).mp ej
    subst e
    rcases h1 with ⟨rfl, hb⟩ | ⟨y, z, hy, hz, J, hJ, hk⟩
    · exact ⟨2, t, Or.inr ⟨i, hi, rfl, Or.inl ⟨rfl, fun q => hb ⟨q, q⟩⟩⟩, h2, h3⟩
    · have e2 : y = z := Sum.inr.inj (hy.symm.trans hz)
      subst e2
      have hs := mgz2 (hcg i hi y hy) hJ
      obtain ⟨k1, k2⟩ := kp_same (by decide) hs hk
      refine ⟨c, _, Or.inr ⟨i, hi, rfl, Or.inr ⟨y, hy, k1⟩⟩, h2, ?_⟩
      rcases h3 with ⟨c0, g1, g2⟩ | h3
      · refine Or.inl ⟨c0, g1, ?_⟩
        rw [k2 c0] at g2
        exact g2.same hs
      · exact Or.inr h3

def po_X6_other (mo : Nat) (S : Sc) (ct : Ct) (N : Nat) (th : Nat → Th) (as : St3) (f0 : Int32) : Option Value → Sc → Ct → Prop := fun v S2 ct2 => MkK N th as (R_other N th f0) v S2 ct2
theorem bkX6_other_0_4 : pb_chk cX6_other 0 [.aload_n 0, .iload_n 1, .iload_n 1, .iconst 2] = some 4 := by decide +kernel
theorem dX6_other_4 : decode cX6_other 4 = .ok (.invokevirtual 195, 3) := by decide +kernel
theorem dX6_other_7 : decode cX6_other 7 = .ok (.ireturn, 1) := by decide +kernel
set_option maxHeartbeats 4000000 in
set_option maxRecDepth 100000 in
theorem c_X6_other (l : Launch) (G : Gm) (mo : Nat) (S : Sc) (ct : Ct) (N : Nat) (th : Nat → Th) (as : St3) (f0 : Int32) (hP : Pst N th as S ct) (hB : Bds N th as) (hcg : ∀ i, i < N → ∀ z, th i = .inr z → ∀ k, k < z.1 → chg z.2.2 k = true) : Mm l yX6_other cX6_other 2 (some .int) (⟨4, 0, 0, 107⟩ : Room) G mo S ct [.ref mo, .int f0] (po_X6_other mo S ct N th as f0) := by
  refine of_met (by decide) (Nat.le_of_ble_eq_true rfl) ?_
  intro p e s m below meth c ls B hA hM0 hl
  have hw := Mw.start hM0
  have hN := hP.1
  refine pb_blk B.hx B.hb (lv' := [(0, .ref mo), (1, .int f0)]) (st' := [.int 2, .int f0, .int f0, .ref mo]) hl bkX6_other_0_4 rfl (fun ls hl => ?_)
  rw [show (2 : Int32) = nI 2 from rfl]
  refine m_callV B hw (c_X6_join l G mo _ _ N th as f0 f0 2 hP hB (by decide) (fun i j hi hj ei ej y z hy hz J hJ => ot_rm hN hB hi hj ei ej hy hz hJ)) cy_X6_join im_X6_join se_X6_join wd_M_X6_195 rfl hl.1 rfl (Nat.le_of_ble_eq_true rfl) ⟨by decide, by decide⟩ ⟨rfl, rfl⟩ ⟨Nat.le_refl _, Nat.le_refl _⟩ dX6_other_4 (fun v H locs Sd ctd hw_91 hv => ?_)
  have hk9 := ot_mk hN hcg hv
  have hw := hw_91
  obtain ⟨cc, tt, g1, g2, g3⟩ := hk9
  have hval : ∃ r, v = some (.int r) := by rcases g3 with ⟨-, e9, -⟩ | ⟨-, ⟨r9, e9⟩, -⟩; exact ⟨_, e9⟩; exact ⟨_, e9⟩
  obtain ⟨r9, rfl⟩ := hval
  exact m_iret (v := r9) B hw dX6_other_7 (by exact ⟨cc, tt, g1, g2, g3⟩) (Nat.le_of_ble_eq_true rfl) (Nat.le_of_ble_eq_true rfl)

theorem exs {P : Nat → Prop} {k : Nat} : (∃ a, a < k + 1 ∧ P a) ↔ ((∃ a, a < k ∧ P a) ∨ P k) := by
  constructor
  · rintro ⟨a, h1, h2⟩
    rcases Nat.lt_or_ge a k with q | q
    · exact Or.inl ⟨a, q, h2⟩
    · rw [show a = k by omega] at h2; exact Or.inr h2
  · rintro (⟨a, h1, h2⟩ | h)
    · exact ⟨a, by omega, h2⟩
    · exact ⟨k, by omega, h⟩
theorem ix_bh {i j : Nat} (h : i < j) : nI j - 1 - nI i = nI (j - 1 - i) := by
  obtain ⟨d, rfl⟩ : ∃ d, j = d + i + 1 := ⟨j - i - 1, by omega⟩
  rw [show d + i + 1 - 1 - i = d by omega, ← nI_1, Int32.add_sub_cancel, ← nI_add, Int32.add_sub_cancel]
theorem ans_bg {j : Nat} {be : Int32} {A : Nat → Rat} {n : Nat} {pt : Nat → Rat} {sg : Nat → Int32} (h : AnsR j be A n pt sg) (hb : ∀ k, k < n → Bg (pt k)) : ∀ i, i < j → Bg (A i) := by
  intro i hi
  rcases h with ⟨rfl, rfl, _⟩ | ⟨rfl, rfl, e0, _⟩ | ⟨rfl, rfl, e, e0, _⟩ | ⟨rfl, rfl, e, e0, e1, _⟩
  · omega
  · rw [show i = 0 by omega, ← e0]; exact hb 0 (by decide)
  · rcases (show i = 0 ∨ i = 1 by omega) with rfl | rfl
    · rw [← e0]; exact hb 0 (by decide)
    · rw [← e, ← e0]; exact hb 0 (by decide)
  · rcases (show i = 0 ∨ i = 1 by omega) with rfl | rfl
    · rw [← e0]; exact hb 0 (by decide)
    · rw [← e1]; exact hb 1 (by decide)
theorem ans_sm {j : Nat} {be : Int32} {A : Nat → Rat} {n : Nat} {pt : Nat → Rat} {sg : Nat → Int32} (h : AnsR j be A n pt sg) : j ≤ 2 ∧ ∃ sm : Bool, (sm = true ↔ j = 2 ∧ A 0 = A 1) ∧ (j = 0 ∨ (j = 1 ∧ sm = false) ∨ (j = 2 ∧ sm = true ∧ A 0 = A 1) ∨ (j = 2 ∧ sm = false ∧ A 0 < A 1)) := by
  rcases h with ⟨rfl, _⟩ | ⟨rfl, _⟩ | ⟨rfl, _, e, _⟩ | ⟨rfl, _, e, _⟩
  · exact ⟨by decide, false, ⟨fun q => (by cases q), fun q => absurd q.1 (by decide)⟩, Or.inl rfl⟩
  · exact ⟨by decide, false, ⟨fun q => (by cases q), fun q => absurd q.1 (by decide)⟩, Or.inr (Or.inl ⟨rfl, rfl⟩)⟩
  · exact ⟨by decide, true, ⟨fun _ => ⟨rfl, e⟩, fun _ => rfl⟩, Or.inr (Or.inr (Or.inl ⟨rfl, rfl, e⟩))⟩
  · exact ⟨by decide, false, ⟨fun q => (by cases q), fun q => absurd q.2 (Rat.ne_of_lt e)⟩, Or.inr (Or.inr (Or.inr ⟨rfl, rfl, e⟩))⟩
/-- a cell that an answer lies in -/
theorem cell_hit {z : St3} (hs : Srt z.1 z.2.1) {j k : Nat} {be : Int32} {A : Nat → Rat} {at_ : Nat → Nat} {sm : Bool} (hj : j = 0 ∨ (j = 1 ∧ sm = false) ∨ (j = 2 ∧ sm = true ∧ A 0 = A 1) ∨ (j = 2 ∧ sm = false ∧ A 0 < A 1)) (ha : ∀ i, i < j → IsPos z.1 z.2.1 (A i) (at_ i)) (hk : z.2.2 k = true) (hh : ∃ i, i < j ∧ at_ i = k) : CellP z j be A (fun s => s = 0) k ∧ ∀ c : Int32 → Prop, ¬ c 0 → (CellP z j be A c k ↔ (k % 2 = 0 ∧ ∃ i, i < j ∧ at_ i = k ∧ (c (lfS be sm j i) ∨ c (afS be sm j i)))) := by
  have hj2 : (j = 1 ∧ sm = false) ∨ (j = 2 ∧ sm = true ∧ A 0 = A 1) ∨ (j = 2 ∧ sm = false ∧ A 0 < A 1) := hj.elim (fun e => by obtain ⟨i, hi, _⟩ := hh; omega) id
  refine ⟨?_, fun c c0 => ?_⟩
  · obtain ⟨i, hi, e⟩ := hh
    have g := ha i hi
    rw [e] at g
    exact ⟨hk, A i, 0, g, Or.inl ⟨⟨i, hi, rfl⟩, rfl⟩, rfl⟩
  · unfold CellP
    rw [hit_cell hs hj2 ha hh c c0]
    exact ⟨fun h => h.2, fun h => ⟨hk, h⟩⟩
theorem cell_no {z : St3} (hs : Srt z.1 z.2.1) {j k : Nat} {be : Int32} {A : Nat → Rat} {at_ : Nat → Nat} (ha : ∀ i, i < j → IsPos z.1 z.2.1 (A i) (at_ i)) (hk : z.2.2 k = true) (hk2 : k < 2 * z.1 + 1) (hh : ¬ ∃ i, i < j ∧ at_ i = k) (c : Int32 → Prop) : CellP z j be A c k ↔ c (sbS be (rgt at_ k j)) := by
  have hn : ∀ i, i < j → at_ i ≠ k := fun i hi e => hh ⟨i, hi, e⟩
  constructor
  · rintro ⟨_, x, s, h1, h2, h3⟩
    rw [no_hit ha hn h1 h2] at h3
    exact h3
  · intro h
    obtain ⟨x, hx⟩ := cell_ex hs hk2
    have h1 : ∀ i, i < j → A i ≠ x := fun i hi e => hn i hi (ips_uni (by rw [← e]; exact ha i hi) hx)
    have h2 : SgR j be A x (sbS be (cR A x j)) := Or.inr ⟨h1, rfl⟩
    have e := no_hit ha hn hx h2
    exact ⟨hk, x, _, hx, h2, by rw [e]; exact h⟩
theorem cell_off {z : St3} {j k : Nat} {be : Int32} {A : Nat → Rat} {c : Int32 → Prop} (h : z.2.2 k = false) : ¬ CellP z j be A c k := fun q => by rw [q.1] at h; exact absurd h (by decide)
theorem sg_one {no le mo : Bool} {z : St3} {j : Nat} {be : Int32} {A : Nat → Rat} (hs : Srt z.1 z.2.1) (hne : ∃ k, k < 2 * z.1 + 1 ∧ z.2.2 k = true) (h1 : mo = true ↔ ∃ k, k < 2 * z.1 + 1 ∧ CellP z j be A (fun s => ¬ s ≤ 0) k) (h2 : no = true ↔ ∃ k, k < 2 * z.1 + 1 ∧ CellP z j be A (fun s => s = 0) k) (h3 : le = true ↔ ∃ k, k < 2 * z.1 + 1 ∧ CellP z j be A (fun s => s < 0) k) : mo = true ∨ no = true ∨ le = true := by
  obtain ⟨k, hk, hm⟩ := hne
  obtain ⟨x, hx⟩ := cell_ex hs hk
  have hsg : ∃ s, SgR j be A x s := by
    rcases Classical.em (∃ i, i < j ∧ A i = x) with g | g
    · exact ⟨0, Or.inl ⟨g, rfl⟩⟩
    · exact ⟨_, Or.inr ⟨fun i hi e => g ⟨i, hi, e⟩, rfl⟩⟩
  obtain ⟨s, hsg⟩ := hsg
  rcases Decidable.em (s = 0) with q | q
  · exact Or.inr (Or.inl (h2.mpr ⟨k, hk, hm, x, s, hx, hsg, q⟩))
  · rcases Decidable.em (s < 0) with g | g
    · exact Or.inr (Or.inr (h3.mpr ⟨k, hk, hm, x, s, hx, hsg, g⟩))
    · refine Or.inl (h1.mpr ⟨k, hk, hm, x, s, hx, hsg, fun l => ?_⟩)
      rw [Int32.le_iff_toInt_le] at l
      rw [Int32.lt_iff_toInt_lt] at g
      exact q (Int32.toInt_inj.mp (by omega))

theorem ex_0 {P : Nat → Prop} : (false = true) ↔ ∃ k, k < 0 ∧ P k := ⟨fun q => (by cases q), fun ⟨k, h, _⟩ => absurd h (Nat.not_lt_zero _)⟩
theorem ex_off {P : Nat → Prop} {k : Nat} (h : ¬ P k) : (∃ a, a < k ∧ P a) ↔ ∃ a, a < k + 1 ∧ P a := by rw [exs]; exact ⟨Or.inl, fun q => q.elim id (fun q => absurd q h)⟩
theorem qx_0 {b : Bool} {E : Prop} {P : Nat → Prop} {k : Nat} {at_ : Nat → Nat} : b = true ↔ (b = true ∨ (E ∧ ∃ a, a < 0 ∧ at_ a = k ∧ P a)) := ⟨Or.inl, fun q => q.elim id (fun ⟨_, a, h, _⟩ => absurd h (Nat.not_lt_zero _))⟩
theorem qx_no {b : Bool} {E : Prop} {P : Nat → Prop} {k i : Nat} {at_ : Nat → Nat} (h : at_ i ≠ k) : (b = true ∨ (E ∧ ∃ a, a < i ∧ at_ a = k ∧ P a)) ↔ (b = true ∨ (E ∧ ∃ a, a < i + 1 ∧ at_ a = k ∧ P a)) := by
  constructor
  · rintro (q | ⟨e, a, h1, h2⟩)
    · exact Or.inl q
    · exact Or.inr ⟨e, a, by omega, h2⟩
  · rintro (q | ⟨e, a, h1, h2⟩)
    · exact Or.inl q
    · rcases Nat.lt_or_ge a i with g | g
      · exact Or.inr ⟨e, a, g, h2⟩
      · rw [show a = i by omega] at h2; exact absurd h2.1 h
theorem qx_odd {b : Bool} {E : Prop} {P : Nat → Prop} {k i : Nat} {at_ : Nat → Nat} (h : ¬ E) : (b = true ∨ (E ∧ ∃ a, a < i ∧ at_ a = k ∧ P a)) ↔ (b = true ∨ (E ∧ ∃ a, a < i + 1 ∧ at_ a = k ∧ P a)) := ⟨fun q => q.elim Or.inl (fun q => absurd q.1 h), fun q => q.elim Or.inl (fun q => absurd q.1 h)⟩
theorem qx_t {b : Bool} {E : Prop} {P : Nat → Prop} {k i : Nat} {at_ : Nat → Nat} (h : b = true ∨ (E ∧ ∃ a, a < i ∧ at_ a = k ∧ P a)) : true = true ↔ (b = true ∨ (E ∧ ∃ a, a < i + 1 ∧ at_ a = k ∧ P a)) := ⟨fun _ => h.elim Or.inl (fun ⟨e, a, h1, h2⟩ => Or.inr ⟨e, a, by omega, h2⟩), fun _ => rfl⟩
theorem qx_i {b : Bool} {E : Prop} {P : Nat → Prop} {k i : Nat} {at_ : Nat → Nat} (he : E) (ha : at_ i = k) (hp : P i) : true = true ↔ (b = true ∨ (E ∧ ∃ a, a < i + 1 ∧ at_ a = k ∧ P a)) := ⟨fun _ => Or.inr ⟨he, i, by omega, ha, hp⟩, fun _ => rfl⟩
theorem qx_f {b c : Bool} {E : Prop} {P Q : Nat → Prop} {k i : Nat} {at_ : Nat → Nat} (g : c = true ↔ (b = true ∨ (E ∧ ∃ a, a < i ∧ at_ a = k ∧ (P a ∨ Q a)))) (hc : ¬ c = true) (hp : ¬ P i) (hq : ¬ Q i) : false = true ↔ (b = true ∨ (E ∧ ∃ a, a < i + 1 ∧ at_ a = k ∧ (P a ∨ Q a))) := by
  refine ⟨fun q => (by cases q), ?_⟩
  rintro (q | ⟨e, a, h1, h2, h3⟩)
  · exact absurd (g.mpr (Or.inl q)) hc
  · rcases Nat.lt_or_ge a i with d | d
    · exact absurd (g.mpr (Or.inr ⟨e, a, d, h2, h3⟩)) hc
    · rw [show a = i by omega] at h3
      exact absurd h3 (not_or.mpr ⟨hp, hq⟩)
theorem k4_nlt {x y : Int32} (h : y ≤ x) : ¬ x < y := fun q => by rw [Int32.lt_iff_toInt_lt] at q; rw [Int32.le_iff_toInt_le] at h; omega

def po_X6_sign (mo : Nat) (S : Sc) (ct : Ct) (N : Nat) (th : Nat → Th) (as : St3) (f0 : Int32) : Option Value → Sc → Ct → Prop := fun v S2 ct2 => RdK N th as (R_sign N th as f0) v S2 ct2
theorem bkX6_sign_0_3 : pb_chk cX6_sign 0 [.aload_n 0, .aload_n 0, .iload_n 1] = some 3 := by decide +kernel
theorem dX6_sign_3 : decode cX6_sign 3 = .ok (.invokevirtual 107, 3) := by decide +kernel
theorem dX6_sign_6 : decode cX6_sign 6 = .ok (.ifCond .ne 7, 3) := by decide +kernel
theorem bkX6_sign_13_15 : pb_chk cX6_sign 13 [.aload_n 0, .iload_n 1] = some 15 := by decide +kernel
theorem dX6_sign_15 : decode cX6_sign 15 = .ok (.invokevirtual 111, 3) := by decide +kernel
theorem dX6_sign_18 : decode cX6_sign 18 = .ok (.ifCond .ne 7, 3) := by decide +kernel
theorem bkX6_sign_25_26 : pb_chk cX6_sign 25 [.iconst 0] = some 26 := by decide +kernel
theorem dX6_sign_26 : decode cX6_sign 26 = .ok (.putfield 63, 3) := by decide +kernel
theorem bkX6_sign_29_30 : pb_chk cX6_sign 29 [.aload_n 0] = some 30 := by decide +kernel
theorem dX6_sign_30 : decode cX6_sign 30 = .ok (.getfield 63, 3) := by decide +kernel
theorem dX6_sign_33 : decode cX6_sign 33 = .ok (.ifCond .le 5, 3) := by decide +kernel
theorem bkX6_sign_38_40 : pb_chk cX6_sign 38 [.aload_n 0, .iload_n 1] = some 40 := by decide +kernel
theorem dX6_sign_40 : decode cX6_sign 40 = .ok (.invokevirtual 168, 3) := by decide +kernel
theorem dX6_sign_43 : decode cX6_sign 43 = .ok (.ifCond .ne 9, 3) := by decide +kernel
theorem bkX6_sign_46_48 : pb_chk cX6_sign 46 [.aload_n 0, .iconst 3] = some 48 := by decide +kernel
theorem dX6_sign_48 : decode cX6_sign 48 = .ok (.invokevirtual 97, 3) := by decide +kernel
theorem dX6_sign_51 : decode cX6_sign 51 = .ok (.ireturn, 1) := by decide +kernel
theorem bkX6_sign_62_66 : pb_chk cX6_sign 62 [.iload 5, .iconst 2, .aload_n 0] = some 66 := by decide +kernel
theorem dX6_sign_66 : decode cX6_sign 66 = .ok (.getfield 20, 3) := by decide +kernel
theorem bkX6_sign_69_71 : pb_chk cX6_sign 69 [.bipush 80] = some 71 := by decide +kernel
theorem dX6_sign_71 : decode cX6_sign 71 = .ok (.iaload, 1) := by decide +kernel
theorem bkX6_sign_72_73 : pb_chk cX6_sign 72 [.imul] = some 73 := by decide +kernel
theorem dX6_sign_73 : decode cX6_sign 73 = .ok (.if_icmp .gt 349, 3) := by decide +kernel
theorem bkX6_sign_422_423 : pb_chk cX6_sign 422 [.iload_n 2] = some 423 := by decide +kernel
theorem dX6_sign_423 : decode cX6_sign 423 = .ok (.ifCond .eq 16, 3) := by decide +kernel
theorem bkX6_sign_439_441 : pb_chk cX6_sign 439 [.iload 4] = some 441 := by decide +kernel
theorem dX6_sign_441 : decode cX6_sign 441 = .ok (.ifCond .eq 15, 3) := by decide +kernel
theorem bkX6_sign_456_457 : pb_chk cX6_sign 456 [.iload_n 3] = some 457 := by decide +kernel
theorem dX6_sign_457 : decode cX6_sign 457 = .ok (.ifCond .eq 16, 3) := by decide +kernel
theorem bkX6_sign_473_474 : pb_chk cX6_sign 473 [.iconst 2] = some 474 := by decide +kernel
theorem dX6_sign_474 : decode cX6_sign 474 = .ok (.ireturn, 1) := by decide +kernel
theorem bkX6_sign_444_445 : pb_chk cX6_sign 444 [.iload_n 3] = some 445 := by decide +kernel
theorem dX6_sign_445 : decode cX6_sign 445 = .ok (.ifCond .ne 11, 3) := by decide +kernel
theorem bkX6_sign_448_449 : pb_chk cX6_sign 448 [.iload_n 2] = some 449 := by decide +kernel
theorem dX6_sign_449 : decode cX6_sign 449 = .ok (.ifCond .ne 7, 3) := by decide +kernel
theorem bkX6_sign_452_474 : pb_chk cX6_sign 452 [.iconst (-1), .goto 21] = some 474 := by decide +kernel
theorem bkX6_sign_460_461 : pb_chk cX6_sign 460 [.iload_n 2] = some 461 := by decide +kernel
theorem dX6_sign_461 : decode cX6_sign 461 = .ok (.ifCond .ne 12, 3) := by decide +kernel
theorem bkX6_sign_464_466 : pb_chk cX6_sign 464 [.iload 4] = some 466 := by decide +kernel
theorem dX6_sign_466 : decode cX6_sign 466 = .ok (.ifCond .ne 7, 3) := by decide +kernel
theorem bkX6_sign_469_474 : pb_chk cX6_sign 469 [.iconst 0, .goto 4] = some 474 := by decide +kernel
theorem bkX6_sign_426_427 : pb_chk cX6_sign 426 [.iload_n 3] = some 427 := by decide +kernel
theorem dX6_sign_427 : decode cX6_sign 427 = .ok (.ifCond .ne 12, 3) := by decide +kernel
theorem bkX6_sign_430_432 : pb_chk cX6_sign 430 [.iload 4] = some 432 := by decide +kernel
theorem dX6_sign_432 : decode cX6_sign 432 = .ok (.ifCond .ne 7, 3) := by decide +kernel
theorem bkX6_sign_435_474 : pb_chk cX6_sign 435 [.iconst 1, .goto 38] = some 474 := by decide +kernel
theorem bkX6_sign_76_81 : pb_chk cX6_sign 76 [.aload_n 0, .bipush 80, .iload 5] = some 81 := by decide +kernel
theorem dX6_sign_81 : decode cX6_sign 81 = .ok (.invokevirtual 161, 3) := by decide +kernel
theorem dX6_sign_84 : decode cX6_sign 84 = .ok (.ifCond .ne 6, 3) := by decide +kernel
theorem bkX6_sign_87_416 : pb_chk cX6_sign 87 [.goto 329] = some 416 := by decide +kernel
theorem bkX6_sign_416_62 : pb_chk cX6_sign 416 [.iinc 5 1, .goto (-357)] = some 62 := by decide +kernel
theorem bkX6_sign_90_96 : pb_chk cX6_sign 90 [.iconst 0, .istore 6, .iconst 0, .istore 7] = some 96 := by decide +kernel
theorem bkX6_sign_295_301 : pb_chk cX6_sign 295 [.iconst 0, .istore 7, .iconst 0, .istore 8] = some 301 := by decide +kernel
theorem bkX6_sign_353_355 : pb_chk cX6_sign 353 [.iload 7] = some 355 := by decide +kernel
theorem dX6_sign_355 : decode cX6_sign 355 = .ok (.ifCond .eq 6, 3) := by decide +kernel
theorem bkX6_sign_361_364 : pb_chk cX6_sign 361 [.aload_n 0, .iload 6] = some 364 := by decide +kernel
theorem dX6_sign_364 : decode cX6_sign 364 = .ok (.invokevirtual 171, 3) := by decide +kernel
theorem bkX6_sign_367_370 : pb_chk cX6_sign 367 [.istore 8, .iload_n 2] = some 370 := by decide +kernel
theorem dX6_sign_370 : decode cX6_sign 370 = .ok (.ifCond .ne 8, 3) := by decide +kernel
theorem bkX6_sign_378_383 : pb_chk cX6_sign 378 [.iconst 1, .goto 4] = some 383 := by decide +kernel
theorem bkX6_sign_373_375 : pb_chk cX6_sign 373 [.iload 8] = some 375 := by decide +kernel
theorem dX6_sign_375 : decode cX6_sign 375 = .ok (.ifCond .le 7, 3) := by decide +kernel
theorem bkX6_sign_382_383 : pb_chk cX6_sign 382 [.iconst 0] = some 383 := by decide +kernel
theorem bkX6_sign_358_416 : pb_chk cX6_sign 358 [.goto 58] = some 416 := by decide +kernel
theorem bkX6_sign_414_416 : pb_chk cX6_sign 414 [.istore 4] = some 416 := by decide +kernel
theorem bkX6_sign_398_401 : pb_chk cX6_sign 398 [.istore_n 3, .iload 4] = some 401 := by decide +kernel
theorem dX6_sign_401 : decode cX6_sign 401 = .ok (.ifCond .ne 8, 3) := by decide +kernel
theorem bkX6_sign_409_414 : pb_chk cX6_sign 409 [.iconst 1, .goto 4] = some 414 := by decide +kernel
theorem bkX6_sign_404_406 : pb_chk cX6_sign 404 [.iload 8] = some 406 := by decide +kernel
theorem dX6_sign_406 : decode cX6_sign 406 = .ok (.ifCond .ge 7, 3) := by decide +kernel
theorem bkX6_sign_413_414 : pb_chk cX6_sign 413 [.iconst 0] = some 414 := by decide +kernel
theorem bkX6_sign_383_385 : pb_chk cX6_sign 383 [.istore_n 2, .iload_n 3] = some 385 := by decide +kernel
theorem dX6_sign_385 : decode cX6_sign 385 = .ok (.ifCond .ne 8, 3) := by decide +kernel
theorem bkX6_sign_393_398 : pb_chk cX6_sign 393 [.iconst 1, .goto 4] = some 398 := by decide +kernel
theorem bkX6_sign_388_390 : pb_chk cX6_sign 388 [.iload 8] = some 390 := by decide +kernel
theorem dX6_sign_390 : decode cX6_sign 390 = .ok (.ifCond .ne 7, 3) := by decide +kernel
theorem bkX6_sign_397_398 : pb_chk cX6_sign 397 [.iconst 0] = some 398 := by decide +kernel
theorem bkX6_sign_301_304 : pb_chk cX6_sign 301 [.iload 8, .aload_n 0] = some 304 := by decide +kernel
theorem dX6_sign_304 : decode cX6_sign 304 = .ok (.getfield 138, 3) := by decide +kernel
theorem dX6_sign_307 : decode cX6_sign 307 = .ok (.if_icmp .ge 46, 3) := by decide +kernel
theorem bkX6_sign_310_312 : pb_chk cX6_sign 310 [.iload 7] = some 312 := by decide +kernel
theorem dX6_sign_312 : decode cX6_sign 312 = .ok (.ifCond .ne 28, 3) := by decide +kernel
theorem bkX6_sign_340_345 : pb_chk cX6_sign 340 [.iconst 1, .goto 4] = some 345 := by decide +kernel
theorem bkX6_sign_315_319 : pb_chk cX6_sign 315 [.aload_n 0, .bipush 80, .aload_n 0] = some 319 := by decide +kernel
theorem dX6_sign_319 : decode cX6_sign 319 = .ok (.getfield 45, 3) := by decide +kernel
theorem bkX6_sign_322_324 : pb_chk cX6_sign 322 [.iload 8] = some 324 := by decide +kernel
theorem dX6_sign_324 : decode cX6_sign 324 = .ok (.laload, 1) := by decide +kernel
theorem bkX6_sign_325_326 : pb_chk cX6_sign 325 [.aload_n 0] = some 326 := by decide +kernel
theorem dX6_sign_326 : decode cX6_sign 326 = .ok (.getfield 48, 3) := by decide +kernel
theorem bkX6_sign_329_331 : pb_chk cX6_sign 329 [.iload 8] = some 331 := by decide +kernel
theorem dX6_sign_331 : decode cX6_sign 331 = .ok (.laload, 1) := by decide +kernel
theorem dX6_sign_332 : decode cX6_sign 332 = .ok (.invokevirtual 208, 3) := by decide +kernel
theorem bkX6_sign_335_337 : pb_chk cX6_sign 335 [.iload 5] = some 337 := by decide +kernel
theorem dX6_sign_337 : decode cX6_sign 337 = .ok (.if_icmp .ne 7, 3) := by decide +kernel
theorem bkX6_sign_344_345 : pb_chk cX6_sign 344 [.iconst 0] = some 345 := by decide +kernel
theorem bkX6_sign_345_301 : pb_chk cX6_sign 345 [.istore 7, .iinc 8 1, .goto (-49)] = some 301 := by decide +kernel
theorem bkX6_sign_96_99 : pb_chk cX6_sign 96 [.iload 7, .aload_n 0] = some 99 := by decide +kernel
theorem dX6_sign_99 : decode cX6_sign 99 = .ok (.getfield 138, 3) := by decide +kernel
theorem dX6_sign_102 : decode cX6_sign 102 = .ok (.if_icmp .ge 193, 3) := by decide +kernel
theorem bkX6_sign_105_109 : pb_chk cX6_sign 105 [.aload_n 0, .bipush 80, .aload_n 0] = some 109 := by decide +kernel
theorem dX6_sign_109 : decode cX6_sign 109 = .ok (.getfield 45, 3) := by decide +kernel
theorem bkX6_sign_112_114 : pb_chk cX6_sign 112 [.iload 7] = some 114 := by decide +kernel
theorem dX6_sign_114 : decode cX6_sign 114 = .ok (.laload, 1) := by decide +kernel
theorem bkX6_sign_115_116 : pb_chk cX6_sign 115 [.aload_n 0] = some 116 := by decide +kernel
theorem dX6_sign_116 : decode cX6_sign 116 = .ok (.getfield 48, 3) := by decide +kernel
theorem bkX6_sign_119_121 : pb_chk cX6_sign 119 [.iload 7] = some 121 := by decide +kernel
theorem dX6_sign_121 : decode cX6_sign 121 = .ok (.laload, 1) := by decide +kernel
theorem dX6_sign_122 : decode cX6_sign 122 = .ok (.invokevirtual 208, 3) := by decide +kernel
theorem bkX6_sign_125_131 : pb_chk cX6_sign 125 [.istore 8, .iload 8, .iload 5] = some 131 := by decide +kernel
theorem dX6_sign_131 : decode cX6_sign 131 = .ok (.if_icmp .ne 148, 3) := by decide +kernel
theorem bkX6_sign_134_137 : pb_chk cX6_sign 134 [.iconst 1, .istore_n 3, .aload_n 0] = some 137 := by decide +kernel
theorem dX6_sign_137 : decode cX6_sign 137 = .ok (.getfield 138, 3) := by decide +kernel
theorem bkX6_sign_140_150 : pb_chk cX6_sign 140 [.iconst 1, .isub, .iload 7, .isub, .istore 9, .iload 5, .iconst 2] = some 150 := by decide +kernel
theorem dX6_sign_150 : decode cX6_sign 150 = .ok (.irem, 1) := by decide +kernel
theorem dX6_sign_151 : decode cX6_sign 151 = .ok (.ifCond .ne 128, 3) := by decide +kernel
theorem bkX6_sign_154_155 : pb_chk cX6_sign 154 [.aload_n 0] = some 155 := by decide +kernel
theorem dX6_sign_155 : decode cX6_sign 155 = .ok (.getfield 138, 3) := by decide +kernel
theorem bkX6_sign_158_159 : pb_chk cX6_sign 158 [.iconst 2] = some 159 := by decide +kernel
theorem dX6_sign_159 : decode cX6_sign 159 = .ok (.if_icmp .ne 39, 3) := by decide +kernel
theorem bkX6_sign_198_199 : pb_chk cX6_sign 198 [.iconst 0] = some 199 := by decide +kernel
theorem bkX6_sign_162_163 : pb_chk cX6_sign 162 [.aload_n 0] = some 163 := by decide +kernel
theorem dX6_sign_163 : decode cX6_sign 163 = .ok (.getfield 45, 3) := by decide +kernel
theorem bkX6_sign_166_167 : pb_chk cX6_sign 166 [.iconst 0] = some 167 := by decide +kernel
theorem dX6_sign_167 : decode cX6_sign 167 = .ok (.laload, 1) := by decide +kernel
theorem bkX6_sign_168_169 : pb_chk cX6_sign 168 [.aload_n 0] = some 169 := by decide +kernel
theorem dX6_sign_169 : decode cX6_sign 169 = .ok (.getfield 45, 3) := by decide +kernel
theorem bkX6_sign_172_173 : pb_chk cX6_sign 172 [.iconst 1] = some 173 := by decide +kernel
theorem dX6_sign_173 : decode cX6_sign 173 = .ok (.laload, 1) := by decide +kernel
theorem bkX6_sign_174_175 : pb_chk cX6_sign 174 [.lcmp] = some 175 := by decide +kernel
theorem dX6_sign_175 : decode cX6_sign 175 = .ok (.ifCond .ne 23, 3) := by decide +kernel
theorem bkX6_sign_178_179 : pb_chk cX6_sign 178 [.aload_n 0] = some 179 := by decide +kernel
theorem dX6_sign_179 : decode cX6_sign 179 = .ok (.getfield 48, 3) := by decide +kernel
theorem bkX6_sign_182_183 : pb_chk cX6_sign 182 [.iconst 0] = some 183 := by decide +kernel
theorem dX6_sign_183 : decode cX6_sign 183 = .ok (.laload, 1) := by decide +kernel
theorem bkX6_sign_184_185 : pb_chk cX6_sign 184 [.aload_n 0] = some 185 := by decide +kernel
theorem dX6_sign_185 : decode cX6_sign 185 = .ok (.getfield 48, 3) := by decide +kernel
theorem bkX6_sign_188_189 : pb_chk cX6_sign 188 [.iconst 1] = some 189 := by decide +kernel
theorem dX6_sign_189 : decode cX6_sign 189 = .ok (.laload, 1) := by decide +kernel
theorem bkX6_sign_190_191 : pb_chk cX6_sign 190 [.lcmp] = some 191 := by decide +kernel
theorem dX6_sign_191 : decode cX6_sign 191 = .ok (.ifCond .ne 7, 3) := by decide +kernel
theorem bkX6_sign_194_199 : pb_chk cX6_sign 194 [.iconst 1, .goto 4] = some 199 := by decide +kernel
theorem bkX6_sign_279_283 : pb_chk cX6_sign 279 [.iload 8, .iload 5] = some 283 := by decide +kernel
theorem dX6_sign_283 : decode cX6_sign 283 = .ok (.if_icmp .le 6, 3) := by decide +kernel
theorem bkX6_sign_289_96 : pb_chk cX6_sign 289 [.iinc 7 1, .goto (-196)] = some 96 := by decide +kernel
theorem bkX6_sign_286_96 : pb_chk cX6_sign 286 [.iinc 6 1, .iinc 7 1, .goto (-196)] = some 96 := by decide +kernel
theorem bkX6_sign_277_279 : pb_chk cX6_sign 277 [.istore 4] = some 279 := by decide +kernel
theorem bkX6_sign_256_259 : pb_chk cX6_sign 256 [.istore_n 2, .iload 4] = some 259 := by decide +kernel
theorem dX6_sign_259 : decode cX6_sign 259 = .ok (.ifCond .ne 13, 3) := by decide +kernel
theorem bkX6_sign_272_277 : pb_chk cX6_sign 272 [.iconst 1, .goto 4] = some 277 := by decide +kernel
theorem bkX6_sign_262_264 : pb_chk cX6_sign 262 [.iload 11] = some 264 := by decide +kernel
theorem dX6_sign_264 : decode cX6_sign 264 = .ok (.ifCond .lt 8, 3) := by decide +kernel
theorem bkX6_sign_267_269 : pb_chk cX6_sign 267 [.iload 12] = some 269 := by decide +kernel
theorem dX6_sign_269 : decode cX6_sign 269 = .ok (.ifCond .ge 7, 3) := by decide +kernel
theorem bkX6_sign_276_277 : pb_chk cX6_sign 276 [.iconst 0] = some 277 := by decide +kernel
theorem bkX6_sign_199_204 : pb_chk cX6_sign 199 [.istore 10, .aload_n 0, .iload 10] = some 204 := by decide +kernel
theorem dX6_sign_204 : decode cX6_sign 204 = .ok (.ifCond .eq 7, 3) := by decide +kernel
theorem bkX6_sign_211_215 : pb_chk cX6_sign 211 [.iload 9, .iconst 1, .iadd] = some 215 := by decide +kernel
theorem dX6_sign_215 : decode cX6_sign 215 = .ok (.invokevirtual 171, 3) := by decide +kernel
theorem bkX6_sign_218_223 : pb_chk cX6_sign 218 [.istore 11, .aload_n 0, .iload 10] = some 223 := by decide +kernel
theorem dX6_sign_223 : decode cX6_sign 223 = .ok (.ifCond .eq 7, 3) := by decide +kernel
theorem bkX6_sign_230_232 : pb_chk cX6_sign 230 [.iload 9] = some 232 := by decide +kernel
theorem dX6_sign_232 : decode cX6_sign 232 = .ok (.invokevirtual 171, 3) := by decide +kernel
theorem bkX6_sign_235_238 : pb_chk cX6_sign 235 [.istore 12, .iload_n 2] = some 238 := by decide +kernel
theorem dX6_sign_238 : decode cX6_sign 238 = .ok (.ifCond .ne 13, 3) := by decide +kernel
theorem bkX6_sign_251_256 : pb_chk cX6_sign 251 [.iconst 1, .goto 4] = some 256 := by decide +kernel
theorem bkX6_sign_241_243 : pb_chk cX6_sign 241 [.iload 11] = some 243 := by decide +kernel
theorem dX6_sign_243 : decode cX6_sign 243 = .ok (.ifCond .gt 8, 3) := by decide +kernel
theorem bkX6_sign_246_248 : pb_chk cX6_sign 246 [.iload 12] = some 248 := by decide +kernel
theorem dX6_sign_248 : decode cX6_sign 248 = .ok (.ifCond .le 7, 3) := by decide +kernel
theorem bkX6_sign_255_256 : pb_chk cX6_sign 255 [.iconst 0] = some 256 := by decide +kernel
theorem bkX6_sign_207_215 : pb_chk cX6_sign 207 [.iconst 2, .goto 7] = some 215 := by decide +kernel
theorem bkX6_sign_226_232 : pb_chk cX6_sign 226 [.iconst 0, .goto 5] = some 232 := by decide +kernel
theorem bkX6_sign_52_62 : pb_chk cX6_sign 52 [.iconst 0, .istore_n 2, .iconst 0, .istore_n 3, .iconst 0, .istore 4, .iconst 0, .istore 5] = some 62 := by decide +kernel
theorem bkX6_sign_21_26 : pb_chk cX6_sign 21 [.iconst 2, .goto 4] = some 26 := by decide +kernel
theorem bkX6_sign_36_37 : pb_chk cX6_sign 36 [.iconst 0] = some 37 := by decide +kernel
theorem dX6_sign_37 : decode cX6_sign 37 = .ok (.ireturn, 1) := by decide +kernel
theorem bkX6_sign_9_26 : pb_chk cX6_sign 9 [.iconst 1, .goto 16] = some 26 := by decide +kernel
set_option maxHeartbeats 4000000 in
set_option maxRecDepth 100000 in
theorem c_X6_sign (l : Launch) (G : Gm) (mo : Nat) (S : Sc) (ct : Ct) (N : Nat) (th : Nat → Th) (as : St3) (f0 : Int32) (hP : Pst N th as S ct) (hB : Bds N th as) (hso : Srt as.1 as.2.1) (hne : ∃ k, k < 2 * as.1 + 1 ∧ as.2.2 k = true) : Mm l yX6_sign cX6_sign 13 (some .int) (⟨4, 0, 0, 120⟩ : Room) G mo S ct [.ref mo, .int f0] (po_X6_sign mo S ct N th as f0) := by
  refine of_met (by decide) (Nat.le_of_ble_eq_true rfl) ?_
  intro p e s m below meth c ls B hA hM0 hl
  have hw := Mw.start hM0
  refine pb_blk B.hx B.hb (lv' := [(0, .ref mo), (1, .int f0)]) (st' := [.int f0, .ref mo, .ref mo]) hl bkX6_sign_0_3 rfl (fun ls hl => ?_)
  refine m_callN B hw (c_X6_isThere l G (fun _ => False) mo S ct N f0 hP.1 hP.2.1) cy_X6_isThere im_X6_isThere se_X6_isThere wd_M_X6_107 hw.1 rfl hl.1 rfl (Nat.le_of_ble_eq_true rfl) ⟨by decide, by decide⟩ ⟨rfl, rfl⟩ ⟨Nat.le_refl _, Nat.le_refl _⟩ dX6_sign_3 (fun v hv => ?_)
  obtain ⟨t1, rfl, ht1⟩ := hv
  refine lv_if_ne (tgt := 13) B.hx B.hb dX6_sign_6 (by decide) (fun h1 => ?_) (fun h1 => ?_)
  · obtain ⟨i, hi, rfl⟩ := ht1.mp (ts9 (fun q => h1 ((b2i_0 _).mpr q)))
    have hN := hP.1
    refine pb_blk B.hx B.hb (lv' := [(0, .ref mo), (1, .int (nI i))]) (st' := [.int (nI i), .ref mo, .ref mo]) hl bkX6_sign_13_15 rfl (fun ls hl => ?_)
    refine m_callN B hw (c_X6_isFormula l G (fun _ => False) mo S ct i (th i) (by have := hP.1; omega) (hP.2.2.1 i hi)) cy_X6_isFormula im_X6_isFormula se_X6_isFormula wd_M_X6_111 hw.1 rfl hl.1 rfl (Nat.le_of_ble_eq_true rfl) ⟨by decide, by decide⟩ ⟨rfl, rfl⟩ ⟨Nat.le_refl _, Nat.le_refl _⟩ dX6_sign_15 (fun v hv => ?_)
    obtain ⟨t3, rfl, ht3⟩ := hv
    refine lv_if_ne (tgt := 25) B.hx B.hb dX6_sign_18 (by decide) (fun h3 => ?_) (fun h3 => ?_)
    · obtain ⟨u, hu⟩ := ht3.mp (ts9 (fun q => h3 ((b2i_0 _).mpr q)))
      have fi := hP.2.2.1 i hi
      rw [hu] at fi
      refine pb_blk B.hx B.hb (lv' := [(0, .ref mo), (1, .int (nI i))]) (st' := [.int 0, .ref mo]) hl bkX6_sign_25_26 rfl (fun ls hl => ?_)
      refine m_put B hw 0 (by decide) wd_F_X6_63 rfl rfl rfl rfl dX6_sign_26 (fun H locs hw => ?_)
      refine pb_blk B.hx B.hb (lv' := [(0, .ref mo), (1, .int (nI i))]) (st' := [.ref mo]) hl bkX6_sign_29_30 rfl (fun ls hl => ?_)
      refine m_get B hw 0 (by decide) wd_F_X6_63 (congrArg some (show _ = (.int 0 : Value) from rfl)) dX6_sign_30 ?_
      refine lv_if_le (tgt := 38) B.hx B.hb dX6_sign_33 (by decide) (fun _ => ?_) (fun h => absurd h (by decide))
      have hsu := hB.1 i hi u hu
      refine pb_blk B.hx B.hb (lv' := [(0, .ref mo), (1, .int (nI i))]) (st' := [.int (nI i), .ref mo]) hl bkX6_sign_38_40 rfl (fun ls hl => ?_)
      refine m_callV B hw (c_X6_tells l G mo _ _ N th as i u (hP.ag rfl Ag.rf) hi hu hsu) cy_X6_tells im_X6_tells se_X6_tells wd_M_X6_168 rfl hl.1 rfl (Nat.le_of_ble_eq_true rfl) ⟨by decide, by decide⟩ ⟨rfl, rfl⟩ ⟨Nat.le_refl _, Nat.le_refl _⟩ dX6_sign_40 (fun v H locs Sb ctb hw_92 hv => ?_)
      obtain ⟨s0, s1, ot, hv⟩ := hv
      have hw := hw_92
      have hPb : Pst N th as Sb ctb := hP.ag s1 (Ag.hi (fun a g1 g2 => ot a (by omega) (by omega) (by omega) (by omega)))
      rcases hv with ⟨rfl, hno⟩ | ⟨rfl, j, be, AA, n, pt, sg, e15, e18, hrow, htl, han⟩
      · refine lv_if_ne (tgt := 52) B.hx B.hb dX6_sign_43 (by decide) (fun h5 => absurd h5 (by decide)) (fun h5 => ?_)
        refine pb_blk B.hx B.hb (lv' := [(0, .ref mo), (1, .int (nI i))]) (st' := [.int 3, .ref mo]) hl bkX6_sign_46_48 rfl (fun ls hl => ?_)
        refine m_callV B hw (c_X6_raise l G mo _ _ 3) cy_X6_raise im_X6_raise se_X6_raise wd_M_X6_97 rfl hl.1 rfl (Nat.le_of_ble_eq_true rfl) ⟨by decide, by decide⟩ ⟨rfl, rfl⟩ ⟨Nat.le_refl _, Nat.le_refl _⟩ dX6_sign_48 (fun v H locs Sc1 ctc hw_93 hv => ?_)
        obtain ⟨rfl, rfl, rfl⟩ := hv
        have hw := hw_93
        exact m_iret (v := 0) B hw dX6_sign_51 (by exact ⟨3, 0, 0, Or.inr ⟨i, hi, rfl, Or.inr ⟨u, hu, Or.inl ⟨rfl, hno⟩⟩⟩, rfl, rfl, fun q => absurd q (by decide), hPb.ag rfl Ag.rf⟩) (Nat.le_of_ble_eq_true rfl) (Nat.le_of_ble_eq_true rfl)
      · refine lv_if_ne (tgt := 52) B.hx B.hb dX6_sign_43 (by decide) (fun h5 => ?_) (fun h5 => absurd h5 (by decide))
        obtain ⟨hj2, sm, hsm, hjc⟩ := ans_sm han
        have hbg := ans_bg han (hB.2.2.2.2.1 i hi u hu n pt sg htl).1
        have hzB := hPb.2.2.2
        have hba : ∀ a, a < as.1 → Bg (as.2.1 a) := fun a ha => (hB.2.2.1.2 a ha).bg
        have h160 := hzB.1
        obtain ⟨at_, hat⟩ : ∃ at_ : Nat → Nat, ∀ a, a < j → IsPos as.1 as.2.1 (AA a) (at_ a) := ⟨fun a => Classical.choose (ips_ex as.1 as.2.1 (AA a)), fun a _ => Classical.choose_spec (ips_ex as.1 as.2.1 (AA a))⟩
        have hal : ∀ a, a < j → at_ a < 2 * as.1 + 1 := fun a ha => ips_bd (hat a ha)
        have e0c : Sb 0 = .int 0 := s0
        have loop : ∀ (n2 k : Nat) (mo2 no le : Bool) (ls : Array Slot), 2 * as.1 + 2 ≤ k + n2 → k ≤ 2 * as.1 + 1 → (mo2 = true ↔ (∃ k', k' < k ∧ CellP as j be AA (fun s => ¬ s ≤ 0) k')) → (no = true ↔ (∃ k', k' < k ∧ CellP as j be AA (fun s => s = 0) k')) → (le = true ↔ (∃ k', k' < k ∧ CellP as j be AA (fun s => s < 0) k')) → lv_has ls 13 [(5, .int (nI k)), (4, .int (b2i le)), (3, .int (b2i no)), (2, .int (b2i mo2)), (0, .ref mo), (1, .int (nI i))] → W p l e (⟨4, 0, 0, 120⟩ : Room) s m ([.ref mo, .int (nI i)] : List Value).toArray below meth c H locs 0 0 (MQ below (Qm G mo (po_X6_sign mo S ct N th as (nI i))) ([.ref mo, .int (nI i)] : List Value).toArray s (⟨4, 0, 0, 120⟩ : Room).cells (⟨4, 0, 0, 120⟩ : Room).slots (FM mo)) (F0 m 62 ls []) := by
          intro n2
          induction n2 with
          | zero => intro k mo2 no le ls h1 h2; omega
          | succ n2 ih =>
              intro k mo2 no le ls hn hk hmo hno hle hl
              have J416 : ∀ (mo2 no le : Bool) (ls : Array Slot), k < 2 * as.1 + 1 → (mo2 = true ↔ (∃ k', k' < k + 1 ∧ CellP as j be AA (fun s => ¬ s ≤ 0) k')) → (no = true ↔ (∃ k', k' < k + 1 ∧ CellP as j be AA (fun s => s = 0) k')) → (le = true ↔ (∃ k', k' < k + 1 ∧ CellP as j be AA (fun s => s < 0) k')) → lv_has ls 13 [(5, .int (nI k)), (4, .int (b2i le)), (3, .int (b2i no)), (2, .int (b2i mo2)), (0, .ref mo), (1, .int (nI i))] → W p l e (⟨4, 0, 0, 120⟩ : Room) s m ([.ref mo, .int (nI i)] : List Value).toArray below meth c H locs 0 0 (MQ below (Qm G mo (po_X6_sign mo S ct N th as (nI i))) ([.ref mo, .int (nI i)] : List Value).toArray s (⟨4, 0, 0, 120⟩ : Room).cells (⟨4, 0, 0, 120⟩ : Room).slots (FM mo)) (F0 m 416 ls []) := by
                intro mo2 no le ls hk g1 g2 g3 hl
                refine pb_blk B.hx B.hb (lv' := [(5, .int ((nI k) + 1)), (4, .int (b2i le)), (3, .int (b2i no)), (2, .int (b2i mo2)), (0, .ref mo), (1, .int (nI i))]) (st' := []) hl bkX6_sign_416_62 rfl (fun ls hl => ?_)
                exact ih (k + 1) mo2 no le ls (by omega) (by omega) g1 g2 g3 (by rw [← nI_1]; exact lv_sub hl [0, 1, 2, 3, 4, 5] rfl)
              have J90 : ∀ (ls : Array Slot), k < 2 * as.1 + 1 → as.2.2 k = true → lv_has ls 13 [(5, .int (nI k)), (4, .int (b2i le)), (3, .int (b2i no)), (2, .int (b2i mo2)), (0, .ref mo), (1, .int (nI i))] → W p l e (⟨4, 0, 0, 120⟩ : Room) s m ([.ref mo, .int (nI i)] : List Value).toArray below meth c H locs 0 0 (MQ below (Qm G mo (po_X6_sign mo S ct N th as (nI i))) ([.ref mo, .int (nI i)] : List Value).toArray s (⟨4, 0, 0, 120⟩ : Room).cells (⟨4, 0, 0, 120⟩ : Room).slots (FM mo)) (F0 m 90 ls []) := by
                intro ls hk hmk hl
                have J295 : ∀ (mo3 no3 le3 : Bool) (ls : Array Slot), (mo3 = true ↔ (mo2 = true ∨ (k % 2 = 0 ∧ ∃ a, a < j ∧ at_ a = k ∧ (¬ lfS be sm j a ≤ 0 ∨ ¬ afS be sm j a ≤ 0)))) → (no3 = true ↔ (no = true ∨ ∃ a, a < j ∧ at_ a = k)) → (le3 = true ↔ (le = true ∨ (k % 2 = 0 ∧ ∃ a, a < j ∧ at_ a = k ∧ (lfS be sm j a < 0 ∨ afS be sm j a < 0)))) → lv_has ls 13 [(6, .int (nI (rgt at_ k j))), (5, .int (nI k)), (4, .int (b2i le3)), (3, .int (b2i no3)), (2, .int (b2i mo3)), (0, .ref mo), (1, .int (nI i))] → W p l e (⟨4, 0, 0, 120⟩ : Room) s m ([.ref mo, .int (nI i)] : List Value).toArray below meth c H locs 0 0 (MQ below (Qm G mo (po_X6_sign mo S ct N th as (nI i))) ([.ref mo, .int (nI i)] : List Value).toArray s (⟨4, 0, 0, 120⟩ : Room).cells (⟨4, 0, 0, 120⟩ : Room).slots (FM mo)) (F0 m 295 ls []) := by
                  intro mo3 no3 le3 ls g1 g2 g3 hl
                  have J353 : ∀ (hit : Bool) (ls : Array Slot), (hit = true ↔ (∃ a, a < j ∧ at_ a = k)) → lv_has ls 13 [(7, .int (b2i hit)), (6, .int (nI (rgt at_ k j))), (5, .int (nI k)), (4, .int (b2i le3)), (3, .int (b2i no3)), (2, .int (b2i mo3)), (0, .ref mo), (1, .int (nI i))] → W p l e (⟨4, 0, 0, 120⟩ : Room) s m ([.ref mo, .int (nI i)] : List Value).toArray below meth c H locs 0 0 (MQ below (Qm G mo (po_X6_sign mo S ct N th as (nI i))) ([.ref mo, .int (nI i)] : List Value).toArray s (⟨4, 0, 0, 120⟩ : Room).cells (⟨4, 0, 0, 120⟩ : Room).slots (FM mo)) (F0 m 353 ls []) := by
                    intro hit ls hhit hl
                    refine pb_blk B.hx B.hb (lv' := [(7, .int (b2i hit)), (6, .int (nI (rgt at_ k j))), (5, .int (nI k)), (4, .int (b2i le3)), (3, .int (b2i no3)), (2, .int (b2i mo3)), (0, .ref mo), (1, .int (nI i))]) (st' := [.int (b2i hit)]) hl bkX6_sign_353_355 rfl (fun ls hl => ?_)
                    refine lv_if_eq (tgt := 361) B.hx B.hb dX6_sign_355 (by decide) (fun h6 => ?_) (fun h6 => ?_)
                    · have hh : ¬ (∃ a, a < j ∧ at_ a = k) := fun q => by rw [hhit.mpr q] at h6; exact absurd h6 (by decide)
                      have ce := fun (c : Int32 → Prop) => cell_no (be := be) hso hat hmk hk hh c
                      have f1 : mo3 = true ↔ mo2 = true := g1.trans ⟨fun q => q.elim id (fun q => absurd (q.2.elim (fun a h => ⟨a, h.1, h.2.1⟩)) hh), Or.inl⟩
                      have f2 : no3 = true ↔ no = true := g2.trans ⟨fun q => q.elim id (fun q => absurd q hh), Or.inl⟩
                      have f3 : le3 = true ↔ le = true := g3.trans ⟨fun q => q.elim id (fun q => absurd (q.2.elim (fun a h => ⟨a, h.1, h.2.1⟩)) hh), Or.inl⟩
                      have hrl := rgt_le at_ k j
                      refine pb_blk B.hx B.hb (lv' := [(7, .int (b2i hit)), (6, .int (nI (rgt at_ k j))), (5, .int (nI k)), (4, .int (b2i le3)), (3, .int (b2i no3)), (2, .int (b2i mo3)), (0, .ref mo), (1, .int (nI i))]) (st' := [.int (nI (rgt at_ k j)), .ref mo]) hl bkX6_sign_361_364 rfl (fun ls hl => ?_)
                      refine m_callN B hw (c_X6_signBefore l G (fun _ => False) mo _ _ (rgt at_ k j) be (by omega) e18) cy_X6_signBefore im_X6_signBefore se_X6_signBefore wd_M_X6_171 hw.1 rfl hl.1 rfl (Nat.le_of_ble_eq_true rfl) ⟨by decide, by decide⟩ ⟨rfl, rfl⟩ ⟨Nat.le_refl _, Nat.le_refl _⟩ dX6_sign_364 (fun v hv => ?_)
                      have hv : v = some (.int (sbS be (rgt at_ k j))) := hv
                      subst hv
                      obtain ⟨sx, hsx⟩ : ∃ z, z = sbS be (rgt at_ k j) := ⟨_, rfl⟩
                      rw [← hsx]
                      simp only [← hsx] at ce
                      have J414 : ∀ (mo4 no4 le4 : Bool) (ls : Array Slot), (mo4 = true ↔ (mo3 = true ∨ ¬ sx ≤ 0)) → (no4 = true ↔ (no3 = true ∨ sx = 0)) → (le4 = true ↔ (le3 = true ∨ sx < 0)) → lv_has ls 13 [(8, .int sx), (5, .int (nI k)), (4, .int (b2i le3)), (3, .int (b2i no4)), (2, .int (b2i mo4)), (0, .ref mo), (1, .int (nI i))] → W p l e (⟨4, 0, 0, 120⟩ : Room) s m ([.ref mo, .int (nI i)] : List Value).toArray below meth c H locs 0 0 (MQ below (Qm G mo (po_X6_sign mo S ct N th as (nI i))) ([.ref mo, .int (nI i)] : List Value).toArray s (⟨4, 0, 0, 120⟩ : Room).cells (⟨4, 0, 0, 120⟩ : Room).slots (FM mo)) (F0 m 414 ls [.int (b2i le4)]) := by
                        intro mo4 no4 le4 ls k1 k2 k3 hl
                        refine pb_blk B.hx B.hb (lv' := [(4, .int (b2i le4)), (8, .int sx), (5, .int (nI k)), (3, .int (b2i no4)), (2, .int (b2i mo4)), (0, .ref mo), (1, .int (nI i))]) (st' := []) hl bkX6_sign_414_416 rfl (fun ls hl => ?_)
                        exact J416 mo4 no4 le4 ls hk (by rw [exs, ← hmo, ← f1, ce]; exact k1) (by rw [exs, ← hno, ← f2, ce]; exact k2) (by rw [exs, ← hle, ← f3, ce]; exact k3) (lv_sub hl [2, 0, 3, 4, 5, 6] rfl)
                      have J398 : ∀ (mo4 no4 : Bool) (ls : Array Slot), (mo4 = true ↔ (mo3 = true ∨ ¬ sx ≤ 0)) → (no4 = true ↔ (no3 = true ∨ sx = 0)) → lv_has ls 13 [(8, .int sx), (5, .int (nI k)), (4, .int (b2i le3)), (3, .int (b2i no3)), (2, .int (b2i mo4)), (0, .ref mo), (1, .int (nI i))] → W p l e (⟨4, 0, 0, 120⟩ : Room) s m ([.ref mo, .int (nI i)] : List Value).toArray below meth c H locs 0 0 (MQ below (Qm G mo (po_X6_sign mo S ct N th as (nI i))) ([.ref mo, .int (nI i)] : List Value).toArray s (⟨4, 0, 0, 120⟩ : Room).cells (⟨4, 0, 0, 120⟩ : Room).slots (FM mo)) (F0 m 398 ls [.int (b2i no4)]) := by
                        intro mo4 no4 ls k1 k2 hl
                        refine pb_blk B.hx B.hb (lv' := [(3, .int (b2i no4)), (8, .int sx), (5, .int (nI k)), (4, .int (b2i le3)), (2, .int (b2i mo4)), (0, .ref mo), (1, .int (nI i))]) (st' := [.int (b2i le3)]) hl bkX6_sign_398_401 rfl (fun ls hl => ?_)
                        refine lv_if_ne (tgt := 409) B.hx B.hb dX6_sign_401 (by decide) (fun h7 => ?_) (fun h7 => ?_)
                        · have e9 := ts9 (fun q => h7 ((b2i_0 _).mpr q))
                          refine pb_blk B.hx B.hb (lv' := [(3, .int (b2i no4)), (8, .int sx), (5, .int (nI k)), (4, .int (b2i le3)), (2, .int (b2i mo4)), (0, .ref mo), (1, .int (nI i))]) (st' := [.int 1]) hl bkX6_sign_409_414 rfl (fun ls hl => ?_)
                          exact J414 mo4 no4 true ls k1 k2 ⟨fun _ => Or.inl e9, fun _ => rfl⟩ (lv_sub hl [1, 2, 3, 0, 4, 5, 6] rfl)
                        · have e9 : ¬ le3 = true := fun q => by rw [q] at h7; exact absurd h7 (by decide)
                          refine pb_blk B.hx B.hb (lv' := [(3, .int (b2i no4)), (8, .int sx), (5, .int (nI k)), (4, .int (b2i le3)), (2, .int (b2i mo4)), (0, .ref mo), (1, .int (nI i))]) (st' := [.int sx]) hl bkX6_sign_404_406 rfl (fun ls hl => ?_)
                          refine lv_if_ge (tgt := 413) B.hx B.hb dX6_sign_406 (by decide) (fun h8 => ?_) (fun h8 => ?_)
                          · have e8 : ¬ sx < 0 := fun q => by rw [Int32.lt_iff_toInt_lt] at q; rw [Int32.le_iff_toInt_le] at h8; omega
                            refine pb_blk B.hx B.hb (lv' := [(3, .int (b2i no4)), (8, .int sx), (5, .int (nI k)), (4, .int (b2i le3)), (2, .int (b2i mo4)), (0, .ref mo), (1, .int (nI i))]) (st' := [.int 0]) hl bkX6_sign_413_414 rfl (fun ls hl => ?_)
                            exact J414 mo4 no4 false ls k1 k2 ⟨fun q => (by cases q), fun q => q.elim (fun q => absurd q e9) (fun q => absurd q e8)⟩ (lv_sub hl [1, 2, 3, 0, 4, 5, 6] rfl)
                          · have e8 : sx < 0 := by rw [Int32.lt_iff_toInt_lt]; rw [Int32.le_iff_toInt_le] at h8; omega
                            refine pb_blk B.hx B.hb (lv' := [(3, .int (b2i no4)), (8, .int sx), (5, .int (nI k)), (4, .int (b2i le3)), (2, .int (b2i mo4)), (0, .ref mo), (1, .int (nI i))]) (st' := [.int 1]) hl bkX6_sign_409_414 rfl (fun ls hl => ?_)
                            exact J414 mo4 no4 true ls k1 k2 ⟨fun _ => Or.inr e8, fun _ => rfl⟩ (lv_sub hl [1, 2, 3, 0, 4, 5, 6] rfl)
                      have J383 : ∀ (mo4 : Bool) (ls : Array Slot), (mo4 = true ↔ (mo3 = true ∨ ¬ sx ≤ 0)) → lv_has ls 13 [(8, .int sx), (5, .int (nI k)), (4, .int (b2i le3)), (3, .int (b2i no3)), (2, .int (b2i mo3)), (0, .ref mo), (1, .int (nI i))] → W p l e (⟨4, 0, 0, 120⟩ : Room) s m ([.ref mo, .int (nI i)] : List Value).toArray below meth c H locs 0 0 (MQ below (Qm G mo (po_X6_sign mo S ct N th as (nI i))) ([.ref mo, .int (nI i)] : List Value).toArray s (⟨4, 0, 0, 120⟩ : Room).cells (⟨4, 0, 0, 120⟩ : Room).slots (FM mo)) (F0 m 383 ls [.int (b2i mo4)]) := by
                        intro mo4 ls k1 hl
                        refine pb_blk B.hx B.hb (lv' := [(2, .int (b2i mo4)), (8, .int sx), (5, .int (nI k)), (4, .int (b2i le3)), (3, .int (b2i no3)), (0, .ref mo), (1, .int (nI i))]) (st' := [.int (b2i no3)]) hl bkX6_sign_383_385 rfl (fun ls hl => ?_)
                        refine lv_if_ne (tgt := 393) B.hx B.hb dX6_sign_385 (by decide) (fun h7 => ?_) (fun h7 => ?_)
                        · have e9 := ts9 (fun q => h7 ((b2i_0 _).mpr q))
                          refine pb_blk B.hx B.hb (lv' := [(2, .int (b2i mo4)), (8, .int sx), (5, .int (nI k)), (4, .int (b2i le3)), (3, .int (b2i no3)), (0, .ref mo), (1, .int (nI i))]) (st' := [.int 1]) hl bkX6_sign_393_398 rfl (fun ls hl => ?_)
                          exact J398 mo4 true ls k1 ⟨fun _ => Or.inl e9, fun _ => rfl⟩ (lv_sub hl [1, 2, 3, 4, 0, 5, 6] rfl)
                        · have e9 : ¬ no3 = true := fun q => by rw [q] at h7; exact absurd h7 (by decide)
                          refine pb_blk B.hx B.hb (lv' := [(2, .int (b2i mo4)), (8, .int sx), (5, .int (nI k)), (4, .int (b2i le3)), (3, .int (b2i no3)), (0, .ref mo), (1, .int (nI i))]) (st' := [.int sx]) hl bkX6_sign_388_390 rfl (fun ls hl => ?_)
                          refine lv_if_ne (tgt := 397) B.hx B.hb dX6_sign_390 (by decide) (fun h8 => ?_) (fun h8 => ?_)
                          · refine pb_blk B.hx B.hb (lv' := [(2, .int (b2i mo4)), (8, .int sx), (5, .int (nI k)), (4, .int (b2i le3)), (3, .int (b2i no3)), (0, .ref mo), (1, .int (nI i))]) (st' := [.int 0]) hl bkX6_sign_397_398 rfl (fun ls hl => ?_)
                            exact J398 mo4 false ls k1 ⟨fun q => (by cases q), fun q => q.elim (fun q => absurd q e9) (fun q => absurd q h8)⟩ (lv_sub hl [1, 2, 3, 4, 0, 5, 6] rfl)
                          · refine pb_blk B.hx B.hb (lv' := [(2, .int (b2i mo4)), (8, .int sx), (5, .int (nI k)), (4, .int (b2i le3)), (3, .int (b2i no3)), (0, .ref mo), (1, .int (nI i))]) (st' := [.int 1]) hl bkX6_sign_393_398 rfl (fun ls hl => ?_)
                            exact J398 mo4 true ls k1 ⟨fun _ => Or.inr h8, fun _ => rfl⟩ (lv_sub hl [1, 2, 3, 4, 0, 5, 6] rfl)
                      refine pb_blk B.hx B.hb (lv' := [(8, .int sx), (7, .int (b2i hit)), (6, .int (nI (rgt at_ k j))), (5, .int (nI k)), (4, .int (b2i le3)), (3, .int (b2i no3)), (2, .int (b2i mo3)), (0, .ref mo), (1, .int (nI i))]) (st' := [.int (b2i mo3)]) hl bkX6_sign_367_370 rfl (fun ls hl => ?_)
                      refine lv_if_ne (tgt := 378) B.hx B.hb dX6_sign_370 (by decide) (fun h7 => ?_) (fun h7 => ?_)
                      · have e9 := ts9 (fun q => h7 ((b2i_0 _).mpr q))
                        refine pb_blk B.hx B.hb (lv' := [(8, .int sx), (7, .int (b2i hit)), (6, .int (nI (rgt at_ k j))), (5, .int (nI k)), (4, .int (b2i le3)), (3, .int (b2i no3)), (2, .int (b2i mo3)), (0, .ref mo), (1, .int (nI i))]) (st' := [.int 1]) hl bkX6_sign_378_383 rfl (fun ls hl => ?_)
                        exact J383 true ls ⟨fun _ => Or.inl e9, fun _ => rfl⟩ (lv_sub hl [0, 3, 4, 5, 6, 7, 8] rfl)
                      · have e9 : ¬ mo3 = true := fun q => by rw [q] at h7; exact absurd h7 (by decide)
                        refine pb_blk B.hx B.hb (lv' := [(8, .int sx), (7, .int (b2i hit)), (6, .int (nI (rgt at_ k j))), (5, .int (nI k)), (4, .int (b2i le3)), (3, .int (b2i no3)), (2, .int (b2i mo3)), (0, .ref mo), (1, .int (nI i))]) (st' := [.int sx]) hl bkX6_sign_373_375 rfl (fun ls hl => ?_)
                        refine lv_if_le (tgt := 382) B.hx B.hb dX6_sign_375 (by decide) (fun h8 => ?_) (fun h8 => ?_)
                        · refine pb_blk B.hx B.hb (lv' := [(8, .int sx), (7, .int (b2i hit)), (6, .int (nI (rgt at_ k j))), (5, .int (nI k)), (4, .int (b2i le3)), (3, .int (b2i no3)), (2, .int (b2i mo3)), (0, .ref mo), (1, .int (nI i))]) (st' := [.int 0]) hl bkX6_sign_382_383 rfl (fun ls hl => ?_)
                          exact J383 false ls ⟨fun q => (by cases q), fun q => q.elim (fun q => absurd q e9) (fun q => absurd h8 q)⟩ (lv_sub hl [0, 3, 4, 5, 6, 7, 8] rfl)
                        · refine pb_blk B.hx B.hb (lv' := [(8, .int sx), (7, .int (b2i hit)), (6, .int (nI (rgt at_ k j))), (5, .int (nI k)), (4, .int (b2i le3)), (3, .int (b2i no3)), (2, .int (b2i mo3)), (0, .ref mo), (1, .int (nI i))]) (st' := [.int 1]) hl bkX6_sign_378_383 rfl (fun ls hl => ?_)
                          exact J383 true ls ⟨fun _ => Or.inr h8, fun _ => rfl⟩ (lv_sub hl [0, 3, 4, 5, 6, 7, 8] rfl)
                    · have hh : (∃ a, a < j ∧ at_ a = k) := hhit.mp (ts9 (fun q => h6 ((b2i_0 _).mpr q)))
                      obtain ⟨ch, ce⟩ := cell_hit (be := be) hso hjc hat hmk hh
                      refine pb_blk B.hx B.hb (lv' := [(7, .int (b2i hit)), (6, .int (nI (rgt at_ k j))), (5, .int (nI k)), (4, .int (b2i le3)), (3, .int (b2i no3)), (2, .int (b2i mo3)), (0, .ref mo), (1, .int (nI i))]) (st' := []) hl bkX6_sign_358_416 rfl (fun ls hl => ?_)
                      exact J416 mo3 no3 le3 ls hk (by rw [exs, ← hmo, ce (fun s => ¬ s ≤ 0) (fun q => q (by decide))]; exact g1) (by rw [exs, ← hno]; exact g2.trans ⟨fun q => q.elim Or.inl (fun _ => Or.inr ch), fun q => q.elim Or.inl (fun _ => Or.inr hh)⟩) (by rw [exs, ← hle, ce (fun s => s < 0) (by decide)]; exact g3) (lv_sub hl [2, 3, 4, 5, 6, 7] rfl)
                  have loop2 : ∀ (n2 i2 : Nat) (hit : Bool) (ls : Array Slot), j + 1 ≤ i2 + n2 → i2 ≤ j → (hit = true ↔ (∃ a, a < i2 ∧ at_ a = k)) → lv_has ls 13 [(8, .int (nI i2)), (7, .int (b2i hit)), (6, .int (nI (rgt at_ k j))), (5, .int (nI k)), (4, .int (b2i le3)), (3, .int (b2i no3)), (2, .int (b2i mo3)), (0, .ref mo), (1, .int (nI i))] → W p l e (⟨4, 0, 0, 120⟩ : Room) s m ([.ref mo, .int (nI i)] : List Value).toArray below meth c H locs 0 0 (MQ below (Qm G mo (po_X6_sign mo S ct N th as (nI i))) ([.ref mo, .int (nI i)] : List Value).toArray s (⟨4, 0, 0, 120⟩ : Room).cells (⟨4, 0, 0, 120⟩ : Room).slots (FM mo)) (F0 m 301 ls []) := by
                    intro n2
                    induction n2 with
                    | zero => intro i2 hit ls h1 h2; omega
                    | succ n2 ih2 =>
                        intro i2 hit ls hn2 hi2 hhit hl
                        refine pb_blk B.hx B.hb (lv' := [(8, .int (nI i2)), (7, .int (b2i hit)), (6, .int (nI (rgt at_ k j))), (5, .int (nI k)), (4, .int (b2i le3)), (3, .int (b2i no3)), (2, .int (b2i mo3)), (0, .ref mo), (1, .int (nI i))]) (st' := [.ref mo, .int (nI i2)]) hl bkX6_sign_301_304 rfl (fun ls hl => ?_)
                        refine m_get B hw 15 (by decide) wd_F_X6_138 (congrArg some e15) dX6_sign_304 ?_
                        refine lv_icmp_ge (tgt := 353) B.hx B.hb dX6_sign_307 (by decide) (fun h6 => ?_) (fun h6 => ?_)
                        · have e9 : i2 = j := by have := nI_geN (by omega) (by omega) h6; omega
                          rw [e9] at hhit
                          exact J353 hit ls hhit (lv_sub hl [1, 2, 3, 4, 5, 6, 7, 8] rfl)
                        · have hi9 : i2 < j := by rcases Nat.lt_or_ge i2 j with g | g; exact g; exact absurd (nI_geI (by omega) (by omega) g) h6
                          have J345 : ∀ (hit4 : Bool) (ls : Array Slot), (hit4 = true ↔ (∃ a, a < i2 + 1 ∧ at_ a = k)) → lv_has ls 13 [(8, .int (nI i2)), (6, .int (nI (rgt at_ k j))), (5, .int (nI k)), (4, .int (b2i le3)), (3, .int (b2i no3)), (2, .int (b2i mo3)), (0, .ref mo), (1, .int (nI i))] → W p l e (⟨4, 0, 0, 120⟩ : Room) s m ([.ref mo, .int (nI i)] : List Value).toArray below meth c H locs 0 0 (MQ below (Qm G mo (po_X6_sign mo S ct N th as (nI i))) ([.ref mo, .int (nI i)] : List Value).toArray s (⟨4, 0, 0, 120⟩ : Room).cells (⟨4, 0, 0, 120⟩ : Room).slots (FM mo)) (F0 m 345 ls [.int (b2i hit4)]) := by
                            intro hit4 ls k1 hl
                            refine pb_blk B.hx B.hb (lv' := [(8, .int ((nI i2) + 1)), (7, .int (b2i hit4)), (6, .int (nI (rgt at_ k j))), (5, .int (nI k)), (4, .int (b2i le3)), (3, .int (b2i no3)), (2, .int (b2i mo3)), (0, .ref mo), (1, .int (nI i))]) (st' := []) hl bkX6_sign_345_301 rfl (fun ls hl => ?_)
                            exact ih2 (i2 + 1) hit4 ls (by omega) hi9 k1 (by rw [← nI_1]; exact lv_sub hl [0, 1, 2, 3, 4, 5, 6, 7, 8] rfl)
                          refine pb_blk B.hx B.hb (lv' := [(8, .int (nI i2)), (7, .int (b2i hit)), (6, .int (nI (rgt at_ k j))), (5, .int (nI k)), (4, .int (b2i le3)), (3, .int (b2i no3)), (2, .int (b2i mo3)), (0, .ref mo), (1, .int (nI i))]) (st' := [.int (b2i hit)]) hl bkX6_sign_310_312 rfl (fun ls hl => ?_)
                          refine lv_if_ne (tgt := 340) B.hx B.hb dX6_sign_312 (by decide) (fun h7 => ?_) (fun h7 => ?_)
                          · have e9 := ts9 (fun q => h7 ((b2i_0 _).mpr q))
                            refine pb_blk B.hx B.hb (lv' := [(8, .int (nI i2)), (7, .int (b2i hit)), (6, .int (nI (rgt at_ k j))), (5, .int (nI k)), (4, .int (b2i le3)), (3, .int (b2i no3)), (2, .int (b2i mo3)), (0, .ref mo), (1, .int (nI i))]) (st' := [.int 1]) hl bkX6_sign_340_345 rfl (fun ls hl => ?_)
                            exact J345 true ls ⟨fun _ => exs.mpr (Or.inl (hhit.mp e9)), fun _ => rfl⟩ (lv_sub hl [0, 2, 3, 4, 5, 6, 7, 8] rfl)
                          · have e9 : ¬ (∃ a, a < i2 ∧ at_ a = k) := fun q => by rw [hhit.mpr q] at h7; exact absurd h7 (by decide)
                            obtain ⟨pa, da, a1, a2, a3⟩ := hrow i2 hi9
                            refine pb_blk B.hx B.hb (lv' := [(8, .int (nI i2)), (7, .int (b2i hit)), (6, .int (nI (rgt at_ k j))), (5, .int (nI k)), (4, .int (b2i le3)), (3, .int (b2i no3)), (2, .int (b2i mo3)), (0, .ref mo), (1, .int (nI i))]) (st' := [.ref mo, .int 80, .ref mo]) hl bkX6_sign_315_319 rfl (fun ls hl => ?_)
                            refine m_get B hw 16 (by decide) wd_F_X6_45 rfl dX6_sign_319 ?_
                            refine pb_blk B.hx B.hb (lv' := [(8, .int (nI i2)), (7, .int (b2i hit)), (6, .int (nI (rgt at_ k j))), (5, .int (nI k)), (4, .int (b2i le3)), (3, .int (b2i no3)), (2, .int (b2i mo3)), (0, .ref mo), (1, .int (nI i))]) (st' := [.int (nI i2), .ref (mo + 12), .int 80, .ref mo]) hl bkX6_sign_322_324 rfl (fun ls hl => ?_)
                            refine m_lald B hw 12 (by decide) (by decide) rfl (vp_in_nI (show i2 < 2 by omega) (by decide)) (v := .long pa) (by rw [nI_clamp (by omega)]; exact a1) dX6_sign_324 ?_
                            refine pb_blk B.hx B.hb (lv' := [(8, .int (nI i2)), (7, .int (b2i hit)), (6, .int (nI (rgt at_ k j))), (5, .int (nI k)), (4, .int (b2i le3)), (3, .int (b2i no3)), (2, .int (b2i mo3)), (0, .ref mo), (1, .int (nI i))]) (st' := [.ref mo, .long pa, .int 80, .ref mo]) hl bkX6_sign_325_326 rfl (fun ls hl => ?_)
                            refine m_get B hw 17 (by decide) wd_F_X6_48 rfl dX6_sign_326 ?_
                            refine pb_blk B.hx B.hb (lv' := [(8, .int (nI i2)), (7, .int (b2i hit)), (6, .int (nI (rgt at_ k j))), (5, .int (nI k)), (4, .int (b2i le3)), (3, .int (b2i no3)), (2, .int (b2i mo3)), (0, .ref mo), (1, .int (nI i))]) (st' := [.int (nI i2), .ref (mo + 13), .long pa, .int 80, .ref mo]) hl bkX6_sign_329_331 rfl (fun ls hl => ?_)
                            refine m_lald B hw 13 (by decide) (by decide) rfl (vp_in_nI (show i2 < 2 by omega) (by decide)) (v := .long da) (by rw [nI_clamp (by omega)]; exact a2) dX6_sign_331 ?_
                            refine m_callN B hw (c_X6_placeOf l G (fun _ => False) mo _ _ 80 pa da (AA i2) as (by omega) hzB a3 hba (hbg i2 hi9)) cy_X6_placeOf im_X6_placeOf se_X6_placeOf wd_M_X6_208 hw.1 rfl hl.1 rfl (Nat.le_of_ble_eq_true rfl) ⟨by decide, by decide⟩ ⟨rfl, rfl⟩ ⟨Nat.le_refl _, Nat.le_refl _⟩ dX6_sign_332 (fun v hv => ?_)
                            obtain ⟨tq, rfl, hpq⟩ := hv
                            have eq9 : tq = at_ i2 := ips_uni hpq (hat i2 hi9)
                            subst eq9
                            refine pb_blk B.hx B.hb (lv' := [(8, .int (nI i2)), (7, .int (b2i hit)), (6, .int (nI (rgt at_ k j))), (5, .int (nI k)), (4, .int (b2i le3)), (3, .int (b2i no3)), (2, .int (b2i mo3)), (0, .ref mo), (1, .int (nI i))]) (st' := [.int (nI k), .int (nI (at_ i2))]) hl bkX6_sign_335_337 rfl (fun ls hl => ?_)
                            refine lv_icmp_ne (tgt := 344) B.hx B.hb dX6_sign_337 (by decide) (fun h8 => ?_) (fun h8 => ?_)
                            · have e8 : at_ i2 ≠ k := fun q => h8 (by rw [q])
                              refine pb_blk B.hx B.hb (lv' := [(8, .int (nI i2)), (7, .int (b2i hit)), (6, .int (nI (rgt at_ k j))), (5, .int (nI k)), (4, .int (b2i le3)), (3, .int (b2i no3)), (2, .int (b2i mo3)), (0, .ref mo), (1, .int (nI i))]) (st' := [.int 0]) hl bkX6_sign_344_345 rfl (fun ls hl => ?_)
                              exact J345 false ls ⟨fun q => (by cases q), fun q => (exs.mp q).elim (fun q => absurd q e9) (fun q => absurd q e8)⟩ (lv_sub hl [0, 2, 3, 4, 5, 6, 7, 8] rfl)
                            · have e8 : at_ i2 = k := (nI_eq (by have := hal i2 hi9; omega) (by omega)).mp h8
                              refine pb_blk B.hx B.hb (lv' := [(8, .int (nI i2)), (7, .int (b2i hit)), (6, .int (nI (rgt at_ k j))), (5, .int (nI k)), (4, .int (b2i le3)), (3, .int (b2i no3)), (2, .int (b2i mo3)), (0, .ref mo), (1, .int (nI i))]) (st' := [.int 1]) hl bkX6_sign_340_345 rfl (fun ls hl => ?_)
                              exact J345 true ls ⟨fun _ => exs.mpr (Or.inr e8), fun _ => rfl⟩ (lv_sub hl [0, 2, 3, 4, 5, 6, 7, 8] rfl)
                  refine pb_blk B.hx B.hb (lv' := [(8, .int 0), (7, .int 0), (6, .int (nI (rgt at_ k j))), (5, .int (nI k)), (4, .int (b2i le3)), (3, .int (b2i no3)), (2, .int (b2i mo3)), (0, .ref mo), (1, .int (nI i))]) (st' := []) hl bkX6_sign_295_301 rfl (fun ls hl => ?_)
                  exact loop2 (j + 1) 0 false ls (by omega) (Nat.zero_le _) ⟨fun q => (by cases q), fun ⟨a, h, _⟩ => absurd h (Nat.not_lt_zero _)⟩ (lv_sub hl [0, 1, 2, 3, 4, 5, 6, 7, 8] rfl)
                have loop1 : ∀ (n2 i2 : Nat) (mo3 no3 le3 : Bool) (ls : Array Slot), j + 1 ≤ i2 + n2 → i2 ≤ j → (mo3 = true ↔ (mo2 = true ∨ (k % 2 = 0 ∧ ∃ a, a < i2 ∧ at_ a = k ∧ (¬ lfS be sm j a ≤ 0 ∨ ¬ afS be sm j a ≤ 0)))) → (no3 = true ↔ (no = true ∨ ∃ a, a < i2 ∧ at_ a = k)) → (le3 = true ↔ (le = true ∨ (k % 2 = 0 ∧ ∃ a, a < i2 ∧ at_ a = k ∧ (lfS be sm j a < 0 ∨ afS be sm j a < 0)))) → lv_has ls 13 [(7, .int (nI i2)), (6, .int (nI (rgt at_ k i2))), (5, .int (nI k)), (4, .int (b2i le3)), (3, .int (b2i no3)), (2, .int (b2i mo3)), (0, .ref mo), (1, .int (nI i))] → W p l e (⟨4, 0, 0, 120⟩ : Room) s m ([.ref mo, .int (nI i)] : List Value).toArray below meth c H locs 0 0 (MQ below (Qm G mo (po_X6_sign mo S ct N th as (nI i))) ([.ref mo, .int (nI i)] : List Value).toArray s (⟨4, 0, 0, 120⟩ : Room).cells (⟨4, 0, 0, 120⟩ : Room).slots (FM mo)) (F0 m 96 ls []) := by
                  intro n2
                  induction n2 with
                  | zero => intro i2 mo3 no3 le3 ls h1 h2; omega
                  | succ n2 ih2 =>
                      intro i2 mo3 no3 le3 ls hn2 hi2 g1 g2 g3 hl
                      refine pb_blk B.hx B.hb (lv' := [(7, .int (nI i2)), (6, .int (nI (rgt at_ k i2))), (5, .int (nI k)), (4, .int (b2i le3)), (3, .int (b2i no3)), (2, .int (b2i mo3)), (0, .ref mo), (1, .int (nI i))]) (st' := [.ref mo, .int (nI i2)]) hl bkX6_sign_96_99 rfl (fun ls hl => ?_)
                      refine m_get B hw 15 (by decide) wd_F_X6_138 (congrArg some e15) dX6_sign_99 ?_
                      refine lv_icmp_ge (tgt := 295) B.hx B.hb dX6_sign_102 (by decide) (fun h6 => ?_) (fun h6 => ?_)
                      · have e9 : i2 = j := by have := nI_geN (by omega) (by omega) h6; omega
                        subst e9
                        exact J295 mo3 no3 le3 ls g1 g2 g3 (lv_sub hl [1, 2, 3, 4, 5, 6, 7] rfl)
                      · have hi9 : i2 < j := by rcases Nat.lt_or_ge i2 j with g | g; exact g; exact absurd (nI_geI (by omega) (by omega) g) h6
                        have hal9 := hal i2 hi9
                        have hrl := rgt_le at_ k i2
                        have J279 : ∀ (mo4 no4 le4 : Bool) (ls : Array Slot), (mo4 = true ↔ (mo2 = true ∨ (k % 2 = 0 ∧ ∃ a, a < i2 + 1 ∧ at_ a = k ∧ (¬ lfS be sm j a ≤ 0 ∨ ¬ afS be sm j a ≤ 0)))) → (no4 = true ↔ (no = true ∨ ∃ a, a < i2 + 1 ∧ at_ a = k)) → (le4 = true ↔ (le = true ∨ (k % 2 = 0 ∧ ∃ a, a < i2 + 1 ∧ at_ a = k ∧ (lfS be sm j a < 0 ∨ afS be sm j a < 0)))) → lv_has ls 13 [(8, .int (nI (at_ i2))), (7, .int (nI i2)), (6, .int (nI (rgt at_ k i2))), (5, .int (nI k)), (4, .int (b2i le4)), (3, .int (b2i no4)), (2, .int (b2i mo4)), (0, .ref mo), (1, .int (nI i))] → W p l e (⟨4, 0, 0, 120⟩ : Room) s m ([.ref mo, .int (nI i)] : List Value).toArray below meth c H locs 0 0 (MQ below (Qm G mo (po_X6_sign mo S ct N th as (nI i))) ([.ref mo, .int (nI i)] : List Value).toArray s (⟨4, 0, 0, 120⟩ : Room).cells (⟨4, 0, 0, 120⟩ : Room).slots (FM mo)) (F0 m 279 ls []) := by
                          intro mo4 no4 le4 ls k1 k2 k3 hl
                          refine pb_blk B.hx B.hb (lv' := [(8, .int (nI (at_ i2))), (7, .int (nI i2)), (6, .int (nI (rgt at_ k i2))), (5, .int (nI k)), (4, .int (b2i le4)), (3, .int (b2i no4)), (2, .int (b2i mo4)), (0, .ref mo), (1, .int (nI i))]) (st' := [.int (nI k), .int (nI (at_ i2))]) hl bkX6_sign_279_283 rfl (fun ls hl => ?_)
                          refine lv_icmp_le (tgt := 289) B.hx B.hb dX6_sign_283 (by decide) (fun h7 => ?_) (fun h7 => ?_)
                          · have e8 : rgt at_ k (i2 + 1) = rgt at_ k i2 := if_neg (by have := nI_geN (by omega) (by omega) h7; omega)
                            refine pb_blk B.hx B.hb (lv' := [(7, .int ((nI i2) + 1)), (8, .int (nI (at_ i2))), (6, .int (nI (rgt at_ k i2))), (5, .int (nI k)), (4, .int (b2i le4)), (3, .int (b2i no4)), (2, .int (b2i mo4)), (0, .ref mo), (1, .int (nI i))]) (st' := []) hl bkX6_sign_289_96 rfl (fun ls hl => ?_)
                            exact ih2 (i2 + 1) mo4 no4 le4 ls (by omega) hi9 k1 k2 k3 (by rw [e8, ← nI_1]; exact lv_sub hl [0, 2, 3, 4, 5, 6, 7, 8] rfl)
                          · have e8 : rgt at_ k (i2 + 1) = rgt at_ k i2 + 1 := if_pos (by rcases Nat.lt_or_ge k (at_ i2) with g | g; exact g; exact absurd (nI_geI (by omega) (by omega) g) h7)
                            refine pb_blk B.hx B.hb (lv' := [(7, .int ((nI i2) + 1)), (6, .int ((nI (rgt at_ k i2)) + 1)), (8, .int (nI (at_ i2))), (5, .int (nI k)), (4, .int (b2i le4)), (3, .int (b2i no4)), (2, .int (b2i mo4)), (0, .ref mo), (1, .int (nI i))]) (st' := []) hl bkX6_sign_286_96 rfl (fun ls hl => ?_)
                            exact ih2 (i2 + 1) mo4 no4 le4 ls (by omega) hi9 k1 k2 k3 (by rw [e8, ← nI_1, ← nI_1]; exact lv_sub hl [0, 1, 3, 4, 5, 6, 7, 8] rfl)
                        obtain ⟨pa, da, a1, a2, a3⟩ := hrow i2 hi9
                        refine pb_blk B.hx B.hb (lv' := [(7, .int (nI i2)), (6, .int (nI (rgt at_ k i2))), (5, .int (nI k)), (4, .int (b2i le3)), (3, .int (b2i no3)), (2, .int (b2i mo3)), (0, .ref mo), (1, .int (nI i))]) (st' := [.ref mo, .int 80, .ref mo]) hl bkX6_sign_105_109 rfl (fun ls hl => ?_)
                        refine m_get B hw 16 (by decide) wd_F_X6_45 rfl dX6_sign_109 ?_
                        refine pb_blk B.hx B.hb (lv' := [(7, .int (nI i2)), (6, .int (nI (rgt at_ k i2))), (5, .int (nI k)), (4, .int (b2i le3)), (3, .int (b2i no3)), (2, .int (b2i mo3)), (0, .ref mo), (1, .int (nI i))]) (st' := [.int (nI i2), .ref (mo + 12), .int 80, .ref mo]) hl bkX6_sign_112_114 rfl (fun ls hl => ?_)
                        refine m_lald B hw 12 (by decide) (by decide) rfl (vp_in_nI (show i2 < 2 by omega) (by decide)) (v := .long pa) (by rw [nI_clamp (by omega)]; exact a1) dX6_sign_114 ?_
                        refine pb_blk B.hx B.hb (lv' := [(7, .int (nI i2)), (6, .int (nI (rgt at_ k i2))), (5, .int (nI k)), (4, .int (b2i le3)), (3, .int (b2i no3)), (2, .int (b2i mo3)), (0, .ref mo), (1, .int (nI i))]) (st' := [.ref mo, .long pa, .int 80, .ref mo]) hl bkX6_sign_115_116 rfl (fun ls hl => ?_)
                        refine m_get B hw 17 (by decide) wd_F_X6_48 rfl dX6_sign_116 ?_
                        refine pb_blk B.hx B.hb (lv' := [(7, .int (nI i2)), (6, .int (nI (rgt at_ k i2))), (5, .int (nI k)), (4, .int (b2i le3)), (3, .int (b2i no3)), (2, .int (b2i mo3)), (0, .ref mo), (1, .int (nI i))]) (st' := [.int (nI i2), .ref (mo + 13), .long pa, .int 80, .ref mo]) hl bkX6_sign_119_121 rfl (fun ls hl => ?_)
                        refine m_lald B hw 13 (by decide) (by decide) rfl (vp_in_nI (show i2 < 2 by omega) (by decide)) (v := .long da) (by rw [nI_clamp (by omega)]; exact a2) dX6_sign_121 ?_
                        refine m_callN B hw (c_X6_placeOf l G (fun _ => False) mo _ _ 80 pa da (AA i2) as (by omega) hzB a3 hba (hbg i2 hi9)) cy_X6_placeOf im_X6_placeOf se_X6_placeOf wd_M_X6_208 hw.1 rfl hl.1 rfl (Nat.le_of_ble_eq_true rfl) ⟨by decide, by decide⟩ ⟨rfl, rfl⟩ ⟨Nat.le_refl _, Nat.le_refl _⟩ dX6_sign_122 (fun v hv => ?_)
                        obtain ⟨tq, rfl, hpq⟩ := hv
                        have eq9 : tq = at_ i2 := ips_uni hpq (hat i2 hi9)
                        subst eq9
                        refine pb_blk B.hx B.hb (lv' := [(8, .int (nI (at_ i2))), (7, .int (nI i2)), (6, .int (nI (rgt at_ k i2))), (5, .int (nI k)), (4, .int (b2i le3)), (3, .int (b2i no3)), (2, .int (b2i mo3)), (0, .ref mo), (1, .int (nI i))]) (st' := [.int (nI k), .int (nI (at_ i2))]) hl bkX6_sign_125_131 rfl (fun ls hl => ?_)
                        refine lv_icmp_ne (tgt := 279) B.hx B.hb dX6_sign_131 (by decide) (fun h7 => ?_) (fun h7 => ?_)
                        · have e8 : at_ i2 ≠ k := fun q => h7 (by rw [q])
                          exact J279 mo3 no3 le3 ls (g1.trans (qx_no e8)) (g2.trans ⟨fun q => q.elim Or.inl (fun q => Or.inr (exs.mpr (Or.inl q))), fun q => q.elim Or.inl (fun q => (exs.mp q).elim Or.inr (fun q => absurd q e8))⟩) (g3.trans (qx_no e8)) (lv_sub hl [0, 1, 2, 3, 4, 5, 6, 7, 8] rfl)
                        · have e8 : at_ i2 = k := (nI_eq (by omega) (by omega)).mp h7
                          have k2 : true = true ↔ (no = true ∨ ∃ a, a < i2 + 1 ∧ at_ a = k) := ⟨fun _ => Or.inr ⟨i2, by omega, e8⟩, fun _ => rfl⟩
                          refine pb_blk B.hx B.hb (lv' := [(3, .int 1), (8, .int (nI (at_ i2))), (7, .int (nI i2)), (6, .int (nI (rgt at_ k i2))), (5, .int (nI k)), (4, .int (b2i le3)), (2, .int (b2i mo3)), (0, .ref mo), (1, .int (nI i))]) (st' := [.ref mo]) hl bkX6_sign_134_137 rfl (fun ls hl => ?_)
                          refine m_get B hw 15 (by decide) wd_F_X6_138 (congrArg some e15) dX6_sign_137 ?_
                          refine pb_blk B.hx B.hb (lv' := [(9, .int (((nI j) - 1) - (nI i2))), (3, .int 1), (8, .int (nI (at_ i2))), (7, .int (nI i2)), (6, .int (nI (rgt at_ k i2))), (5, .int (nI k)), (4, .int (b2i le3)), (2, .int (b2i mo3)), (0, .ref mo), (1, .int (nI i))]) (st' := [.int 2, .int (nI k)]) hl bkX6_sign_140_150 rfl (fun ls hl => ?_)
                          rw [ix_bh hi9] at hl
                          refine lv_irem B.hx B.hb dX6_sign_150 (by decide) ?_
                          rw [show nI k - nI k / 2 * 2 = nI (k % 2) from pk_rem (a := k) (d := 2) (by omega) (by decide) (by decide)]
                          refine lv_if_ne (tgt := 279) B.hx B.hb dX6_sign_151 (by decide) (fun h8 => ?_) (fun h8 => ?_)
                          · have ho : ¬ k % 2 = 0 := fun q => h8 (by rw [q]; rfl)
                            exact J279 mo3 true le3 ls (g1.trans (qx_odd ho)) k2 (g3.trans (qx_odd ho)) (lv_sub hl [2, 3, 4, 5, 6, 1, 7, 8, 9] rfl)
                          · have he : k % 2 = 0 := (nI_eq (by omega) (by decide)).mp (show nI (k % 2) = nI 0 from h8)
                            have J277 : ∀ (mo4 le4 : Bool) (ls : Array Slot), (mo4 = true ↔ (mo2 = true ∨ (k % 2 = 0 ∧ ∃ a, a < i2 + 1 ∧ at_ a = k ∧ (¬ lfS be sm j a ≤ 0 ∨ ¬ afS be sm j a ≤ 0)))) → (le4 = true ↔ (le = true ∨ (k % 2 = 0 ∧ ∃ a, a < i2 + 1 ∧ at_ a = k ∧ (lfS be sm j a < 0 ∨ afS be sm j a < 0)))) → lv_has ls 13 [(12, .int (afS be sm j i2)), (11, .int (lfS be sm j i2)), (8, .int (nI (at_ i2))), (7, .int (nI i2)), (6, .int (nI (rgt at_ k i2))), (5, .int (nI k)), (2, .int (b2i mo4)), (0, .ref mo), (1, .int (nI i)), (3, .int (b2i true))] → W p l e (⟨4, 0, 0, 120⟩ : Room) s m ([.ref mo, .int (nI i)] : List Value).toArray below meth c H locs 0 0 (MQ below (Qm G mo (po_X6_sign mo S ct N th as (nI i))) ([.ref mo, .int (nI i)] : List Value).toArray s (⟨4, 0, 0, 120⟩ : Room).cells (⟨4, 0, 0, 120⟩ : Room).slots (FM mo)) (F0 m 277 ls [.int (b2i le4)]) := by
                              intro mo4 le4 ls k1 k3 hl
                              refine pb_blk B.hx B.hb (lv' := [(4, .int (b2i le4)), (12, .int (afS be sm j i2)), (11, .int (lfS be sm j i2)), (8, .int (nI (at_ i2))), (7, .int (nI i2)), (6, .int (nI (rgt at_ k i2))), (5, .int (nI k)), (2, .int (b2i mo4)), (0, .ref mo), (1, .int (nI i)), (3, .int (b2i true))]) (st' := []) hl bkX6_sign_277_279 rfl (fun ls hl => ?_)
                              exact J279 mo4 true le4 ls k1 k2 k3 (lv_sub hl [3, 4, 5, 6, 0, 10, 7, 8, 9] rfl)
                            have J256 : ∀ (mo4 : Bool) (ls : Array Slot), (mo4 = true ↔ (mo2 = true ∨ (k % 2 = 0 ∧ ∃ a, a < i2 + 1 ∧ at_ a = k ∧ (¬ lfS be sm j a ≤ 0 ∨ ¬ afS be sm j a ≤ 0)))) → lv_has ls 13 [(12, .int (afS be sm j i2)), (11, .int (lfS be sm j i2)), (8, .int (nI (at_ i2))), (7, .int (nI i2)), (6, .int (nI (rgt at_ k i2))), (5, .int (nI k)), (4, .int (b2i le3)), (0, .ref mo), (1, .int (nI i)), (3, .int (b2i true))] → W p l e (⟨4, 0, 0, 120⟩ : Room) s m ([.ref mo, .int (nI i)] : List Value).toArray below meth c H locs 0 0 (MQ below (Qm G mo (po_X6_sign mo S ct N th as (nI i))) ([.ref mo, .int (nI i)] : List Value).toArray s (⟨4, 0, 0, 120⟩ : Room).cells (⟨4, 0, 0, 120⟩ : Room).slots (FM mo)) (F0 m 256 ls [.int (b2i mo4)]) := by
                              intro mo4 ls k1 hl
                              refine pb_blk B.hx B.hb (lv' := [(2, .int (b2i mo4)), (12, .int (afS be sm j i2)), (11, .int (lfS be sm j i2)), (8, .int (nI (at_ i2))), (7, .int (nI i2)), (6, .int (nI (rgt at_ k i2))), (5, .int (nI k)), (4, .int (b2i le3)), (0, .ref mo), (1, .int (nI i)), (3, .int (b2i true))]) (st' := [.int (b2i le3)]) hl bkX6_sign_256_259 rfl (fun ls hl => ?_)
                              refine lv_if_ne (tgt := 272) B.hx B.hb dX6_sign_259 (by decide) (fun h9 => ?_) (fun h9 => ?_)
                              · have e9 := ts9 (fun q => h9 ((b2i_0 _).mpr q))
                                refine pb_blk B.hx B.hb (lv' := [(2, .int (b2i mo4)), (12, .int (afS be sm j i2)), (11, .int (lfS be sm j i2)), (8, .int (nI (at_ i2))), (7, .int (nI i2)), (6, .int (nI (rgt at_ k i2))), (5, .int (nI k)), (4, .int (b2i le3)), (0, .ref mo), (1, .int (nI i)), (3, .int (b2i true))]) (st' := [.int 1]) hl bkX6_sign_272_277 rfl (fun ls hl => ?_)
                                exact J277 mo4 true ls k1 (qx_t (g3.mp e9)) (lv_sub hl [1, 2, 3, 4, 5, 6, 0, 8, 9, 10] rfl)
                              · have e9 : ¬ le3 = true := fun q => by rw [q] at h9; exact absurd h9 (by decide)
                                refine pb_blk B.hx B.hb (lv' := [(2, .int (b2i mo4)), (12, .int (afS be sm j i2)), (11, .int (lfS be sm j i2)), (8, .int (nI (at_ i2))), (7, .int (nI i2)), (6, .int (nI (rgt at_ k i2))), (5, .int (nI k)), (4, .int (b2i le3)), (0, .ref mo), (1, .int (nI i)), (3, .int (b2i true))]) (st' := [.int (lfS be sm j i2)]) hl bkX6_sign_262_264 rfl (fun ls hl => ?_)
                                refine lv_if_lt (tgt := 272) B.hx B.hb dX6_sign_264 (by decide) (fun h10 => ?_) (fun h10 => ?_)
                                · refine pb_blk B.hx B.hb (lv' := [(2, .int (b2i mo4)), (12, .int (afS be sm j i2)), (11, .int (lfS be sm j i2)), (8, .int (nI (at_ i2))), (7, .int (nI i2)), (6, .int (nI (rgt at_ k i2))), (5, .int (nI k)), (4, .int (b2i le3)), (0, .ref mo), (1, .int (nI i)), (3, .int (b2i true))]) (st' := [.int 1]) hl bkX6_sign_272_277 rfl (fun ls hl => ?_)
                                  exact J277 mo4 true ls k1 (qx_i he e8 (Or.inl h10)) (lv_sub hl [1, 2, 3, 4, 5, 6, 0, 8, 9, 10] rfl)
                                · refine pb_blk B.hx B.hb (lv' := [(2, .int (b2i mo4)), (12, .int (afS be sm j i2)), (11, .int (lfS be sm j i2)), (8, .int (nI (at_ i2))), (7, .int (nI i2)), (6, .int (nI (rgt at_ k i2))), (5, .int (nI k)), (4, .int (b2i le3)), (0, .ref mo), (1, .int (nI i)), (3, .int (b2i true))]) (st' := [.int (afS be sm j i2)]) hl bkX6_sign_267_269 rfl (fun ls hl => ?_)
                                  refine lv_if_ge (tgt := 276) B.hx B.hb dX6_sign_269 (by decide) (fun h11 => ?_) (fun h11 => ?_)
                                  · have e7 : ¬ afS be sm j i2 < 0 := fun q => by rw [Int32.lt_iff_toInt_lt] at q; rw [Int32.le_iff_toInt_le] at h11; omega
                                    refine pb_blk B.hx B.hb (lv' := [(2, .int (b2i mo4)), (12, .int (afS be sm j i2)), (11, .int (lfS be sm j i2)), (8, .int (nI (at_ i2))), (7, .int (nI i2)), (6, .int (nI (rgt at_ k i2))), (5, .int (nI k)), (4, .int (b2i le3)), (0, .ref mo), (1, .int (nI i)), (3, .int (b2i true))]) (st' := [.int 0]) hl bkX6_sign_276_277 rfl (fun ls hl => ?_)
                                    exact J277 mo4 false ls k1 (qx_f g3 e9 h10 e7) (lv_sub hl [1, 2, 3, 4, 5, 6, 0, 8, 9, 10] rfl)
                                  · have e7 : afS be sm j i2 < 0 := by rw [Int32.lt_iff_toInt_lt]; rw [Int32.le_iff_toInt_le] at h11; omega
                                    refine pb_blk B.hx B.hb (lv' := [(2, .int (b2i mo4)), (12, .int (afS be sm j i2)), (11, .int (lfS be sm j i2)), (8, .int (nI (at_ i2))), (7, .int (nI i2)), (6, .int (nI (rgt at_ k i2))), (5, .int (nI k)), (4, .int (b2i le3)), (0, .ref mo), (1, .int (nI i)), (3, .int (b2i true))]) (st' := [.int 1]) hl bkX6_sign_272_277 rfl (fun ls hl => ?_)
                                    exact J277 mo4 true ls k1 (qx_i he e8 (Or.inr e7)) (lv_sub hl [1, 2, 3, 4, 5, 6, 0, 8, 9, 10] rfl)
                            have J199 : ∀ (b : Bool) (ls : Array Slot), b = sm → lv_has ls 13 [(9, .int (nI (j - 1 - i2))), (8, .int (nI (at_ i2))), (7, .int (nI i2)), (6, .int (nI (rgt at_ k i2))), (5, .int (nI k)), (4, .int (b2i le3)), (3, .int (b2i true)), (2, .int (b2i mo3)), (0, .ref mo), (1, .int (nI i))] → W p l e (⟨4, 0, 0, 120⟩ : Room) s m ([.ref mo, .int (nI i)] : List Value).toArray below meth c H locs 0 0 (MQ below (Qm G mo (po_X6_sign mo S ct N th as (nI i))) ([.ref mo, .int (nI i)] : List Value).toArray s (⟨4, 0, 0, 120⟩ : Room).cells (⟨4, 0, 0, 120⟩ : Room).slots (FM mo)) (F0 m 199 ls [.int (b2i b)]) := by
                              intro b ls hb hl
                              cases b
                              · refine pb_blk B.hx B.hb (lv' := [(10, .int 0), (9, .int (nI (j - 1 - i2))), (8, .int (nI (at_ i2))), (7, .int (nI i2)), (6, .int (nI (rgt at_ k i2))), (5, .int (nI k)), (4, .int (b2i le3)), (3, .int (b2i true)), (2, .int (b2i mo3)), (0, .ref mo), (1, .int (nI i))]) (st' := [.int 0, .ref mo]) hl bkX6_sign_199_204 rfl (fun ls hl => ?_)
                                refine lv_if_eq (tgt := 211) B.hx B.hb dX6_sign_204 (by decide) (fun h9 => ?_) (fun h9 => absurd h9 (by decide))
                                refine pb_blk B.hx B.hb (lv' := [(10, .int 0), (9, .int (nI (j - 1 - i2))), (8, .int (nI (at_ i2))), (7, .int (nI i2)), (6, .int (nI (rgt at_ k i2))), (5, .int (nI k)), (4, .int (b2i le3)), (3, .int (b2i true)), (2, .int (b2i mo3)), (0, .ref mo), (1, .int (nI i))]) (st' := [.int ((nI (j - 1 - i2)) + 1), .ref mo]) hl bkX6_sign_211_215 rfl (fun ls hl => ?_)
                                rw [nI_1]
                                refine m_callN B hw (c_X6_signBefore l G (fun _ => False) mo _ _ (j - 1 - i2 + 1) be (by omega) e18) cy_X6_signBefore im_X6_signBefore se_X6_signBefore wd_M_X6_171 hw.1 rfl hl.1 rfl (Nat.le_of_ble_eq_true rfl) ⟨by decide, by decide⟩ ⟨rfl, rfl⟩ ⟨Nat.le_refl _, Nat.le_refl _⟩ dX6_sign_215 (fun v hv => ?_)
                                have hv : v = some (.int (lfS be sm j i2)) := by rw [← hb]; exact hv
                                subst hv
                                refine pb_blk B.hx B.hb (lv' := [(11, .int (lfS be sm j i2)), (10, .int 0), (9, .int (nI (j - 1 - i2))), (8, .int (nI (at_ i2))), (7, .int (nI i2)), (6, .int (nI (rgt at_ k i2))), (5, .int (nI k)), (4, .int (b2i le3)), (3, .int (b2i true)), (2, .int (b2i mo3)), (0, .ref mo), (1, .int (nI i))]) (st' := [.int 0, .ref mo]) hl bkX6_sign_218_223 rfl (fun ls hl => ?_)
                                refine lv_if_eq (tgt := 230) B.hx B.hb dX6_sign_223 (by decide) (fun h9 => ?_) (fun h9 => absurd h9 (by decide))
                                refine pb_blk B.hx B.hb (lv' := [(11, .int (lfS be sm j i2)), (10, .int 0), (9, .int (nI (j - 1 - i2))), (8, .int (nI (at_ i2))), (7, .int (nI i2)), (6, .int (nI (rgt at_ k i2))), (5, .int (nI k)), (4, .int (b2i le3)), (3, .int (b2i true)), (2, .int (b2i mo3)), (0, .ref mo), (1, .int (nI i))]) (st' := [.int (nI (j - 1 - i2)), .ref mo]) hl bkX6_sign_230_232 rfl (fun ls hl => ?_)
                                refine m_callN B hw (c_X6_signBefore l G (fun _ => False) mo _ _ (j - 1 - i2) be (by omega) e18) cy_X6_signBefore im_X6_signBefore se_X6_signBefore wd_M_X6_171 hw.1 rfl hl.1 rfl (Nat.le_of_ble_eq_true rfl) ⟨by decide, by decide⟩ ⟨rfl, rfl⟩ ⟨Nat.le_refl _, Nat.le_refl _⟩ dX6_sign_232 (fun v hv => ?_)
                                have hv : v = some (.int (afS be sm j i2)) := by rw [← hb]; exact hv
                                subst hv
                                refine pb_blk B.hx B.hb (lv' := [(12, .int (afS be sm j i2)), (11, .int (lfS be sm j i2)), (10, .int 0), (9, .int (nI (j - 1 - i2))), (8, .int (nI (at_ i2))), (7, .int (nI i2)), (6, .int (nI (rgt at_ k i2))), (5, .int (nI k)), (4, .int (b2i le3)), (3, .int (b2i true)), (2, .int (b2i mo3)), (0, .ref mo), (1, .int (nI i))]) (st' := [.int (b2i mo3)]) hl bkX6_sign_235_238 rfl (fun ls hl => ?_)
                                refine lv_if_ne (tgt := 251) B.hx B.hb dX6_sign_238 (by decide) (fun h9 => ?_) (fun h9 => ?_)
                                · have e9 := ts9 (fun q => h9 ((b2i_0 _).mpr q))
                                  refine pb_blk B.hx B.hb (lv' := [(12, .int (afS be sm j i2)), (11, .int (lfS be sm j i2)), (10, .int 0), (9, .int (nI (j - 1 - i2))), (8, .int (nI (at_ i2))), (7, .int (nI i2)), (6, .int (nI (rgt at_ k i2))), (5, .int (nI k)), (4, .int (b2i le3)), (3, .int (b2i true)), (2, .int (b2i mo3)), (0, .ref mo), (1, .int (nI i))]) (st' := [.int 1]) hl bkX6_sign_251_256 rfl (fun ls hl => ?_)
                                  exact J256 true ls (qx_t (g1.mp e9)) (lv_sub hl [0, 1, 4, 5, 6, 7, 8, 11, 12, 9] rfl)
                                · have e9 : ¬ mo3 = true := fun q => by rw [q] at h9; exact absurd h9 (by decide)
                                  refine pb_blk B.hx B.hb (lv' := [(12, .int (afS be sm j i2)), (11, .int (lfS be sm j i2)), (10, .int 0), (9, .int (nI (j - 1 - i2))), (8, .int (nI (at_ i2))), (7, .int (nI i2)), (6, .int (nI (rgt at_ k i2))), (5, .int (nI k)), (4, .int (b2i le3)), (3, .int (b2i true)), (2, .int (b2i mo3)), (0, .ref mo), (1, .int (nI i))]) (st' := [.int (lfS be sm j i2)]) hl bkX6_sign_241_243 rfl (fun ls hl => ?_)
                                  refine lv_if_gt (tgt := 251) B.hx B.hb dX6_sign_243 (by decide) (fun h10 => ?_) (fun h10 => ?_)
                                  · have e7 : ¬ lfS be sm j i2 ≤ 0 := fun q => by rw [Int32.le_iff_toInt_le] at q; rw [Int32.lt_iff_toInt_lt] at h10; omega
                                    refine pb_blk B.hx B.hb (lv' := [(12, .int (afS be sm j i2)), (11, .int (lfS be sm j i2)), (10, .int 0), (9, .int (nI (j - 1 - i2))), (8, .int (nI (at_ i2))), (7, .int (nI i2)), (6, .int (nI (rgt at_ k i2))), (5, .int (nI k)), (4, .int (b2i le3)), (3, .int (b2i true)), (2, .int (b2i mo3)), (0, .ref mo), (1, .int (nI i))]) (st' := [.int 1]) hl bkX6_sign_251_256 rfl (fun ls hl => ?_)
                                    exact J256 true ls (qx_i he e8 (Or.inl e7)) (lv_sub hl [0, 1, 4, 5, 6, 7, 8, 11, 12, 9] rfl)
                                  · have e7 : ¬ ¬ lfS be sm j i2 ≤ 0 := fun q => q (by rw [Int32.lt_iff_toInt_lt] at h10; rw [Int32.le_iff_toInt_le]; omega)
                                    refine pb_blk B.hx B.hb (lv' := [(12, .int (afS be sm j i2)), (11, .int (lfS be sm j i2)), (10, .int 0), (9, .int (nI (j - 1 - i2))), (8, .int (nI (at_ i2))), (7, .int (nI i2)), (6, .int (nI (rgt at_ k i2))), (5, .int (nI k)), (4, .int (b2i le3)), (3, .int (b2i true)), (2, .int (b2i mo3)), (0, .ref mo), (1, .int (nI i))]) (st' := [.int (afS be sm j i2)]) hl bkX6_sign_246_248 rfl (fun ls hl => ?_)
                                    refine lv_if_le (tgt := 255) B.hx B.hb dX6_sign_248 (by decide) (fun h11 => ?_) (fun h11 => ?_)
                                    · refine pb_blk B.hx B.hb (lv' := [(12, .int (afS be sm j i2)), (11, .int (lfS be sm j i2)), (10, .int 0), (9, .int (nI (j - 1 - i2))), (8, .int (nI (at_ i2))), (7, .int (nI i2)), (6, .int (nI (rgt at_ k i2))), (5, .int (nI k)), (4, .int (b2i le3)), (3, .int (b2i true)), (2, .int (b2i mo3)), (0, .ref mo), (1, .int (nI i))]) (st' := [.int 0]) hl bkX6_sign_255_256 rfl (fun ls hl => ?_)
                                      exact J256 false ls (qx_f g1 e9 e7 (not_not_intro h11)) (lv_sub hl [0, 1, 4, 5, 6, 7, 8, 11, 12, 9] rfl)
                                    · refine pb_blk B.hx B.hb (lv' := [(12, .int (afS be sm j i2)), (11, .int (lfS be sm j i2)), (10, .int 0), (9, .int (nI (j - 1 - i2))), (8, .int (nI (at_ i2))), (7, .int (nI i2)), (6, .int (nI (rgt at_ k i2))), (5, .int (nI k)), (4, .int (b2i le3)), (3, .int (b2i true)), (2, .int (b2i mo3)), (0, .ref mo), (1, .int (nI i))]) (st' := [.int 1]) hl bkX6_sign_251_256 rfl (fun ls hl => ?_)
                                      exact J256 true ls (qx_i he e8 (Or.inr h11)) (lv_sub hl [0, 1, 4, 5, 6, 7, 8, 11, 12, 9] rfl)
                              · refine pb_blk B.hx B.hb (lv' := [(10, .int 1), (9, .int (nI (j - 1 - i2))), (8, .int (nI (at_ i2))), (7, .int (nI i2)), (6, .int (nI (rgt at_ k i2))), (5, .int (nI k)), (4, .int (b2i le3)), (3, .int (b2i true)), (2, .int (b2i mo3)), (0, .ref mo), (1, .int (nI i))]) (st' := [.int 1, .ref mo]) hl bkX6_sign_199_204 rfl (fun ls hl => ?_)
                                refine lv_if_eq (tgt := 211) B.hx B.hb dX6_sign_204 (by decide) (fun h9 => absurd h9 (by decide)) (fun h9 => ?_)
                                refine pb_blk B.hx B.hb (lv' := [(10, .int 1), (9, .int (nI (j - 1 - i2))), (8, .int (nI (at_ i2))), (7, .int (nI i2)), (6, .int (nI (rgt at_ k i2))), (5, .int (nI k)), (4, .int (b2i le3)), (3, .int (b2i true)), (2, .int (b2i mo3)), (0, .ref mo), (1, .int (nI i))]) (st' := [.int 2, .ref mo]) hl bkX6_sign_207_215 rfl (fun ls hl => ?_)
                                refine m_callN B hw (c_X6_signBefore l G (fun _ => False) mo _ _ 2 be (by omega) e18) cy_X6_signBefore im_X6_signBefore se_X6_signBefore wd_M_X6_171 hw.1 rfl hl.1 rfl (Nat.le_of_ble_eq_true rfl) ⟨by decide, by decide⟩ ⟨rfl, rfl⟩ ⟨Nat.le_refl _, Nat.le_refl _⟩ dX6_sign_215 (fun v hv => ?_)
                                have hv : v = some (.int (lfS be sm j i2)) := by rw [← hb]; exact hv
                                subst hv
                                refine pb_blk B.hx B.hb (lv' := [(11, .int (lfS be sm j i2)), (10, .int 1), (9, .int (nI (j - 1 - i2))), (8, .int (nI (at_ i2))), (7, .int (nI i2)), (6, .int (nI (rgt at_ k i2))), (5, .int (nI k)), (4, .int (b2i le3)), (3, .int (b2i true)), (2, .int (b2i mo3)), (0, .ref mo), (1, .int (nI i))]) (st' := [.int 1, .ref mo]) hl bkX6_sign_218_223 rfl (fun ls hl => ?_)
                                refine lv_if_eq (tgt := 230) B.hx B.hb dX6_sign_223 (by decide) (fun h9 => absurd h9 (by decide)) (fun h9 => ?_)
                                refine pb_blk B.hx B.hb (lv' := [(11, .int (lfS be sm j i2)), (10, .int 1), (9, .int (nI (j - 1 - i2))), (8, .int (nI (at_ i2))), (7, .int (nI i2)), (6, .int (nI (rgt at_ k i2))), (5, .int (nI k)), (4, .int (b2i le3)), (3, .int (b2i true)), (2, .int (b2i mo3)), (0, .ref mo), (1, .int (nI i))]) (st' := [.int 0, .ref mo]) hl bkX6_sign_226_232 rfl (fun ls hl => ?_)
                                refine m_callN B hw (c_X6_signBefore l G (fun _ => False) mo _ _ 0 be (by omega) e18) cy_X6_signBefore im_X6_signBefore se_X6_signBefore wd_M_X6_171 hw.1 rfl hl.1 rfl (Nat.le_of_ble_eq_true rfl) ⟨by decide, by decide⟩ ⟨rfl, rfl⟩ ⟨Nat.le_refl _, Nat.le_refl _⟩ dX6_sign_232 (fun v hv => ?_)
                                have hv : v = some (.int (afS be sm j i2)) := by rw [← hb]; exact hv
                                subst hv
                                refine pb_blk B.hx B.hb (lv' := [(12, .int (afS be sm j i2)), (11, .int (lfS be sm j i2)), (10, .int 1), (9, .int (nI (j - 1 - i2))), (8, .int (nI (at_ i2))), (7, .int (nI i2)), (6, .int (nI (rgt at_ k i2))), (5, .int (nI k)), (4, .int (b2i le3)), (3, .int (b2i true)), (2, .int (b2i mo3)), (0, .ref mo), (1, .int (nI i))]) (st' := [.int (b2i mo3)]) hl bkX6_sign_235_238 rfl (fun ls hl => ?_)
                                refine lv_if_ne (tgt := 251) B.hx B.hb dX6_sign_238 (by decide) (fun h9 => ?_) (fun h9 => ?_)
                                · have e9 := ts9 (fun q => h9 ((b2i_0 _).mpr q))
                                  refine pb_blk B.hx B.hb (lv' := [(12, .int (afS be sm j i2)), (11, .int (lfS be sm j i2)), (10, .int 1), (9, .int (nI (j - 1 - i2))), (8, .int (nI (at_ i2))), (7, .int (nI i2)), (6, .int (nI (rgt at_ k i2))), (5, .int (nI k)), (4, .int (b2i le3)), (3, .int (b2i true)), (2, .int (b2i mo3)), (0, .ref mo), (1, .int (nI i))]) (st' := [.int 1]) hl bkX6_sign_251_256 rfl (fun ls hl => ?_)
                                  exact J256 true ls (qx_t (g1.mp e9)) (lv_sub hl [0, 1, 4, 5, 6, 7, 8, 11, 12, 9] rfl)
                                · have e9 : ¬ mo3 = true := fun q => by rw [q] at h9; exact absurd h9 (by decide)
                                  refine pb_blk B.hx B.hb (lv' := [(12, .int (afS be sm j i2)), (11, .int (lfS be sm j i2)), (10, .int 1), (9, .int (nI (j - 1 - i2))), (8, .int (nI (at_ i2))), (7, .int (nI i2)), (6, .int (nI (rgt at_ k i2))), (5, .int (nI k)), (4, .int (b2i le3)), (3, .int (b2i true)), (2, .int (b2i mo3)), (0, .ref mo), (1, .int (nI i))]) (st' := [.int (lfS be sm j i2)]) hl bkX6_sign_241_243 rfl (fun ls hl => ?_)
                                  refine lv_if_gt (tgt := 251) B.hx B.hb dX6_sign_243 (by decide) (fun h10 => ?_) (fun h10 => ?_)
                                  · have e7 : ¬ lfS be sm j i2 ≤ 0 := fun q => by rw [Int32.le_iff_toInt_le] at q; rw [Int32.lt_iff_toInt_lt] at h10; omega
                                    refine pb_blk B.hx B.hb (lv' := [(12, .int (afS be sm j i2)), (11, .int (lfS be sm j i2)), (10, .int 1), (9, .int (nI (j - 1 - i2))), (8, .int (nI (at_ i2))), (7, .int (nI i2)), (6, .int (nI (rgt at_ k i2))), (5, .int (nI k)), (4, .int (b2i le3)), (3, .int (b2i true)), (2, .int (b2i mo3)), (0, .ref mo), (1, .int (nI i))]) (st' := [.int 1]) hl bkX6_sign_251_256 rfl (fun ls hl => ?_)
                                    exact J256 true ls (qx_i he e8 (Or.inl e7)) (lv_sub hl [0, 1, 4, 5, 6, 7, 8, 11, 12, 9] rfl)
                                  · have e7 : ¬ ¬ lfS be sm j i2 ≤ 0 := fun q => q (by rw [Int32.lt_iff_toInt_lt] at h10; rw [Int32.le_iff_toInt_le]; omega)
                                    refine pb_blk B.hx B.hb (lv' := [(12, .int (afS be sm j i2)), (11, .int (lfS be sm j i2)), (10, .int 1), (9, .int (nI (j - 1 - i2))), (8, .int (nI (at_ i2))), (7, .int (nI i2)), (6, .int (nI (rgt at_ k i2))), (5, .int (nI k)), (4, .int (b2i le3)), (3, .int (b2i true)), (2, .int (b2i mo3)), (0, .ref mo), (1, .int (nI i))]) (st' := [.int (afS be sm j i2)]) hl bkX6_sign_246_248 rfl (fun ls hl => ?_)
                                    refine lv_if_le (tgt := 255) B.hx B.hb dX6_sign_248 (by decide) (fun h11 => ?_) (fun h11 => ?_)
                                    · refine pb_blk B.hx B.hb (lv' := [(12, .int (afS be sm j i2)), (11, .int (lfS be sm j i2)), (10, .int 1), (9, .int (nI (j - 1 - i2))), (8, .int (nI (at_ i2))), (7, .int (nI i2)), (6, .int (nI (rgt at_ k i2))), (5, .int (nI k)), (4, .int (b2i le3)), (3, .int (b2i true)), (2, .int (b2i mo3)), (0, .ref mo), (1, .int (nI i))]) (st' := [.int 0]) hl bkX6_sign_255_256 rfl (fun ls hl => ?_)
                                      exact J256 false ls (qx_f g1 e9 e7 (not_not_intro h11)) (lv_sub hl [0, 1, 4, 5, 6, 7, 8, 11, 12, 9] rfl)
                                    · refine pb_blk B.hx B.hb (lv' := [(12, .int (afS be sm j i2)), (11, .int (lfS be sm j i2)), (10, .int 1), (9, .int (nI (j - 1 - i2))), (8, .int (nI (at_ i2))), (7, .int (nI i2)), (6, .int (nI (rgt at_ k i2))), (5, .int (nI k)), (4, .int (b2i le3)), (3, .int (b2i true)), (2, .int (b2i mo3)), (0, .ref mo), (1, .int (nI i))]) (st' := [.int 1]) hl bkX6_sign_251_256 rfl (fun ls hl => ?_)
                                      exact J256 true ls (qx_i he e8 (Or.inr h11)) (lv_sub hl [0, 1, 4, 5, 6, 7, 8, 11, 12, 9] rfl)
                            refine pb_blk B.hx B.hb (lv' := [(9, .int (nI (j - 1 - i2))), (3, .int 1), (8, .int (nI (at_ i2))), (7, .int (nI i2)), (6, .int (nI (rgt at_ k i2))), (5, .int (nI k)), (4, .int (b2i le3)), (2, .int (b2i mo3)), (0, .ref mo), (1, .int (nI i))]) (st' := [.ref mo]) hl bkX6_sign_154_155 rfl (fun ls hl => ?_)
                            refine m_get B hw 15 (by decide) wd_F_X6_138 (congrArg some e15) dX6_sign_155 ?_
                            refine pb_blk B.hx B.hb (lv' := [(9, .int (nI (j - 1 - i2))), (3, .int 1), (8, .int (nI (at_ i2))), (7, .int (nI i2)), (6, .int (nI (rgt at_ k i2))), (5, .int (nI k)), (4, .int (b2i le3)), (2, .int (b2i mo3)), (0, .ref mo), (1, .int (nI i))]) (st' := [.int 2, .int (nI j)]) hl bkX6_sign_158_159 rfl (fun ls hl => ?_)
                            refine lv_icmp_ne (tgt := 198) B.hx B.hb dX6_sign_159 (by decide) (fun h9 => ?_) (fun h9 => ?_)
                            · have es : false = sm := by cases e : sm; rfl; exact absurd (by rw [(hsm.mp e).1]; rfl) h9
                              refine pb_blk B.hx B.hb (lv' := [(9, .int (nI (j - 1 - i2))), (3, .int 1), (8, .int (nI (at_ i2))), (7, .int (nI i2)), (6, .int (nI (rgt at_ k i2))), (5, .int (nI k)), (4, .int (b2i le3)), (2, .int (b2i mo3)), (0, .ref mo), (1, .int (nI i))]) (st' := [.int 0]) hl bkX6_sign_198_199 rfl (fun ls hl => ?_)
                              exact J199 false ls es (lv_sub hl [0, 2, 3, 4, 5, 6, 1, 7, 8, 9] rfl)
                            · have ej2 : j = 2 := (nI_eq (by omega) (by decide)).mp (show nI j = nI 2 from h9)
                              obtain ⟨n0, d0, w0, v0, fx0⟩ := hrow 0 (by omega)
                              obtain ⟨n1, d1, w1, v1, fx1⟩ := hrow 1 (by omega)
                              have hfe := fx_eq fx0 fx1
                              refine pb_blk B.hx B.hb (lv' := [(9, .int (nI (j - 1 - i2))), (3, .int 1), (8, .int (nI (at_ i2))), (7, .int (nI i2)), (6, .int (nI (rgt at_ k i2))), (5, .int (nI k)), (4, .int (b2i le3)), (2, .int (b2i mo3)), (0, .ref mo), (1, .int (nI i))]) (st' := [.ref mo]) hl bkX6_sign_162_163 rfl (fun ls hl => ?_)
                              refine m_get B hw 16 (by decide) wd_F_X6_45 rfl dX6_sign_163 ?_
                              refine pb_blk B.hx B.hb (lv' := [(9, .int (nI (j - 1 - i2))), (3, .int 1), (8, .int (nI (at_ i2))), (7, .int (nI i2)), (6, .int (nI (rgt at_ k i2))), (5, .int (nI k)), (4, .int (b2i le3)), (2, .int (b2i mo3)), (0, .ref mo), (1, .int (nI i))]) (st' := [.int 0, .ref (mo + 12)]) hl bkX6_sign_166_167 rfl (fun ls hl => ?_)
                              refine m_lald B hw 12 (by decide) (by decide) rfl (show vp_in (nI 0) 2 from vp_in_nI (by decide) (by decide)) (v := .long n0) (by rw [show (0 : Int32).toNatClampNeg = 0 from by decide]; exact w0) dX6_sign_167 ?_
                              refine pb_blk B.hx B.hb (lv' := [(9, .int (nI (j - 1 - i2))), (3, .int 1), (8, .int (nI (at_ i2))), (7, .int (nI i2)), (6, .int (nI (rgt at_ k i2))), (5, .int (nI k)), (4, .int (b2i le3)), (2, .int (b2i mo3)), (0, .ref mo), (1, .int (nI i))]) (st' := [.ref mo, .long n0]) hl bkX6_sign_168_169 rfl (fun ls hl => ?_)
                              refine m_get B hw 16 (by decide) wd_F_X6_45 rfl dX6_sign_169 ?_
                              refine pb_blk B.hx B.hb (lv' := [(9, .int (nI (j - 1 - i2))), (3, .int 1), (8, .int (nI (at_ i2))), (7, .int (nI i2)), (6, .int (nI (rgt at_ k i2))), (5, .int (nI k)), (4, .int (b2i le3)), (2, .int (b2i mo3)), (0, .ref mo), (1, .int (nI i))]) (st' := [.int 1, .ref (mo + 12), .long n0]) hl bkX6_sign_172_173 rfl (fun ls hl => ?_)
                              refine m_lald B hw 12 (by decide) (by decide) rfl (show vp_in (nI 1) 2 from vp_in_nI (by decide) (by decide)) (v := .long n1) (by rw [show (1 : Int32).toNatClampNeg = 1 from by decide]; exact w1) dX6_sign_173 ?_
                              refine pb_blk B.hx B.hb (lv' := [(9, .int (nI (j - 1 - i2))), (3, .int 1), (8, .int (nI (at_ i2))), (7, .int (nI i2)), (6, .int (nI (rgt at_ k i2))), (5, .int (nI k)), (4, .int (b2i le3)), (2, .int (b2i mo3)), (0, .ref mo), (1, .int (nI i))]) (st' := [.int (lg_cmp n0 n1)]) hl bkX6_sign_174_175 rfl (fun ls hl => ?_)
                              refine lv_if_ne (tgt := 198) B.hx B.hb dX6_sign_175 (by decide) (fun h10 => ?_) (fun h10 => ?_)
                              · have es : false = sm := by cases e : sm; rfl; exact absurd (hfe.mpr (hsm.mp e).2) (fun q => h10 ((lg_cmp_eq _ _).mpr q.1))
                                refine pb_blk B.hx B.hb (lv' := [(9, .int (nI (j - 1 - i2))), (3, .int 1), (8, .int (nI (at_ i2))), (7, .int (nI i2)), (6, .int (nI (rgt at_ k i2))), (5, .int (nI k)), (4, .int (b2i le3)), (2, .int (b2i mo3)), (0, .ref mo), (1, .int (nI i))]) (st' := [.int 0]) hl bkX6_sign_198_199 rfl (fun ls hl => ?_)
                                exact J199 false ls es (lv_sub hl [0, 2, 3, 4, 5, 6, 1, 7, 8, 9] rfl)
                              · have en := (lg_cmp_eq _ _).mp h10
                                refine pb_blk B.hx B.hb (lv' := [(9, .int (nI (j - 1 - i2))), (3, .int 1), (8, .int (nI (at_ i2))), (7, .int (nI i2)), (6, .int (nI (rgt at_ k i2))), (5, .int (nI k)), (4, .int (b2i le3)), (2, .int (b2i mo3)), (0, .ref mo), (1, .int (nI i))]) (st' := [.ref mo]) hl bkX6_sign_178_179 rfl (fun ls hl => ?_)
                                refine m_get B hw 17 (by decide) wd_F_X6_48 rfl dX6_sign_179 ?_
                                refine pb_blk B.hx B.hb (lv' := [(9, .int (nI (j - 1 - i2))), (3, .int 1), (8, .int (nI (at_ i2))), (7, .int (nI i2)), (6, .int (nI (rgt at_ k i2))), (5, .int (nI k)), (4, .int (b2i le3)), (2, .int (b2i mo3)), (0, .ref mo), (1, .int (nI i))]) (st' := [.int 0, .ref (mo + 13)]) hl bkX6_sign_182_183 rfl (fun ls hl => ?_)
                                refine m_lald B hw 13 (by decide) (by decide) rfl (show vp_in (nI 0) 2 from vp_in_nI (by decide) (by decide)) (v := .long d0) (by rw [show (0 : Int32).toNatClampNeg = 0 from by decide]; exact v0) dX6_sign_183 ?_
                                refine pb_blk B.hx B.hb (lv' := [(9, .int (nI (j - 1 - i2))), (3, .int 1), (8, .int (nI (at_ i2))), (7, .int (nI i2)), (6, .int (nI (rgt at_ k i2))), (5, .int (nI k)), (4, .int (b2i le3)), (2, .int (b2i mo3)), (0, .ref mo), (1, .int (nI i))]) (st' := [.ref mo, .long d0]) hl bkX6_sign_184_185 rfl (fun ls hl => ?_)
                                refine m_get B hw 17 (by decide) wd_F_X6_48 rfl dX6_sign_185 ?_
                                refine pb_blk B.hx B.hb (lv' := [(9, .int (nI (j - 1 - i2))), (3, .int 1), (8, .int (nI (at_ i2))), (7, .int (nI i2)), (6, .int (nI (rgt at_ k i2))), (5, .int (nI k)), (4, .int (b2i le3)), (2, .int (b2i mo3)), (0, .ref mo), (1, .int (nI i))]) (st' := [.int 1, .ref (mo + 13), .long d0]) hl bkX6_sign_188_189 rfl (fun ls hl => ?_)
                                refine m_lald B hw 13 (by decide) (by decide) rfl (show vp_in (nI 1) 2 from vp_in_nI (by decide) (by decide)) (v := .long d1) (by rw [show (1 : Int32).toNatClampNeg = 1 from by decide]; exact v1) dX6_sign_189 ?_
                                refine pb_blk B.hx B.hb (lv' := [(9, .int (nI (j - 1 - i2))), (3, .int 1), (8, .int (nI (at_ i2))), (7, .int (nI i2)), (6, .int (nI (rgt at_ k i2))), (5, .int (nI k)), (4, .int (b2i le3)), (2, .int (b2i mo3)), (0, .ref mo), (1, .int (nI i))]) (st' := [.int (lg_cmp d0 d1)]) hl bkX6_sign_190_191 rfl (fun ls hl => ?_)
                                refine lv_if_ne (tgt := 198) B.hx B.hb dX6_sign_191 (by decide) (fun h11 => ?_) (fun h11 => ?_)
                                · have es : false = sm := by cases e : sm; rfl; exact absurd (hfe.mpr (hsm.mp e).2) (fun q => h11 ((lg_cmp_eq _ _).mpr q.2))
                                  refine pb_blk B.hx B.hb (lv' := [(9, .int (nI (j - 1 - i2))), (3, .int 1), (8, .int (nI (at_ i2))), (7, .int (nI i2)), (6, .int (nI (rgt at_ k i2))), (5, .int (nI k)), (4, .int (b2i le3)), (2, .int (b2i mo3)), (0, .ref mo), (1, .int (nI i))]) (st' := [.int 0]) hl bkX6_sign_198_199 rfl (fun ls hl => ?_)
                                  exact J199 false ls es (lv_sub hl [0, 2, 3, 4, 5, 6, 1, 7, 8, 9] rfl)
                                · have es : true = sm := (hsm.mpr ⟨ej2, hfe.mp ⟨en, (lg_cmp_eq _ _).mp h11⟩⟩).symm
                                  refine pb_blk B.hx B.hb (lv' := [(9, .int (nI (j - 1 - i2))), (3, .int 1), (8, .int (nI (at_ i2))), (7, .int (nI i2)), (6, .int (nI (rgt at_ k i2))), (5, .int (nI k)), (4, .int (b2i le3)), (2, .int (b2i mo3)), (0, .ref mo), (1, .int (nI i))]) (st' := [.int 1]) hl bkX6_sign_194_199 rfl (fun ls hl => ?_)
                                  exact J199 true ls es (lv_sub hl [0, 2, 3, 4, 5, 6, 1, 7, 8, 9] rfl)
                refine pb_blk B.hx B.hb (lv' := [(7, .int 0), (6, .int 0), (5, .int (nI k)), (4, .int (b2i le)), (3, .int (b2i no)), (2, .int (b2i mo2)), (0, .ref mo), (1, .int (nI i))]) (st' := []) hl bkX6_sign_90_96 rfl (fun ls hl => ?_)
                exact loop1 (j + 1) 0 mo2 no le ls (by omega) (Nat.zero_le _) qx_0 ⟨Or.inl, fun q => q.elim id (fun ⟨a, h, _⟩ => absurd h (Nat.not_lt_zero _))⟩ qx_0 (lv_sub hl [0, 1, 2, 3, 4, 5, 6, 7] rfl)
              refine pb_blk B.hx B.hb (lv' := [(5, .int (nI k)), (4, .int (b2i le)), (3, .int (b2i no)), (2, .int (b2i mo2)), (0, .ref mo), (1, .int (nI i))]) (st' := [.ref mo, .int 2, .int (nI k)]) hl bkX6_sign_62_66 rfl (fun ls hl => ?_)
              refine m_get B hw 5 (by decide) wd_F_X6_20 rfl dX6_sign_66 ?_
              refine pb_blk B.hx B.hb (lv' := [(5, .int (nI k)), (4, .int (b2i le)), (3, .int (b2i no)), (2, .int (b2i mo2)), (0, .ref mo), (1, .int (nI i))]) (st' := [.int 80, .ref (mo + 4), .int 2, .int (nI k)]) hl bkX6_sign_69_71 rfl (fun ls hl => ?_)
              refine m_iald B hw 4 (by decide) (by decide) rfl (show vp_in (nI 80) 82 from vp_in_nI (by decide) (by decide)) (v := .int (nI as.1)) (by rw [show (80 : Int32).toNatClampNeg = 80 from by decide]; exact hzB.2.1) dX6_sign_71 ?_
              refine pb_blk B.hx B.hb (lv' := [(5, .int (nI k)), (4, .int (b2i le)), (3, .int (b2i no)), (2, .int (b2i mo2)), (0, .ref mo), (1, .int (nI i))]) (st' := [.int (2 * (nI as.1)), .int (nI k)]) hl bkX6_sign_72_73 rfl (fun ls hl => ?_)
              rw [ix0]
              refine lv_icmp_gt (tgt := 422) B.hx B.hb dX6_sign_73 (by decide) (fun h6 => ?_) (fun h6 => ?_)
              · have e9 : k = 2 * as.1 + 1 := by rcases Nat.lt_or_ge (2 * as.1) k with g | g; omega; exact absurd (show nI (2 * as.1) < nI k from h6) (k4_nlt (nI_geI (by omega) (by omega) g))
                rw [e9] at hmo hno hle
                have hone := sg_one hso hne hmo hno hle
                obtain ⟨m1, m2, m3⟩ := sg_meets hso han hmo hno hle
                have hsv := sgV_of hone
                clear hmo hno hle hone ih J416 J90
                cases mo2 <;> cases no <;> cases le
                · refine pb_blk B.hx B.hb (lv' := [(5, .int (nI k)), (4, .int 0), (3, .int 0), (2, .int 0), (0, .ref mo), (1, .int (nI i))]) (st' := [.int 0]) hl bkX6_sign_422_423 rfl (fun ls hl => ?_)
                  refine lv_if_eq (tgt := 439) B.hx B.hb dX6_sign_423 (by decide) (fun h7 => ?_) (fun h7 => absurd h7 (by decide))
                  refine pb_blk B.hx B.hb (lv' := [(5, .int (nI k)), (4, .int 0), (3, .int 0), (2, .int 0), (0, .ref mo), (1, .int (nI i))]) (st' := [.int 0]) hl bkX6_sign_439_441 rfl (fun ls hl => ?_)
                  refine lv_if_eq (tgt := 456) B.hx B.hb dX6_sign_441 (by decide) (fun h7 => ?_) (fun h7 => absurd h7 (by decide))
                  refine pb_blk B.hx B.hb (lv' := [(5, .int (nI k)), (4, .int 0), (3, .int 0), (2, .int 0), (0, .ref mo), (1, .int (nI i))]) (st' := [.int 0]) hl bkX6_sign_456_457 rfl (fun ls hl => ?_)
                  refine lv_if_eq (tgt := 473) B.hx B.hb dX6_sign_457 (by decide) (fun h7 => ?_) (fun h7 => absurd h7 (by decide))
                  refine pb_blk B.hx B.hb (lv' := [(5, .int (nI k)), (4, .int 0), (3, .int 0), (2, .int 0), (0, .ref mo), (1, .int (nI i))]) (st' := [.int 2]) hl bkX6_sign_473_474 rfl (fun ls hl => ?_)
                  exact m_iret (v := 2) B hw dX6_sign_474 (by exact ⟨0, _, _, Or.inr ⟨i, hi, rfl, Or.inr ⟨u, hu, Or.inr ⟨n, pt, sg, htl, rfl, _, _, _, m1, m2, m3, rfl⟩⟩⟩, e0c, rfl, fun _ => hsv.symm, hPb⟩) (Nat.le_of_ble_eq_true rfl) (Nat.le_of_ble_eq_true rfl)
                · refine pb_blk B.hx B.hb (lv' := [(5, .int (nI k)), (4, .int 1), (3, .int 0), (2, .int 0), (0, .ref mo), (1, .int (nI i))]) (st' := [.int 0]) hl bkX6_sign_422_423 rfl (fun ls hl => ?_)
                  refine lv_if_eq (tgt := 439) B.hx B.hb dX6_sign_423 (by decide) (fun h7 => ?_) (fun h7 => absurd h7 (by decide))
                  refine pb_blk B.hx B.hb (lv' := [(5, .int (nI k)), (4, .int 1), (3, .int 0), (2, .int 0), (0, .ref mo), (1, .int (nI i))]) (st' := [.int 1]) hl bkX6_sign_439_441 rfl (fun ls hl => ?_)
                  refine lv_if_eq (tgt := 456) B.hx B.hb dX6_sign_441 (by decide) (fun h7 => absurd h7 (by decide)) (fun h7 => ?_)
                  refine pb_blk B.hx B.hb (lv' := [(5, .int (nI k)), (4, .int 1), (3, .int 0), (2, .int 0), (0, .ref mo), (1, .int (nI i))]) (st' := [.int 0]) hl bkX6_sign_444_445 rfl (fun ls hl => ?_)
                  refine lv_if_ne (tgt := 456) B.hx B.hb dX6_sign_445 (by decide) (fun h7 => absurd h7 (by decide)) (fun h7 => ?_)
                  refine pb_blk B.hx B.hb (lv' := [(5, .int (nI k)), (4, .int 1), (3, .int 0), (2, .int 0), (0, .ref mo), (1, .int (nI i))]) (st' := [.int 0]) hl bkX6_sign_448_449 rfl (fun ls hl => ?_)
                  refine lv_if_ne (tgt := 456) B.hx B.hb dX6_sign_449 (by decide) (fun h7 => absurd h7 (by decide)) (fun h7 => ?_)
                  refine pb_blk B.hx B.hb (lv' := [(5, .int (nI k)), (4, .int 1), (3, .int 0), (2, .int 0), (0, .ref mo), (1, .int (nI i))]) (st' := [.int (-1)]) hl bkX6_sign_452_474 rfl (fun ls hl => ?_)
                  exact m_iret (v := (-1)) B hw dX6_sign_474 (by exact ⟨0, _, _, Or.inr ⟨i, hi, rfl, Or.inr ⟨u, hu, Or.inr ⟨n, pt, sg, htl, rfl, _, _, _, m1, m2, m3, rfl⟩⟩⟩, e0c, rfl, fun _ => hsv.symm, hPb⟩) (Nat.le_of_ble_eq_true rfl) (Nat.le_of_ble_eq_true rfl)
                · refine pb_blk B.hx B.hb (lv' := [(5, .int (nI k)), (4, .int 0), (3, .int 1), (2, .int 0), (0, .ref mo), (1, .int (nI i))]) (st' := [.int 0]) hl bkX6_sign_422_423 rfl (fun ls hl => ?_)
                  refine lv_if_eq (tgt := 439) B.hx B.hb dX6_sign_423 (by decide) (fun h7 => ?_) (fun h7 => absurd h7 (by decide))
                  refine pb_blk B.hx B.hb (lv' := [(5, .int (nI k)), (4, .int 0), (3, .int 1), (2, .int 0), (0, .ref mo), (1, .int (nI i))]) (st' := [.int 0]) hl bkX6_sign_439_441 rfl (fun ls hl => ?_)
                  refine lv_if_eq (tgt := 456) B.hx B.hb dX6_sign_441 (by decide) (fun h7 => ?_) (fun h7 => absurd h7 (by decide))
                  refine pb_blk B.hx B.hb (lv' := [(5, .int (nI k)), (4, .int 0), (3, .int 1), (2, .int 0), (0, .ref mo), (1, .int (nI i))]) (st' := [.int 1]) hl bkX6_sign_456_457 rfl (fun ls hl => ?_)
                  refine lv_if_eq (tgt := 473) B.hx B.hb dX6_sign_457 (by decide) (fun h7 => absurd h7 (by decide)) (fun h7 => ?_)
                  refine pb_blk B.hx B.hb (lv' := [(5, .int (nI k)), (4, .int 0), (3, .int 1), (2, .int 0), (0, .ref mo), (1, .int (nI i))]) (st' := [.int 0]) hl bkX6_sign_460_461 rfl (fun ls hl => ?_)
                  refine lv_if_ne (tgt := 473) B.hx B.hb dX6_sign_461 (by decide) (fun h7 => absurd h7 (by decide)) (fun h7 => ?_)
                  refine pb_blk B.hx B.hb (lv' := [(5, .int (nI k)), (4, .int 0), (3, .int 1), (2, .int 0), (0, .ref mo), (1, .int (nI i))]) (st' := [.int 0]) hl bkX6_sign_464_466 rfl (fun ls hl => ?_)
                  refine lv_if_ne (tgt := 473) B.hx B.hb dX6_sign_466 (by decide) (fun h7 => absurd h7 (by decide)) (fun h7 => ?_)
                  refine pb_blk B.hx B.hb (lv' := [(5, .int (nI k)), (4, .int 0), (3, .int 1), (2, .int 0), (0, .ref mo), (1, .int (nI i))]) (st' := [.int 0]) hl bkX6_sign_469_474 rfl (fun ls hl => ?_)
                  exact m_iret (v := 0) B hw dX6_sign_474 (by exact ⟨0, _, _, Or.inr ⟨i, hi, rfl, Or.inr ⟨u, hu, Or.inr ⟨n, pt, sg, htl, rfl, _, _, _, m1, m2, m3, rfl⟩⟩⟩, e0c, rfl, fun _ => hsv.symm, hPb⟩) (Nat.le_of_ble_eq_true rfl) (Nat.le_of_ble_eq_true rfl)
                · refine pb_blk B.hx B.hb (lv' := [(5, .int (nI k)), (4, .int 1), (3, .int 1), (2, .int 0), (0, .ref mo), (1, .int (nI i))]) (st' := [.int 0]) hl bkX6_sign_422_423 rfl (fun ls hl => ?_)
                  refine lv_if_eq (tgt := 439) B.hx B.hb dX6_sign_423 (by decide) (fun h7 => ?_) (fun h7 => absurd h7 (by decide))
                  refine pb_blk B.hx B.hb (lv' := [(5, .int (nI k)), (4, .int 1), (3, .int 1), (2, .int 0), (0, .ref mo), (1, .int (nI i))]) (st' := [.int 1]) hl bkX6_sign_439_441 rfl (fun ls hl => ?_)
                  refine lv_if_eq (tgt := 456) B.hx B.hb dX6_sign_441 (by decide) (fun h7 => absurd h7 (by decide)) (fun h7 => ?_)
                  refine pb_blk B.hx B.hb (lv' := [(5, .int (nI k)), (4, .int 1), (3, .int 1), (2, .int 0), (0, .ref mo), (1, .int (nI i))]) (st' := [.int 1]) hl bkX6_sign_444_445 rfl (fun ls hl => ?_)
                  refine lv_if_ne (tgt := 456) B.hx B.hb dX6_sign_445 (by decide) (fun h7 => ?_) (fun h7 => absurd h7 (by decide))
                  refine pb_blk B.hx B.hb (lv' := [(5, .int (nI k)), (4, .int 1), (3, .int 1), (2, .int 0), (0, .ref mo), (1, .int (nI i))]) (st' := [.int 1]) hl bkX6_sign_456_457 rfl (fun ls hl => ?_)
                  refine lv_if_eq (tgt := 473) B.hx B.hb dX6_sign_457 (by decide) (fun h7 => absurd h7 (by decide)) (fun h7 => ?_)
                  refine pb_blk B.hx B.hb (lv' := [(5, .int (nI k)), (4, .int 1), (3, .int 1), (2, .int 0), (0, .ref mo), (1, .int (nI i))]) (st' := [.int 0]) hl bkX6_sign_460_461 rfl (fun ls hl => ?_)
                  refine lv_if_ne (tgt := 473) B.hx B.hb dX6_sign_461 (by decide) (fun h7 => absurd h7 (by decide)) (fun h7 => ?_)
                  refine pb_blk B.hx B.hb (lv' := [(5, .int (nI k)), (4, .int 1), (3, .int 1), (2, .int 0), (0, .ref mo), (1, .int (nI i))]) (st' := [.int 1]) hl bkX6_sign_464_466 rfl (fun ls hl => ?_)
                  refine lv_if_ne (tgt := 473) B.hx B.hb dX6_sign_466 (by decide) (fun h7 => ?_) (fun h7 => absurd h7 (by decide))
                  refine pb_blk B.hx B.hb (lv' := [(5, .int (nI k)), (4, .int 1), (3, .int 1), (2, .int 0), (0, .ref mo), (1, .int (nI i))]) (st' := [.int 2]) hl bkX6_sign_473_474 rfl (fun ls hl => ?_)
                  exact m_iret (v := 2) B hw dX6_sign_474 (by exact ⟨0, _, _, Or.inr ⟨i, hi, rfl, Or.inr ⟨u, hu, Or.inr ⟨n, pt, sg, htl, rfl, _, _, _, m1, m2, m3, rfl⟩⟩⟩, e0c, rfl, fun _ => hsv.symm, hPb⟩) (Nat.le_of_ble_eq_true rfl) (Nat.le_of_ble_eq_true rfl)
                · refine pb_blk B.hx B.hb (lv' := [(5, .int (nI k)), (4, .int 0), (3, .int 0), (2, .int 1), (0, .ref mo), (1, .int (nI i))]) (st' := [.int 1]) hl bkX6_sign_422_423 rfl (fun ls hl => ?_)
                  refine lv_if_eq (tgt := 439) B.hx B.hb dX6_sign_423 (by decide) (fun h7 => absurd h7 (by decide)) (fun h7 => ?_)
                  refine pb_blk B.hx B.hb (lv' := [(5, .int (nI k)), (4, .int 0), (3, .int 0), (2, .int 1), (0, .ref mo), (1, .int (nI i))]) (st' := [.int 0]) hl bkX6_sign_426_427 rfl (fun ls hl => ?_)
                  refine lv_if_ne (tgt := 439) B.hx B.hb dX6_sign_427 (by decide) (fun h7 => absurd h7 (by decide)) (fun h7 => ?_)
                  refine pb_blk B.hx B.hb (lv' := [(5, .int (nI k)), (4, .int 0), (3, .int 0), (2, .int 1), (0, .ref mo), (1, .int (nI i))]) (st' := [.int 0]) hl bkX6_sign_430_432 rfl (fun ls hl => ?_)
                  refine lv_if_ne (tgt := 439) B.hx B.hb dX6_sign_432 (by decide) (fun h7 => absurd h7 (by decide)) (fun h7 => ?_)
                  refine pb_blk B.hx B.hb (lv' := [(5, .int (nI k)), (4, .int 0), (3, .int 0), (2, .int 1), (0, .ref mo), (1, .int (nI i))]) (st' := [.int 1]) hl bkX6_sign_435_474 rfl (fun ls hl => ?_)
                  exact m_iret (v := 1) B hw dX6_sign_474 (by exact ⟨0, _, _, Or.inr ⟨i, hi, rfl, Or.inr ⟨u, hu, Or.inr ⟨n, pt, sg, htl, rfl, _, _, _, m1, m2, m3, rfl⟩⟩⟩, e0c, rfl, fun _ => hsv.symm, hPb⟩) (Nat.le_of_ble_eq_true rfl) (Nat.le_of_ble_eq_true rfl)
                · refine pb_blk B.hx B.hb (lv' := [(5, .int (nI k)), (4, .int 1), (3, .int 0), (2, .int 1), (0, .ref mo), (1, .int (nI i))]) (st' := [.int 1]) hl bkX6_sign_422_423 rfl (fun ls hl => ?_)
                  refine lv_if_eq (tgt := 439) B.hx B.hb dX6_sign_423 (by decide) (fun h7 => absurd h7 (by decide)) (fun h7 => ?_)
                  refine pb_blk B.hx B.hb (lv' := [(5, .int (nI k)), (4, .int 1), (3, .int 0), (2, .int 1), (0, .ref mo), (1, .int (nI i))]) (st' := [.int 0]) hl bkX6_sign_426_427 rfl (fun ls hl => ?_)
                  refine lv_if_ne (tgt := 439) B.hx B.hb dX6_sign_427 (by decide) (fun h7 => absurd h7 (by decide)) (fun h7 => ?_)
                  refine pb_blk B.hx B.hb (lv' := [(5, .int (nI k)), (4, .int 1), (3, .int 0), (2, .int 1), (0, .ref mo), (1, .int (nI i))]) (st' := [.int 1]) hl bkX6_sign_430_432 rfl (fun ls hl => ?_)
                  refine lv_if_ne (tgt := 439) B.hx B.hb dX6_sign_432 (by decide) (fun h7 => ?_) (fun h7 => absurd h7 (by decide))
                  refine pb_blk B.hx B.hb (lv' := [(5, .int (nI k)), (4, .int 1), (3, .int 0), (2, .int 1), (0, .ref mo), (1, .int (nI i))]) (st' := [.int 1]) hl bkX6_sign_439_441 rfl (fun ls hl => ?_)
                  refine lv_if_eq (tgt := 456) B.hx B.hb dX6_sign_441 (by decide) (fun h7 => absurd h7 (by decide)) (fun h7 => ?_)
                  refine pb_blk B.hx B.hb (lv' := [(5, .int (nI k)), (4, .int 1), (3, .int 0), (2, .int 1), (0, .ref mo), (1, .int (nI i))]) (st' := [.int 0]) hl bkX6_sign_444_445 rfl (fun ls hl => ?_)
                  refine lv_if_ne (tgt := 456) B.hx B.hb dX6_sign_445 (by decide) (fun h7 => absurd h7 (by decide)) (fun h7 => ?_)
                  refine pb_blk B.hx B.hb (lv' := [(5, .int (nI k)), (4, .int 1), (3, .int 0), (2, .int 1), (0, .ref mo), (1, .int (nI i))]) (st' := [.int 1]) hl bkX6_sign_448_449 rfl (fun ls hl => ?_)
                  refine lv_if_ne (tgt := 456) B.hx B.hb dX6_sign_449 (by decide) (fun h7 => ?_) (fun h7 => absurd h7 (by decide))
                  refine pb_blk B.hx B.hb (lv' := [(5, .int (nI k)), (4, .int 1), (3, .int 0), (2, .int 1), (0, .ref mo), (1, .int (nI i))]) (st' := [.int 0]) hl bkX6_sign_456_457 rfl (fun ls hl => ?_)
                  refine lv_if_eq (tgt := 473) B.hx B.hb dX6_sign_457 (by decide) (fun h7 => ?_) (fun h7 => absurd h7 (by decide))
                  refine pb_blk B.hx B.hb (lv' := [(5, .int (nI k)), (4, .int 1), (3, .int 0), (2, .int 1), (0, .ref mo), (1, .int (nI i))]) (st' := [.int 2]) hl bkX6_sign_473_474 rfl (fun ls hl => ?_)
                  exact m_iret (v := 2) B hw dX6_sign_474 (by exact ⟨0, _, _, Or.inr ⟨i, hi, rfl, Or.inr ⟨u, hu, Or.inr ⟨n, pt, sg, htl, rfl, _, _, _, m1, m2, m3, rfl⟩⟩⟩, e0c, rfl, fun _ => hsv.symm, hPb⟩) (Nat.le_of_ble_eq_true rfl) (Nat.le_of_ble_eq_true rfl)
                · refine pb_blk B.hx B.hb (lv' := [(5, .int (nI k)), (4, .int 0), (3, .int 1), (2, .int 1), (0, .ref mo), (1, .int (nI i))]) (st' := [.int 1]) hl bkX6_sign_422_423 rfl (fun ls hl => ?_)
                  refine lv_if_eq (tgt := 439) B.hx B.hb dX6_sign_423 (by decide) (fun h7 => absurd h7 (by decide)) (fun h7 => ?_)
                  refine pb_blk B.hx B.hb (lv' := [(5, .int (nI k)), (4, .int 0), (3, .int 1), (2, .int 1), (0, .ref mo), (1, .int (nI i))]) (st' := [.int 1]) hl bkX6_sign_426_427 rfl (fun ls hl => ?_)
                  refine lv_if_ne (tgt := 439) B.hx B.hb dX6_sign_427 (by decide) (fun h7 => ?_) (fun h7 => absurd h7 (by decide))
                  refine pb_blk B.hx B.hb (lv' := [(5, .int (nI k)), (4, .int 0), (3, .int 1), (2, .int 1), (0, .ref mo), (1, .int (nI i))]) (st' := [.int 0]) hl bkX6_sign_439_441 rfl (fun ls hl => ?_)
                  refine lv_if_eq (tgt := 456) B.hx B.hb dX6_sign_441 (by decide) (fun h7 => ?_) (fun h7 => absurd h7 (by decide))
                  refine pb_blk B.hx B.hb (lv' := [(5, .int (nI k)), (4, .int 0), (3, .int 1), (2, .int 1), (0, .ref mo), (1, .int (nI i))]) (st' := [.int 1]) hl bkX6_sign_456_457 rfl (fun ls hl => ?_)
                  refine lv_if_eq (tgt := 473) B.hx B.hb dX6_sign_457 (by decide) (fun h7 => absurd h7 (by decide)) (fun h7 => ?_)
                  refine pb_blk B.hx B.hb (lv' := [(5, .int (nI k)), (4, .int 0), (3, .int 1), (2, .int 1), (0, .ref mo), (1, .int (nI i))]) (st' := [.int 1]) hl bkX6_sign_460_461 rfl (fun ls hl => ?_)
                  refine lv_if_ne (tgt := 473) B.hx B.hb dX6_sign_461 (by decide) (fun h7 => ?_) (fun h7 => absurd h7 (by decide))
                  refine pb_blk B.hx B.hb (lv' := [(5, .int (nI k)), (4, .int 0), (3, .int 1), (2, .int 1), (0, .ref mo), (1, .int (nI i))]) (st' := [.int 2]) hl bkX6_sign_473_474 rfl (fun ls hl => ?_)
                  exact m_iret (v := 2) B hw dX6_sign_474 (by exact ⟨0, _, _, Or.inr ⟨i, hi, rfl, Or.inr ⟨u, hu, Or.inr ⟨n, pt, sg, htl, rfl, _, _, _, m1, m2, m3, rfl⟩⟩⟩, e0c, rfl, fun _ => hsv.symm, hPb⟩) (Nat.le_of_ble_eq_true rfl) (Nat.le_of_ble_eq_true rfl)
                · refine pb_blk B.hx B.hb (lv' := [(5, .int (nI k)), (4, .int 1), (3, .int 1), (2, .int 1), (0, .ref mo), (1, .int (nI i))]) (st' := [.int 1]) hl bkX6_sign_422_423 rfl (fun ls hl => ?_)
                  refine lv_if_eq (tgt := 439) B.hx B.hb dX6_sign_423 (by decide) (fun h7 => absurd h7 (by decide)) (fun h7 => ?_)
                  refine pb_blk B.hx B.hb (lv' := [(5, .int (nI k)), (4, .int 1), (3, .int 1), (2, .int 1), (0, .ref mo), (1, .int (nI i))]) (st' := [.int 1]) hl bkX6_sign_426_427 rfl (fun ls hl => ?_)
                  refine lv_if_ne (tgt := 439) B.hx B.hb dX6_sign_427 (by decide) (fun h7 => ?_) (fun h7 => absurd h7 (by decide))
                  refine pb_blk B.hx B.hb (lv' := [(5, .int (nI k)), (4, .int 1), (3, .int 1), (2, .int 1), (0, .ref mo), (1, .int (nI i))]) (st' := [.int 1]) hl bkX6_sign_439_441 rfl (fun ls hl => ?_)
                  refine lv_if_eq (tgt := 456) B.hx B.hb dX6_sign_441 (by decide) (fun h7 => absurd h7 (by decide)) (fun h7 => ?_)
                  refine pb_blk B.hx B.hb (lv' := [(5, .int (nI k)), (4, .int 1), (3, .int 1), (2, .int 1), (0, .ref mo), (1, .int (nI i))]) (st' := [.int 1]) hl bkX6_sign_444_445 rfl (fun ls hl => ?_)
                  refine lv_if_ne (tgt := 456) B.hx B.hb dX6_sign_445 (by decide) (fun h7 => ?_) (fun h7 => absurd h7 (by decide))
                  refine pb_blk B.hx B.hb (lv' := [(5, .int (nI k)), (4, .int 1), (3, .int 1), (2, .int 1), (0, .ref mo), (1, .int (nI i))]) (st' := [.int 1]) hl bkX6_sign_456_457 rfl (fun ls hl => ?_)
                  refine lv_if_eq (tgt := 473) B.hx B.hb dX6_sign_457 (by decide) (fun h7 => absurd h7 (by decide)) (fun h7 => ?_)
                  refine pb_blk B.hx B.hb (lv' := [(5, .int (nI k)), (4, .int 1), (3, .int 1), (2, .int 1), (0, .ref mo), (1, .int (nI i))]) (st' := [.int 1]) hl bkX6_sign_460_461 rfl (fun ls hl => ?_)
                  refine lv_if_ne (tgt := 473) B.hx B.hb dX6_sign_461 (by decide) (fun h7 => ?_) (fun h7 => absurd h7 (by decide))
                  refine pb_blk B.hx B.hb (lv' := [(5, .int (nI k)), (4, .int 1), (3, .int 1), (2, .int 1), (0, .ref mo), (1, .int (nI i))]) (st' := [.int 2]) hl bkX6_sign_473_474 rfl (fun ls hl => ?_)
                  exact m_iret (v := 2) B hw dX6_sign_474 (by exact ⟨0, _, _, Or.inr ⟨i, hi, rfl, Or.inr ⟨u, hu, Or.inr ⟨n, pt, sg, htl, rfl, _, _, _, m1, m2, m3, rfl⟩⟩⟩, e0c, rfl, fun _ => hsv.symm, hPb⟩) (Nat.le_of_ble_eq_true rfl) (Nat.le_of_ble_eq_true rfl)
              · have hk9 : k < 2 * as.1 + 1 := by rcases Nat.lt_or_ge (2 * as.1) k with g | g; exact absurd ((nI_ltI (by omega) (by omega)).mpr g) h6; omega
                refine pb_blk B.hx B.hb (lv' := [(5, .int (nI k)), (4, .int (b2i le)), (3, .int (b2i no)), (2, .int (b2i mo2)), (0, .ref mo), (1, .int (nI i))]) (st' := [.int (nI k), .int 80, .ref mo]) hl bkX6_sign_76_81 rfl (fun ls hl => ?_)
                refine m_callN B hw (c_X6_mark l G (fun _ => False) mo _ _ 80 k (as.2.2 k) (by omega) (hzB.2.2.2 k hk9)) cy_X6_mark im_X6_mark se_X6_mark wd_M_X6_161 hw.1 rfl hl.1 rfl (Nat.le_of_ble_eq_true rfl) ⟨by decide, by decide⟩ ⟨rfl, rfl⟩ ⟨Nat.le_refl _, Nat.le_refl _⟩ dX6_sign_81 (fun v hv => ?_)
                rw [po_X6_mark] at hv
                subst hv
                refine lv_if_ne (tgt := 90) B.hx B.hb dX6_sign_84 (by decide) (fun h7 => ?_) (fun h7 => ?_)
                · have e9 := ts9 (fun q => h7 ((b2i_0 _).mpr q))
                  exact J90 ls hk9 e9 hl
                · have e9 : as.2.2 k = false := (b2i_0 _).mp h7
                  refine pb_blk B.hx B.hb (lv' := [(5, .int (nI k)), (4, .int (b2i le)), (3, .int (b2i no)), (2, .int (b2i mo2)), (0, .ref mo), (1, .int (nI i))]) (st' := []) hl bkX6_sign_87_416 rfl (fun ls hl => ?_)
                  exact J416 mo2 no le ls hk9 (hmo.trans (ex_off (cell_off e9))) (hno.trans (ex_off (cell_off e9))) (hle.trans (ex_off (cell_off e9))) hl
        refine pb_blk B.hx B.hb (lv' := [(5, .int 0), (4, .int 0), (3, .int 0), (2, .int 0), (0, .ref mo), (1, .int (nI i))]) (st' := []) hl bkX6_sign_52_62 rfl (fun ls hl => ?_)
        exact loop (2 * as.1 + 2) 0 false false false ls (by omega) (Nat.zero_le _) ex_0 ex_0 ex_0 (lv_sub hl [0, 1, 2, 3, 4, 5] rfl)
    · have y3 : ¬ ∃ u, th i = .inl u := fun q => by rw [ht3.mpr q] at h3; exact absurd h3 (by decide)
      refine pb_blk B.hx B.hb (lv' := [(0, .ref mo), (1, .int (nI i))]) (st' := [.int 2, .ref mo]) hl bkX6_sign_21_26 rfl (fun ls hl => ?_)
      refine m_put B hw 0 (by decide) wd_F_X6_63 rfl rfl rfl rfl dX6_sign_26 (fun H locs hw => ?_)
      refine pb_blk B.hx B.hb (lv' := [(0, .ref mo), (1, .int (nI i))]) (st' := [.ref mo]) hl bkX6_sign_29_30 rfl (fun ls hl => ?_)
      refine m_get B hw 0 (by decide) wd_F_X6_63 (congrArg some (show _ = (.int 2 : Value) from rfl)) dX6_sign_30 ?_
      refine lv_if_le (tgt := 38) B.hx B.hb dX6_sign_33 (by decide) (fun h => absurd h (by decide)) (fun _ => ?_)
      refine pb_blk B.hx B.hb (lv' := [(0, .ref mo), (1, .int (nI i))]) (st' := [.int 0]) hl bkX6_sign_36_37 rfl (fun ls hl => ?_)
      exact m_iret (v := 0) B hw dX6_sign_37 (by exact ⟨2, 0, 0, Or.inr ⟨i, hi, rfl, Or.inl ⟨rfl, y3⟩⟩, rfl, rfl, fun _ => rfl, hP.ag rfl Ag.rf⟩) (Nat.le_of_ble_eq_true rfl) (Nat.le_of_ble_eq_true rfl)
  · have y1 : ¬ Tr N f0 := fun q => by rw [ht1.mpr q] at h1; exact absurd h1 (by decide)
    refine pb_blk B.hx B.hb (lv' := [(0, .ref mo), (1, .int f0)]) (st' := [.int 1, .ref mo]) hl bkX6_sign_9_26 rfl (fun ls hl => ?_)
    refine m_put B hw 0 (by decide) wd_F_X6_63 rfl rfl rfl rfl dX6_sign_26 (fun H locs hw => ?_)
    refine pb_blk B.hx B.hb (lv' := [(0, .ref mo), (1, .int f0)]) (st' := [.ref mo]) hl bkX6_sign_29_30 rfl (fun ls hl => ?_)
    refine m_get B hw 0 (by decide) wd_F_X6_63 (congrArg some (show _ = (.int 1 : Value) from rfl)) dX6_sign_30 ?_
    refine lv_if_le (tgt := 38) B.hx B.hb dX6_sign_33 (by decide) (fun h => absurd h (by decide)) (fun _ => ?_)
    refine pb_blk B.hx B.hb (lv' := [(0, .ref mo), (1, .int f0)]) (st' := [.int 0]) hl bkX6_sign_36_37 rfl (fun ls hl => ?_)
    exact m_iret (v := 0) B hw dX6_sign_37 (by exact ⟨1, 0, 0, Or.inl ⟨rfl, y1⟩, rfl, rfl, fun _ => rfl, hP.ag rfl Ag.rf⟩) (Nat.le_of_ble_eq_true rfl) (Nat.le_of_ble_eq_true rfl)

