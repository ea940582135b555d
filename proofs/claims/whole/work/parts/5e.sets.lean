/-! how many places there are -/
theorem srt_len : ∀ (U : List Rat) (n : Nat) (p : Nat → Rat), (∀ i j, i < j → j < n → p i ≠ p j) → (∀ k, k < n → p k ∈ U) → n ≤ U.length := by
  intro U
  induction U with
  | nil =>
    intro n p _ h
    rcases Nat.eq_zero_or_pos n with q | q
    · omega
    · exact absurd (h 0 q) List.not_mem_nil
  | cons a U ih =>
    intro n p hi hm
    rcases Classical.em (∃ k, k < n ∧ p k = a) with ⟨k, hk, e⟩ | hn
    · have := ih (n - 1) (fun i => if i < k then p i else p (i + 1)) (fun i j h1 h2 => by
        show (if i < k then p i else p (i + 1)) ≠ (if j < k then p j else p (j + 1))
        by_cases c1 : i < k <;> by_cases c2 : j < k
        · rw [if_pos c1, if_pos c2]; exact hi i j h1 (by omega)
        · rw [if_pos c1, if_neg c2]; exact hi i (j + 1) (by omega) (by omega)
        · omega
        · rw [if_neg c1, if_neg c2]; exact hi (i + 1) (j + 1) (by omega) (by omega)) (fun i hi2 => by
        show (if i < k then p i else p (i + 1)) ∈ U
        by_cases c1 : i < k
        · rw [if_pos c1]
          have := hm i (by omega)
          rcases List.mem_cons.mp this with q | q
          · exact absurd (q.trans e.symm) (hi i k c1 hk)
          · exact q
        · rw [if_neg c1]
          have := hm (i + 1) (by omega)
          rcases List.mem_cons.mp this with q | q
          · exact absurd (e.trans q.symm) (hi k (i + 1) (by omega) (by omega))
          · exact q)
      rw [List.length_cons]
      omega
    · have := ih n p hi (fun k hk => by
        rcases List.mem_cons.mp (hm k hk) with q | q
        · exact absurd ⟨k, hk, q⟩ hn
        · exact q)
      rw [List.length_cons]
      omega
theorem Srt.len {U : List Rat} {n : Nat} {p : Nat → Rat} (hs : Srt n p) (hm : ∀ k, k < n → p k ∈ U) : n ≤ U.length := srt_len U n p (fun i j h1 h2 => Rat.ne_of_lt (hs i j h1 h2)) hm
/-- merged places: one behind another, and each is a place of one of the two -/
theorem mgs_mono {n1 n2 : Nat} {p q : Nat → Rat} {a b : Nat} (h : a ≤ b) : (mgs n1 p n2 q a).1 ≤ (mgs n1 p n2 q b).1 ∧ (mgs n1 p n2 q a).2 ≤ (mgs n1 p n2 q b).2 := by
  induction b with
  | zero => rw [show a = 0 by omega]; exact ⟨Nat.le_refl _, Nat.le_refl _⟩
  | succ b ih =>
    rcases Nat.lt_or_ge a (b + 1) with g | g
    · have i := ih (by omega)
      have e : mgs n1 p n2 q b = ((mgs n1 p n2 q b).1, (mgs n1 p n2 q b).2) := rfl
      rw [mgs_s e]
      exact ⟨Nat.le_trans i.1 (Nat.le_add_right _ _), Nat.le_trans i.2 (Nat.le_add_right _ _)⟩
    · rw [show a = b + 1 by omega]; exact ⟨Nat.le_refl _, Nat.le_refl _⟩
theorem mgp_in {n1 n2 : Nat} {p q : Nat → Rat} {J j : Nat} (hJ : MgE n1 p n2 q J) (hj : j < J) : (mgo n1 p n2 q j ≤ 0 ∧ (mgs n1 p n2 q j).1 < n1 ∧ mgp n1 p n2 q j = p (mgs n1 p n2 q j).1 ∧ (mgs n1 p n2 q (j + 1)).1 = (mgs n1 p n2 q j).1 + 1) ∨ (¬ mgo n1 p n2 q j ≤ 0 ∧ (mgs n1 p n2 q j).2 < n2 ∧ mgp n1 p n2 q j = q (mgs n1 p n2 q j).2 ∧ (mgs n1 p n2 q (j + 1)).2 = (mgs n1 p n2 q j).2 + 1) := by
  have hs := hJ.2.2 j hj
  obtain ⟨i1, _, _⟩ := mgs_inv (n1 := n1) (n2 := n2) (p1 := p) (p2 := q) j (fun a ha => hJ.2.2 a (by omega))
  have e : mgs n1 p n2 q j = ((mgs n1 p n2 q j).1, (mgs n1 p n2 q j).2) := rfl
  by_cases h : mgo n1 p n2 q j ≤ 0
  · refine Or.inl ⟨h, nxt_le h, if_pos h, ?_⟩
    rw [mgs_s e]
    show _ + oA (mgo n1 p n2 q j) = _
    unfold oA
    rw [if_pos h]
  · have o1 : mgo n1 p n2 q j = 1 := by
      rcases nxt_3 n1 p n2 q (mgs n1 p n2 q j).1 (mgs n1 p n2 q j).2 with o | o | o
      · exact absurd (show mgo n1 p n2 q j ≤ 0 by unfold mgo; rw [o]; decide) h
      · exact absurd (show mgo n1 p n2 q j ≤ 0 by unfold mgo; rw [o]; decide) h
      · exact o
    refine Or.inr ⟨h, nxt_ge hs i1 (by show 0 ≤ mgo n1 p n2 q j; rw [o1]; decide), if_neg h, ?_⟩
    rw [mgs_s e]
    show _ + oB (mgo n1 p n2 q j) = _
    rw [o1]
    rfl
theorem mgp_srt {n1 n2 : Nat} {p q : Nat → Rat} {J : Nat} (hs1 : Srt n1 p) (hs2 : Srt n2 q) (hJ : MgE n1 p n2 q J) : Srt J (mgp n1 p n2 q) := by
  intro a b hab hb
  obtain ⟨I1, I2⟩ := mg_inv hs1 hs2 (a + 1) (mgs n1 p n2 q (a + 1)).1 (mgs n1 p n2 q (a + 1)).2 rfl
  obtain ⟨m1, m2⟩ := mgs_mono (n1 := n1) (n2 := n2) (p := p) (q := q) (show a + 1 ≤ b by omega)
  rcases mgp_in hJ (show a < J by omega) with ⟨_, _, e1, s1⟩ | ⟨_, _, e1, s1⟩ <;> rcases mgp_in hJ hb with ⟨_, l2, e2, _⟩ | ⟨_, l2, e2, _⟩ <;> rw [e1, e2]
  · exact hs1 _ _ (by omega) l2
  · exact I1 (mgs n1 p n2 q a).1 (by omega) (mgs n1 p n2 q b).2 m2 l2
  · exact I2 (mgs n1 p n2 q a).2 (by omega) (mgs n1 p n2 q b).1 m1 l2
  · exact hs2 _ _ (by omega) l2
theorem jn_len {zb : Bool} {y z : St3} {J : Nat} {U : List Rat} (hs1 : Srt y.1 y.2.1) (hs2 : Srt z.1 z.2.1) (hJ : MgE y.1 y.2.1 z.1 z.2.1 J) (h1 : ∀ k, k < y.1 → y.2.1 k ∈ U) (h2 : ∀ k, k < z.1 → z.2.1 k ∈ U) : Srt (jn zb y z J).1 (jn zb y z J).2.1 ∧ (∀ k, k < (jn zb y z J).1 → (jn zb y z J).2.1 k ∈ U) ∧ (jn zb y z J).1 ≤ U.length := by
  have a : Srt (jn zb y z J).1 (jn zb y z J).2.1 := czp_srt (mgp_srt hs1 hs2 hJ)
  have b : ∀ k, k < (jn zb y z J).1 → (jn zb y z J).2.1 k ∈ U := fun k hk => by
    obtain ⟨i, hi, e⟩ := czp_of (mgp y.1 y.2.1 z.1 z.2.1) (mgb zb y.1 y.2.1 y.2.2 z.1 z.2.1 z.2.2) J k hk
    show czp _ _ _ k ∈ U
    rw [e]
    rcases mgp_in hJ hi with ⟨_, l, e1, _⟩ | ⟨_, l, e1, _⟩ <;> rw [e1]
    · exact h1 _ l
    · exact h2 _ l
  exact ⟨a, b, a.len b⟩
theorem cz_chg {b : Nat → Bool} : ∀ k j, j < czn b k → chg (czm b k) j = true := by
  intro k
  induction k with
  | zero => intro j hj; exact absurd hj (Nat.not_lt_zero _)
  | succ k ih =>
    intro j hj
    cases h : chg b k
    · rw [czn_n h] at hj; rw [czm_n h]; exact ih j hj
    · have en := cz_end b k
      rw [czn_y h] at hj
      rw [czm_y h]
      unfold chg
      rcases Nat.lt_or_ge j (czn b k) with q | q
      · have g := ih j q
        unfold chg at g
        show (((if 2 * j + 1 = 2 * czn b k + 1 then _ else if 2 * j + 1 = 2 * czn b k + 2 then _ else czm b k (2 * j + 1)) != (if 2 * j = 2 * czn b k + 1 then _ else if 2 * j = 2 * czn b k + 2 then _ else czm b k (2 * j))) || ((if 2 * j + 1 = 2 * czn b k + 1 then _ else if 2 * j + 1 = 2 * czn b k + 2 then _ else czm b k (2 * j + 1)) != (if 2 * j + 2 = 2 * czn b k + 1 then _ else if 2 * j + 2 = 2 * czn b k + 2 then _ else czm b k (2 * j + 2)))) = true
        rw [if_neg (by omega), if_neg (by omega), if_neg (by omega), if_neg (by omega), if_neg (by omega), if_neg (by omega)]
        exact g
      · have ej : j = czn b k := by omega
        subst ej
        show (((if 2 * czn b k + 1 = 2 * czn b k + 1 then b (2 * k + 1) else _) != (if 2 * czn b k = 2 * czn b k + 1 then _ else if 2 * czn b k = 2 * czn b k + 2 then _ else czm b k (2 * czn b k))) || ((if 2 * czn b k + 1 = 2 * czn b k + 1 then b (2 * k + 1) else _) != (if 2 * czn b k + 2 = 2 * czn b k + 1 then _ else if 2 * czn b k + 2 = 2 * czn b k + 2 then b (2 * k + 2) else _))) = true
        rw [if_pos rfl, if_neg (by omega), if_neg (by omega), if_neg (by omega), if_pos rfl, en]
        exact h
/-- what each set of a house keeps to -/
def SeOk (U : List Rat) (z : St3) : Prop := Srt z.1 z.2.1 ∧ (∀ k, k < z.1 → z.2.1 k ∈ U) ∧ (∀ k, k < z.1 → Sm (z.2.1 k)) ∧ ∀ k, k < z.1 → chg z.2.2 k = true
def cs (th : Nat → Th) : Nat → Nat
  | 0 => 0
  | n + 1 => match th n with
    | .inl _ => cs th n
    | .inr _ => cs th n + 1
def NeS (z : St3) : Prop := ∃ k, k < 2 * z.1 + 1 ∧ z.2.2 k = true
def Iv (N : Nat) (th : Nat → Th) (as : St3) : Prop := N ≤ 80 ∧ (∀ i, i < N → ∀ u, th i = .inl u → ∀ k, k < 4 → Sm (u k)) ∧ (∃ U : List Rat, U.length ≤ 2 * cs th N ∧ (∀ i, i < N → ∀ z, th i = .inr z → SeOk U z) ∧ SeOk U as) ∧ NeS as
theorem cs_l {th : Nat → Th} {n : Nat} {u : Nat → Rat} (h : th n = .inl u) : cs th (n + 1) = cs th n := by simp only [cs, h]
theorem cs_r {th : Nat → Th} {n : Nat} {z : St3} (h : th n = .inr z) : cs th (n + 1) = cs th n + 1 := by simp only [cs, h]
theorem cs_le (th : Nat → Th) : ∀ n, cs th n ≤ n
  | 0 => Nat.le_refl _
  | n + 1 => by
    have := cs_le th n
    cases e : th n with
    | inl u => rw [cs_l e]; omega
    | inr z => rw [cs_r e]; omega
theorem cs_lt {th : Nat → Th} {u : Nat → Rat} {i : Nat} (h : th i = .inl u) : ∀ n, i < n → cs th n + 1 ≤ n := by
  intro n
  induction n with
  | zero => intro hi; omega
  | succ n ih =>
    intro hi
    rcases Nat.lt_or_ge i n with q | q
    · have := ih q
      cases e : th n with
      | inl u => rw [cs_l e]; omega
      | inr z => rw [cs_r e]; omega
    · have e : i = n := by omega
      rw [e] at h
      rw [cs_l h]
      have := cs_le th n
      omega
theorem tell_srt {u : Nat → Rat} {n : Nat} {pt : Nat → Rat} {sg : Nat → Int32} (h : TellR u n pt sg) : Srt n pt ∧ n ≤ 2 := by
  rcases h with ⟨_, rfl, _⟩ | ⟨_, rfl, _⟩ | ⟨_, _, rfl, _⟩ | ⟨hd, r, r0, _, ⟨_, rfl, _⟩ | ⟨r1, rfl, rfl, _⟩⟩
  · exact ⟨fun i j h1 h2 => by omega, by omega⟩
  · exact ⟨fun i j h1 h2 => by omega, by omega⟩
  · exact ⟨fun i j h1 h2 => by omega, by omega⟩
  · exact ⟨fun i j h1 h2 => by omega, by omega⟩
  · refine ⟨fun i j h1 h2 => ?_, by omega⟩
    rw [show i = 0 by omega, show j = 1 by omega]
    exact pl_lt (dgI_2 hd) (Rat.lt_of_le_of_ne r0 (Ne.symm r1))
theorem fq_bg {r : Rat} {D B : Nat} (hD : 0 < D) (h : Fq r D B) (h1 : D < 2 ^ 30) (h2 : B < 2 ^ 30) : Bg r := by
  obtain ⟨_, _, g1, g2⟩ := fq_nd hD h
  exact ⟨by omega, by omega⟩
theorem nat3 {a b c : Nat} (ha : a ≤ 60) (hb : b ≤ 60) (hc : c ≤ 60) : a * b * c ≤ 216000 := Nat.mul_le_mul (Nat.mul_le_mul ha hb) hc
theorem pl_bg {u : Nat → Rat} (hs : ∀ k, k < 4 → Sm (u k)) (h2 : u 2 ≠ 0) {r : Rat} (r0 : 0 ≤ r) (hr : r * r = disc u) : Bg (pl1 u r) ∧ Bg (pl2 u r) := by
  have s0 := hs 0 (by decide)
  have s1 := hs 1 (by decide)
  have s2 := hs 2 (by decide)
  have bA : (Az u).natAbs ≤ 216000 := by unfold Az; rw [Int.natAbs_mul, Int.natAbs_mul, Int.natAbs_natCast, Int.natAbs_natCast]; exact nat3 s2.1 s0.2 s1.2
  have bB : (Bz u).natAbs ≤ 216000 := by unfold Bz; rw [Int.natAbs_mul, Int.natAbs_mul, Int.natAbs_natCast, Int.natAbs_natCast]; exact nat3 s1.1 s0.2 s2.2
  have bC : (Cz u).natAbs ≤ 216000 := by unfold Cz; rw [Int.natAbs_mul, Int.natAbs_mul, Int.natAbs_natCast, Int.natAbs_natCast]; exact nat3 s0.1 s1.2 s2.2
  have bI : (Iz u).natAbs ≤ 233280000000 := by
    unfold Iz
    have m1 : (Bz u * Bz u).natAbs ≤ 216000 * 216000 := by rw [Int.natAbs_mul]; exact Nat.mul_le_mul bB bB
    have m2 : (4 * Az u * Cz u).natAbs ≤ 864000 * 216000 := by rw [Int.natAbs_mul]; exact Nat.mul_le_mul (by omega) bC
    omega
  have hk : (r * (Dz u : Rat)) * (r * (Dz u : Rat)) = (Iz u : Rat) := by rw [iz_r, ← hr]; grind
  obtain ⟨k, ek⟩ := int_sq hk
  have kk : k * k = Iz u := by
    rw [ek, ← Rat.intCast_mul] at hk
    exact Rat.intCast_inj.mp hk
  have kb : k.natAbs < 2 ^ 20 := by
    rcases Nat.lt_or_ge k.natAbs (2 ^ 20) with g | g
    · exact g
    · have m := Nat.mul_le_mul g g
      have e : k.natAbs * k.natAbs = (Iz u).natAbs := by rw [← Int.natAbs_mul, kk]
      omega
  have a0 := az0 h2
  have sb := sgZ_b (u 2).num
  have dz := dz0 u
  have mul : ∀ s : Int, (-u 1 - (s : Rat) * r) / (2 * u 2) * (((2 * Az u : Int)) : Rat) = ((-Bz u - s * k : Int) : Rat) := fun s => by
    rw [Rat.intCast_mul, az_r, Rat.intCast_sub, Rat.intCast_neg, bz_r, Rat.intCast_mul, ← ek]
    have h9 : ((2 : Int) : Rat) = 2 := rfl
    rw [h9]
    grind
  have fin : ∀ (s : Int) (x : Rat), -1 ≤ s → s ≤ 1 → x * (((2 * Az u : Int)) : Rat) = ((-Bz u - s * k : Int) : Rat) → Bg x := fun s x g1 g2 e => by
    have sk := mul_b (a := s) (b := k) (A := 1) (B := 2 ^ 20) ⟨g1, g2⟩ (by omega)
    have hD : 0 < (2 * Az u).natAbs := by omega
    refine fq_bg (D := (2 * Az u).natAbs) (B := 2 ^ 22) hD ?_ (by omega) (by decide)
    rcases Int.lt_trichotomy (2 * Az u) 0 with q | q | q
    · refine ⟨-(-Bz u - s * k), ?_, by omega⟩
      rw [show (((2 * Az u).natAbs : Nat) : Int) = -(2 * Az u) by omega, Rat.intCast_neg, Rat.intCast_neg, ← e]
      grind
    · omega
    · refine ⟨-Bz u - s * k, ?_, by omega⟩
      rw [show (((2 * Az u).natAbs : Nat) : Int) = 2 * Az u by omega]
      exact e
  refine ⟨fin _ _ sb.1 sb.2 (mul _), fin (-(sgZ (u 2).num).toInt) _ (by omega) (by omega) ?_⟩
  rw [← mul]
  unfold pl2
  rw [Rat.intCast_neg]
  congr 2
  grind
theorem tell_bg {u : Nat → Rat} (hs : ∀ k, k < 4 → Sm (u k)) {n : Nat} {pt : Nat → Rat} {sg : Nat → Int32} (h : TellR u n pt sg) : ∀ k, k < n → Bg (pt k) := by
  intro k hk
  rcases h with ⟨_, rfl, _⟩ | ⟨hd, rfl, rfl, _⟩ | ⟨_, _, rfl, _⟩ | ⟨hd, r, r0, hr, ⟨_, rfl, rfl, _⟩ | ⟨_, rfl, rfl, _⟩⟩
  · omega
  · have h1 := dgI_1 hd
    have s0 := hs 0 (by decide)
    have s1 := hs 1 (by decide)
    have n0 : (u 1).num ≠ 0 := fun e => h1 (Rat.num_eq_zero.mp e)
    have m1 := Nat.mul_le_mul s0.2 s1.1
    have m2 := Nat.mul_le_mul s0.1 s1.2
    have d0 := (u 0).den_pos
    have d1 := (u 1).den_pos
    refine fq_bg (D := (u 0).den * (u 1).num.natAbs) (B := 3600) (Nat.mul_pos d0 (by omega)) ?_ (by omega) (by decide)
    have e1 := rat_nd (u 0)
    have e2 := rat_nd (u 1)
    rcases Int.lt_trichotomy (u 1).num 0 with q | q | q
    · refine ⟨(u 0).num * ((u 1).den : Int), ?_, by rw [Int.natAbs_mul, Int.natAbs_natCast]; omega⟩
      rw [Int.natCast_mul, show (((u 1).num.natAbs : Nat) : Int) = -(u 1).num by omega, Rat.intCast_mul, Rat.intCast_neg, Rat.intCast_mul, e1, e2]
      grind
    · omega
    · refine ⟨-((u 0).num * ((u 1).den : Int)), ?_, by rw [Int.natAbs_neg, Int.natAbs_mul, Int.natAbs_natCast]; omega⟩
      rw [Int.natCast_mul, show (((u 1).num.natAbs : Nat) : Int) = (u 1).num by omega, Rat.intCast_mul, Rat.intCast_neg, Rat.intCast_mul, e1, e2]
      grind
  · omega
  · exact (pl_bg hs (dgI_2 hd) r0 hr).1
  · show Bg (if k = 0 then pl1 u r else pl2 u r)
    split
    · exact (pl_bg hs (dgI_2 hd) r0 hr).1
    · exact (pl_bg hs (dgI_2 hd) r0 hr).2
theorem Iv.bds {N : Nat} {th : Nat → Th} {as : St3} (h : Iv N th as) : Bds N th as := by
  obtain ⟨hN, hf, ⟨U, hU, hz, ha⟩, hne⟩ := h
  have c1 := cs_le th N
  have ext_U : ∀ {z : St3}, SeOk U z → z.1 ≤ 160 := fun {z} g => by have := g.1.len g.2.1; omega
  refine ⟨hf, fun i hi z e => ⟨ext_U (hz i hi z e), (hz i hi z e).2.2.1⟩, ⟨ext_U ha, ha.2.2.1⟩, fun i j hi hj y z ey ez zb J hJ => ?_, fun i hi u eu n pt sg ht => ⟨tell_bg (hf i hi u eu) ht, fun b m J hJ => ?_⟩, fun i j hi hj u v eu ev => ?_⟩
  · have := (jn_len (zb := zb) (hz i hi y ey).1 (hz j hj z ez).1 hJ (hz i hi y ey).2.1 (hz j hj z ez).2.1).2.2
    omega
  · have c2 := cs_lt eu N hi
    obtain ⟨ts, tn⟩ := tell_srt ht
    have := (jn_len (zb := true) (y := as) (z := (czn b n, czp pt b n, m)) (U := pt 0 :: pt 1 :: U) ha.1 (czp_srt ts) hJ (fun k hk => List.mem_cons_of_mem _ (List.mem_cons_of_mem _ (ha.2.1 k hk))) (fun k hk => by
      obtain ⟨i, hi, e⟩ := czp_of pt b n k hk
      show czp pt b n k ∈ _
      rw [e]
      rcases (show i = 0 ∨ i = 1 by omega) with rfl | rfl
      · exact List.mem_cons_self
      · exact List.mem_cons_of_mem _ List.mem_cons_self)).2.2
    rw [List.length_cons, List.length_cons] at this
    omega
  · have su := hf i hi u eu
    have sv := hf j hj v ev
    exact ⟨fun k hk => ⟨sm_pb (su k hk) (sv k hk), sm_pb (su k hk) (sm_neg (sv k hk))⟩, (bok_A su sv (ext_fq su)).mok (fun k hk => by unfold ext; rw [if_pos hk]) (fun k hk => by unfold ext; rw [if_pos hk]), put_pok su sv⟩
theorem Iv.bdm {N : Nat} {th : Nat → Th} {as : St3} (h : Iv N th as) : Bdm N th := fun i j hi hj u v eu ev => by
  have su := h.2.1 i hi u eu
  have sv := h.2.1 j hj v ev
  exact ⟨(bok_A su sv (ext_fq su)).m10, put_p10 su sv⟩
theorem Iv.cg {N : Nat} {th : Nat → Th} {as : St3} (h : Iv N th as) : ∀ i, i < N → ∀ z, th i = .inr z → ∀ k, k < z.1 → chg z.2.2 k = true := fun i hi z e => by
  obtain ⟨_, _, ⟨U, _, hz, _⟩, _⟩ := h
  exact (hz i hi z e).2.2.2
theorem Iv.so {N : Nat} {th : Nat → Th} {as : St3} (h : Iv N th as) : Srt as.1 as.2.1 := by
  obtain ⟨_, _, ⟨U, _, _, ha⟩, _⟩ := h
  exact ha.1
