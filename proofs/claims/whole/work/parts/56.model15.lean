theorem oAB (o : Int32) (h : o = -1 ∨ o = 0 ∨ o = 1) : 1 ≤ oA o + oB o := by rcases h with rfl | rfl | rfl <;> decide
theorem mgs_s {n1 n2 : Nat} {p1 p2 : Nat → Rat} {j i k : Nat} (h : mgs n1 p1 n2 p2 j = (i, k)) : mgs n1 p1 n2 p2 (j + 1) = (i + oA (nxt n1 p1 n2 p2 i k), k + oB (nxt n1 p1 n2 p2 i k)) := by
  show ((mgs n1 p1 n2 p2 j).1 + oA (nxt n1 p1 n2 p2 (mgs n1 p1 n2 p2 j).1 (mgs n1 p1 n2 p2 j).2), (mgs n1 p1 n2 p2 j).2 + oB (nxt n1 p1 n2 p2 (mgs n1 p1 n2 p2 j).1 (mgs n1 p1 n2 p2 j).2)) = _
  rw [h]
theorem mgs_inv {n1 n2 : Nat} {p1 p2 : Nat → Rat} (j : Nat) (h : ∀ a, a < j → (mgs n1 p1 n2 p2 a).1 + (mgs n1 p1 n2 p2 a).2 < n1 + n2) : (mgs n1 p1 n2 p2 j).1 ≤ n1 ∧ (mgs n1 p1 n2 p2 j).2 ≤ n2 ∧ j ≤ (mgs n1 p1 n2 p2 j).1 + (mgs n1 p1 n2 p2 j).2 := by
  induction j with
  | zero => exact ⟨Nat.zero_le _, Nat.zero_le _, Nat.zero_le _⟩
  | succ j ih =>
    obtain ⟨i1, i2, i3⟩ := ih (fun a ha => h a (by omega))
    have hs := h j (by omega)
    have e : mgs n1 p1 n2 p2 j = ((mgs n1 p1 n2 p2 j).1, (mgs n1 p1 n2 p2 j).2) := rfl
    rw [mgs_s e]
    have h1 := oAB _ (nxt_3 n1 p1 n2 p2 (mgs n1 p1 n2 p2 j).1 (mgs n1 p1 n2 p2 j).2)
    have h2 : (mgs n1 p1 n2 p2 j).1 + oA (nxt n1 p1 n2 p2 (mgs n1 p1 n2 p2 j).1 (mgs n1 p1 n2 p2 j).2) ≤ n1 := by
      unfold oA
      split
      · next q => have := nxt_le q; omega
      · omega
    have h3 : (mgs n1 p1 n2 p2 j).2 + oB (nxt n1 p1 n2 p2 (mgs n1 p1 n2 p2 j).1 (mgs n1 p1 n2 p2 j).2) ≤ n2 := by
      unfold oB
      split
      · next q => have := nxt_ge hs i1 q; omega
      · omega
    exact ⟨h2, h3, by show j + 1 ≤ _ + _; omega⟩
theorem mge_all (n1 n2 : Nat) (p1 p2 : Nat → Rat) (m : Nat) : (∃ J, MgE n1 p1 n2 p2 J) ∨ ∀ a, a ≤ m → (mgs n1 p1 n2 p2 a).1 + (mgs n1 p1 n2 p2 a).2 < n1 + n2 := by
  have st : ∀ j, (∀ a, a < j → (mgs n1 p1 n2 p2 a).1 + (mgs n1 p1 n2 p2 a).2 < n1 + n2) → ¬ (mgs n1 p1 n2 p2 j).1 + (mgs n1 p1 n2 p2 j).2 < n1 + n2 → MgE n1 p1 n2 p2 j := by
    intro j h hn
    obtain ⟨i1, i2, i3⟩ := mgs_inv j h
    exact ⟨by omega, Prod.ext (by show (mgs n1 p1 n2 p2 j).1 = n1; omega) (by show (mgs n1 p1 n2 p2 j).2 = n2; omega), h⟩
  induction m with
  | zero =>
    by_cases q : (mgs n1 p1 n2 p2 0).1 + (mgs n1 p1 n2 p2 0).2 < n1 + n2
    · exact Or.inr (fun a ha => by rw [show a = 0 by omega]; exact q)
    · exact Or.inl ⟨0, st 0 (fun a ha => absurd ha (Nat.not_lt_zero _)) q⟩
  | succ m ih =>
    rcases ih with ih | ih
    · exact Or.inl ih
    · by_cases q : (mgs n1 p1 n2 p2 (m + 1)).1 + (mgs n1 p1 n2 p2 (m + 1)).2 < n1 + n2
      · exact Or.inr (fun a ha => (Nat.lt_or_ge a (m + 1)).elim (fun g => ih a (by omega)) (fun g => by rw [show a = m + 1 by omega]; exact q))
      · exact Or.inl ⟨m + 1, st (m + 1) (fun a ha => ih a (by omega)) q⟩
theorem mge_ex (n1 n2 : Nat) (p1 p2 : Nat → Rat) : ∃ J, MgE n1 p1 n2 p2 J := by
  rcases mge_all n1 n2 p1 p2 (n1 + n2) with h | h
  · exact h
  · have h1 := (mgs_inv (n1 + n2) (fun a ha => h a (by omega))).2.2
    have h2 := h (n1 + n2) (Nat.le_refl _)
    omega
theorem mge_lt {n1 n2 : Nat} {p1 p2 : Nat → Rat} {j J : Nat} (hJ : MgE n1 p1 n2 p2 J) (h : ∀ a, a < j → (mgs n1 p1 n2 p2 a).1 + (mgs n1 p1 n2 p2 a).2 < n1 + n2) (hs : (mgs n1 p1 n2 p2 j).1 + (mgs n1 p1 n2 p2 j).2 < n1 + n2) : j < J := by
  rcases Nat.lt_or_ge j J with q | q
  · exact q
  · have e := hJ.2.1
    rcases Nat.lt_or_ge J j with q2 | q2
    · have := h J q2; rw [e] at this; exact absurd this (Nat.lt_irrefl _)
    · have e2 : j = J := by omega
      rw [e2, e] at hs; exact absurd hs (Nat.lt_irrefl _)
/-- two sets' cells, side by side -/
def mgF (f : Bool → Bool → Bool) (y z : St3) (t : Nat) : Bool :=
  if t % 2 = 0 then f (y.2.2 (2 * (mgs y.1 y.2.1 z.1 z.2.1 (t / 2)).1)) (z.2.2 (2 * (mgs y.1 y.2.1 z.1 z.2.1 (t / 2)).2))
  else f (y.2.2 (2 * (mgs y.1 y.2.1 z.1 z.2.1 (t / 2)).1 + oA (mgo y.1 y.2.1 z.1 z.2.1 (t / 2)))) (z.2.2 (2 * (mgs y.1 y.2.1 z.1 z.2.1 (t / 2)).2 + oB (mgo y.1 y.2.1 z.1 z.2.1 (t / 2))))
theorem mgF_e {f : Bool → Bool → Bool} {y z : St3} {j i k : Nat} (h : mgs y.1 y.2.1 z.1 z.2.1 j = (i, k)) : mgF f y z (2 * j) = f (y.2.2 (2 * i)) (z.2.2 (2 * k)) := by
  unfold mgF
  rw [if_pos (by omega), show 2 * j / 2 = j by omega, h]
theorem mgF_o {f : Bool → Bool → Bool} {y z : St3} {j i k : Nat} {o : Int32} (h : mgs y.1 y.2.1 z.1 z.2.1 j = (i, k)) (ho : nxt y.1 y.2.1 z.1 z.2.1 i k = o) : mgF f y z (2 * j + 1) = f (y.2.2 (2 * i + oA o)) (z.2.2 (2 * k + oB o)) := by
  unfold mgF mgo
  rw [if_neg (by omega), show (2 * j + 1) / 2 = j by omega, h, ho]
theorem mgF_2 {f : Bool → Bool → Bool} {y z : St3} {j i k : Nat} {o : Int32} (h : mgs y.1 y.2.1 z.1 z.2.1 j = (i, k)) (ho : nxt y.1 y.2.1 z.1 z.2.1 i k = o) : mgF f y z (2 * j + 2) = f (y.2.2 (2 * (i + oA o))) (z.2.2 (2 * (k + oB o))) := by
  have h2 := mgs_s h
  rw [ho] at h2
  exact mgF_e (j := j + 1) h2
theorem mgp_j {n1 n2 : Nat} {p1 p2 : Nat → Rat} {j i k : Nat} {o : Int32} (h : mgs n1 p1 n2 p2 j = (i, k)) (ho : nxt n1 p1 n2 p2 i k = o) : mgp n1 p1 n2 p2 j = if o ≤ 0 then p1 i else p2 k := by
  unfold mgp mgo
  rw [h, ho]
def mgZ (how : Nat) (y z : St3) (J : Nat) : St3 := (czn (mgF (jnB how) y z) J, czp (mgp y.1 y.2.1 z.1 z.2.1) (mgF (jnB how) y z) J, czm (mgF (jnB how) y z) J)
def OrR (o : Int64) (nx : Int32) : Prop := (o.toInt < 0 ∧ nx = -1) ∨ (o.toInt = 0 ∧ nx = 0) ∨ (0 < o.toInt ∧ nx = 1)
theorem ord_or {a b c d : Int64} {r1 r2 : Rat} (h1 : Frx a b r1) (h2 : Frx c d r2) (g1 : Bg r1) (g2 : Bg r2) : OrR (a * d - c * b) (cmpR r1 r2) := by
  obtain ⟨hn, hm⟩ := g1.cmp g2
  obtain ⟨l1, e1, e2⟩ := fx_lt h1 h2 hn hm
  obtain ⟨l2, -, -⟩ := fx_lt h2 h1 hm hn
  have q1 : (a * d).toInt.natAbs < 2 ^ 62 := by rw [e1, Int.natAbs_mul, Int.natAbs_natCast]; exact hn
  have q2 : (c * b).toInt.natAbs < 2 ^ 62 := by rw [e2, Int.natAbs_mul, Int.natAbs_natCast]; exact hm
  have e3 : (a * d - c * b).toInt = (a * d).toInt - (c * b).toInt := Kit.i64_sub (by omega) (by omega)
  rw [Int64.lt_iff_toInt_lt] at l1 l2
  unfold OrR cmpR
  rw [e3]
  by_cases k1 : r1 < r2
  · have := l1.mpr k1
    rw [if_pos k1]
    exact Or.inl ⟨by omega, rfl⟩
  · by_cases k2 : r2 < r1
    · have := l2.mpr k2
      rw [if_neg k1, if_neg (fun e => by rw [e] at k2; exact absurd k2 Rat.lt_irrefl)]
      exact Or.inr (Or.inr ⟨by omega, rfl⟩)
    · have n1 : ¬ (a * d).toInt < (c * b).toInt := fun q => k1 (l1.mp q)
      have n2 : ¬ (c * b).toInt < (a * d).toInt := fun q => k2 (l2.mp q)
      rw [if_neg k1, if_pos (Rat.le_antisymm (Rat.not_lt.mp k2) (Rat.not_lt.mp k1))]
      exact Or.inr (Or.inl ⟨by omega, rfl⟩)
theorem lg_sn {o : Int64} (h : o.toInt < 0) : ¬ 0 < lg_cmp o 0 ∧ lg_cmp o 0 < 0 := ⟨fun q => by have := (lg_cmp_gt _ _).mp q; rw [Int64.lt_iff_toInt_lt, Int64.toInt_zero] at this; omega, (lg_cmp_lt _ _).mpr (by rw [Int64.lt_iff_toInt_lt, Int64.toInt_zero]; exact h)⟩
theorem lg_sz {o : Int64} (h : o.toInt = 0) : ¬ 0 < lg_cmp o 0 ∧ ¬ lg_cmp o 0 < 0 := ⟨fun q => by have := (lg_cmp_gt _ _).mp q; rw [Int64.lt_iff_toInt_lt, Int64.toInt_zero] at this; omega, fun q => by have := (lg_cmp_lt _ _).mp q; rw [Int64.lt_iff_toInt_lt, Int64.toInt_zero] at this; omega⟩
theorem lg_sp {o : Int64} (h : 0 < o.toInt) : 0 < lg_cmp o 0 ∧ ¬ lg_cmp o 0 < 0 := ⟨(lg_cmp_gt _ _).mpr (by rw [Int64.lt_iff_toInt_lt, Int64.toInt_zero]; exact h), fun q => by have := (lg_cmp_lt _ _).mp q; rw [Int64.lt_iff_toInt_lt, Int64.toInt_zero] at this; omega⟩
theorem nxt_c {n1 n2 : Nat} {p1 p2 : Nat → Rat} {i k : Nat} (h1 : i < n1) (h2 : k < n2) : nxt n1 p1 n2 p2 i k = cmpR (p1 i) (p2 k) := by unfold nxt; rw [if_neg (by omega), if_neg (by omega)]
theorem nxt_p {n1 n2 : Nat} {p1 p2 : Nat → Rat} {i k : Nat} (h1 : n1 ≤ i) : nxt n1 p1 n2 p2 i k = 1 := if_pos h1
theorem nxt_m {n1 n2 : Nat} {p1 p2 : Nat → Rat} {i k : Nat} (h1 : i < n1) (h2 : n2 ≤ k) : nxt n1 p1 n2 p2 i k = -1 := by unfold nxt; rw [if_neg (by omega), if_pos h2]

theorem jn_bad {N : Nat} {th : Nat → Th} {as : St3} {f g : Int32} {S S2 : Sc} {ct ct2 : Ct} {Y : St3 → St3 → Nat → Th → Prop} (hP : Pst N th as S ct) (h : (S2 = va_up S 0 (.int 1) ∧ ¬ (Tr N f ∧ Tr N g)) ∨ (S2 = va_up S 0 (.int 2) ∧ ∃ i j, i < N ∧ j < N ∧ f = nI i ∧ g = nI j ∧ ¬ ((∃ u, th i = .inr u) ∧ ∃ u, th j = .inr u))) (hc : ct2 = ct) : MkK N th as (Two N th f g (Se2 Y)) (some (.int 0)) S2 ct2 := by
  subst hc
  rcases h with ⟨rfl, h⟩ | ⟨rfl, i, j, hi, hj, rfl, rfl, h⟩
  · exact ⟨1, .inl (fun _ => 0), Or.inl ⟨rfl, h⟩, rfl, Or.inr ⟨by decide, ⟨_, rfl⟩, hP.ag rfl Ag.rf⟩⟩
  · exact ⟨2, .inl (fun _ => 0), Or.inr ⟨i, j, hi, hj, rfl, rfl, Or.inl ⟨rfl, h⟩⟩, rfl, Or.inr ⟨by decide, ⟨_, rfl⟩, hP.ag rfl Ag.rf⟩⟩

theorem nI_geN {a b : Nat} (ha : a < 2 ^ 31) (hb : b < 2 ^ 31) (h : nI b ≤ nI a) : b ≤ a := by
  rw [Int32.le_iff_toInt_le, nI_toI ha, nI_toI hb] at h
  omega
theorem nI_geI {a b : Nat} (ha : a < 2 ^ 31) (hb : b < 2 ^ 31) (h : b ≤ a) : nI b ≤ nI a := by
  rw [Int32.le_iff_toInt_le, nI_toI ha, nI_toI hb]
  omega

def po_X6_join (mo : Nat) (S : Sc) (ct : Ct) (N : Nat) (th : Nat → Th) (as : St3) (f0 g0 : Int32) (how : Nat) : Option Value → Sc → Ct → Prop := fun v S2 ct2 => MkK N th as (Two N th f0 g0 (Se2 fun y z c t => ∃ J, MgE y.1 y.2.1 z.1 z.2.1 J ∧ Kp N 3 (.inr (mgZ how y z J)) c t)) v S2 ct2
theorem bkX6_join_0_3 : pb_chk cX6_join 0 [.aload_n 0, .iload_n 1, .iload_n 2] = some 3 := by decide +kernel
theorem dX6_join_3 : decode cX6_join 3 = .ok (.invokevirtual 188, 3) := by decide +kernel
theorem dX6_join_6 : decode cX6_join 6 = .ok (.ifCond .ne 5, 3) := by decide +kernel
theorem bkX6_join_9_10 : pb_chk cX6_join 9 [.iconst 0] = some 10 := by decide +kernel
theorem dX6_join_10 : decode cX6_join 10 = .ok (.ireturn, 1) := by decide +kernel
theorem bkX6_join_37_40 : pb_chk cX6_join 37 [.iload 4, .aload_n 0] = some 40 := by decide +kernel
theorem dX6_join_40 : decode cX6_join 40 = .ok (.getfield 20, 3) := by decide +kernel
theorem bkX6_join_43_44 : pb_chk cX6_join 43 [.iload_n 1] = some 44 := by decide +kernel
theorem dX6_join_44 : decode cX6_join 44 = .ok (.iaload, 1) := by decide +kernel
theorem dX6_join_45 : decode cX6_join 45 = .ok (.if_icmp .lt 14, 3) := by decide +kernel
theorem bkX6_join_48_51 : pb_chk cX6_join 48 [.iload 5, .aload_n 0] = some 51 := by decide +kernel
theorem dX6_join_51 : decode cX6_join 51 = .ok (.getfield 20, 3) := by decide +kernel
theorem bkX6_join_54_55 : pb_chk cX6_join 54 [.iload_n 2] = some 55 := by decide +kernel
theorem dX6_join_55 : decode cX6_join 55 = .ok (.iaload, 1) := by decide +kernel
theorem dX6_join_56 : decode cX6_join 56 = .ok (.if_icmp .ge 245, 3) := by decide +kernel
theorem bkX6_join_301_303 : pb_chk cX6_join 301 [.aload_n 0, .iconst 3] = some 303 := by decide +kernel
theorem dX6_join_303 : decode cX6_join 303 = .ok (.invokevirtual 185, 3) := by decide +kernel
theorem dX6_join_306 : decode cX6_join 306 = .ok (.ireturn, 1) := by decide +kernel
theorem bkX6_join_146_152 : pb_chk cX6_join 146 [.lstore 6, .lload 6, .lconst 0, .lcmp] = some 152 := by decide +kernel
theorem dX6_join_152 : decode cX6_join 152 = .ok (.ifCond .gt 14, 3) := by decide +kernel
theorem bkX6_join_155_182 : pb_chk cX6_join 155 [.sipush 160, .iload_n 1, .imul, .iload 4, .iadd, .goto 11, .istore 8, .aload_n 0, .iload_n 1, .lload 6, .lconst 0, .lcmp] = some 182 := by decide +kernel
theorem dX6_join_182 : decode cX6_join 182 = .ok (.ifCond .gt 12, 3) := by decide +kernel
theorem bkX6_join_185_198 : pb_chk cX6_join 185 [.iconst 2, .iload 4, .imul, .iconst 1, .iadd, .goto 7] = some 198 := by decide +kernel
theorem dX6_join_198 : decode cX6_join 198 = .ok (.invokevirtual 161, 3) := by decide +kernel
theorem bkX6_join_201_209 : pb_chk cX6_join 201 [.istore 9, .aload_n 0, .iload_n 2, .lload 6, .lconst 0, .lcmp] = some 209 := by decide +kernel
theorem dX6_join_209 : decode cX6_join 209 = .ok (.ifCond .lt 12, 3) := by decide +kernel
theorem bkX6_join_221_225 : pb_chk cX6_join 221 [.iconst 2, .iload 5, .imul] = some 225 := by decide +kernel
theorem dX6_join_225 : decode cX6_join 225 = .ok (.invokevirtual 161, 3) := by decide +kernel
theorem bkX6_join_228_234 : pb_chk cX6_join 228 [.istore 10, .lload 6, .lconst 0, .lcmp] = some 234 := by decide +kernel
theorem dX6_join_234 : decode cX6_join 234 = .ok (.ifCond .gt 6, 3) := by decide +kernel
theorem bkX6_join_237_244 : pb_chk cX6_join 237 [.iinc 4 1, .lload 6, .lconst 0, .lcmp] = some 244 := by decide +kernel
theorem dX6_join_244 : decode cX6_join 244 = .ok (.ifCond .lt 6, 3) := by decide +kernel
theorem bkX6_join_250_252 : pb_chk cX6_join 250 [.aload_n 0, .aload_n 0] = some 252 := by decide +kernel
theorem dX6_join_252 : decode cX6_join 252 = .ok (.getfield 23, 3) := by decide +kernel
theorem bkX6_join_255_257 : pb_chk cX6_join 255 [.iload 8] = some 257 := by decide +kernel
theorem dX6_join_257 : decode cX6_join 257 = .ok (.laload, 1) := by decide +kernel
theorem bkX6_join_258_259 : pb_chk cX6_join 258 [.aload_n 0] = some 259 := by decide +kernel
theorem dX6_join_259 : decode cX6_join 259 = .ok (.getfield 26, 3) := by decide +kernel
theorem bkX6_join_262_264 : pb_chk cX6_join 262 [.iload 8] = some 264 := by decide +kernel
theorem dX6_join_264 : decode cX6_join 264 = .ok (.laload, 1) := by decide +kernel
theorem bkX6_join_265_270 : pb_chk cX6_join 265 [.iload 9, .iload 10, .iload_n 3] = some 270 := by decide +kernel
theorem dX6_join_270 : decode cX6_join 270 = .ok (.invokestatic 191, 3) := by decide +kernel
theorem bkX6_join_273_279 : pb_chk cX6_join 273 [.aload_n 0, .iload_n 1, .iconst 2, .iload 4, .imul] = some 279 := by decide +kernel
theorem dX6_join_279 : decode cX6_join 279 = .ok (.invokevirtual 161, 3) := by decide +kernel
theorem bkX6_join_282_288 : pb_chk cX6_join 282 [.aload_n 0, .iload_n 2, .iconst 2, .iload 5, .imul] = some 288 := by decide +kernel
theorem dX6_join_288 : decode cX6_join 288 = .ok (.invokevirtual 161, 3) := by decide +kernel
theorem bkX6_join_291_292 : pb_chk cX6_join 291 [.iload_n 3] = some 292 := by decide +kernel
theorem dX6_join_292 : decode cX6_join 292 = .ok (.invokestatic 191, 3) := by decide +kernel
theorem dX6_join_295 : decode cX6_join 295 = .ok (.invokevirtual 181, 3) := by decide +kernel
theorem bkX6_join_298_37 : pb_chk cX6_join 298 [.goto (-261)] = some 37 := by decide +kernel
theorem bkX6_join_212_225 : pb_chk cX6_join 212 [.iconst 2, .iload 5, .imul, .iconst 1, .iadd, .goto 7] = some 225 := by decide +kernel
theorem bkX6_join_247_250 : pb_chk cX6_join 247 [.iinc 5 1] = some 250 := by decide +kernel
theorem bkX6_join_166_182 : pb_chk cX6_join 166 [.sipush 160, .iload_n 2, .imul, .iload 5, .iadd, .istore 8, .aload_n 0, .iload_n 1, .lload 6, .lconst 0, .lcmp] = some 182 := by decide +kernel
theorem bkX6_join_194_198 : pb_chk cX6_join 194 [.iconst 2, .iload 4, .imul] = some 198 := by decide +kernel
theorem bkX6_join_240_244 : pb_chk cX6_join 240 [.lload 6, .lconst 0, .lcmp] = some 244 := by decide +kernel
theorem bkX6_join_59_62 : pb_chk cX6_join 59 [.iload 4, .aload_n 0] = some 62 := by decide +kernel
theorem dX6_join_62 : decode cX6_join 62 = .ok (.getfield 20, 3) := by decide +kernel
theorem bkX6_join_65_66 : pb_chk cX6_join 65 [.iload_n 1] = some 66 := by decide +kernel
theorem dX6_join_66 : decode cX6_join 66 = .ok (.iaload, 1) := by decide +kernel
theorem dX6_join_67 : decode cX6_join 67 = .ok (.if_icmp .ne 7, 3) := by decide +kernel
theorem bkX6_join_74_77 : pb_chk cX6_join 74 [.iload 5, .aload_n 0] = some 77 := by decide +kernel
theorem dX6_join_77 : decode cX6_join 77 = .ok (.getfield 20, 3) := by decide +kernel
theorem bkX6_join_80_81 : pb_chk cX6_join 80 [.iload_n 2] = some 81 := by decide +kernel
theorem dX6_join_81 : decode cX6_join 81 = .ok (.iaload, 1) := by decide +kernel
theorem dX6_join_82 : decode cX6_join 82 = .ok (.if_icmp .ne 9, 3) := by decide +kernel
theorem bkX6_join_91_92 : pb_chk cX6_join 91 [.aload_n 0] = some 92 := by decide +kernel
theorem dX6_join_92 : decode cX6_join 92 = .ok (.getfield 23, 3) := by decide +kernel
theorem bkX6_join_95_103 : pb_chk cX6_join 95 [.sipush 160, .iload_n 1, .imul, .iload 4, .iadd] = some 103 := by decide +kernel
theorem dX6_join_103 : decode cX6_join 103 = .ok (.laload, 1) := by decide +kernel
theorem bkX6_join_104_105 : pb_chk cX6_join 104 [.aload_n 0] = some 105 := by decide +kernel
theorem dX6_join_105 : decode cX6_join 105 = .ok (.getfield 26, 3) := by decide +kernel
theorem bkX6_join_108_116 : pb_chk cX6_join 108 [.sipush 160, .iload_n 2, .imul, .iload 5, .iadd] = some 116 := by decide +kernel
theorem dX6_join_116 : decode cX6_join 116 = .ok (.laload, 1) := by decide +kernel
theorem bkX6_join_117_119 : pb_chk cX6_join 117 [.lmul, .aload_n 0] = some 119 := by decide +kernel
theorem dX6_join_119 : decode cX6_join 119 = .ok (.getfield 23, 3) := by decide +kernel
theorem bkX6_join_122_130 : pb_chk cX6_join 122 [.sipush 160, .iload_n 2, .imul, .iload 5, .iadd] = some 130 := by decide +kernel
theorem dX6_join_130 : decode cX6_join 130 = .ok (.laload, 1) := by decide +kernel
theorem bkX6_join_131_132 : pb_chk cX6_join 131 [.aload_n 0] = some 132 := by decide +kernel
theorem dX6_join_132 : decode cX6_join 132 = .ok (.getfield 26, 3) := by decide +kernel
theorem bkX6_join_135_143 : pb_chk cX6_join 135 [.sipush 160, .iload_n 1, .imul, .iload 4, .iadd] = some 143 := by decide +kernel
theorem dX6_join_143 : decode cX6_join 143 = .ok (.laload, 1) := by decide +kernel
theorem bkX6_join_144_146 : pb_chk cX6_join 144 [.lmul, .lsub] = some 146 := by decide +kernel
theorem dX6_join_85 : decode cX6_join 85 = .ok (.ldc2_w 130, 3) := by decide +kernel
theorem bkX6_join_88_146 : pb_chk cX6_join 88 [.goto 58] = some 146 := by decide +kernel
theorem bkX6_join_70_146 : pb_chk cX6_join 70 [.lconst 1, .goto 75] = some 146 := by decide +kernel
theorem bkX6_join_11_21 : pb_chk cX6_join 11 [.iconst 0, .istore 4, .iconst 0, .istore 5, .aload_n 0, .aload_n 0, .iload_n 1, .iconst 0] = some 21 := by decide +kernel
theorem dX6_join_21 : decode cX6_join 21 = .ok (.invokevirtual 161, 3) := by decide +kernel
theorem bkX6_join_24_27 : pb_chk cX6_join 24 [.aload_n 0, .iload_n 2, .iconst 0] = some 27 := by decide +kernel
theorem dX6_join_27 : decode cX6_join 27 = .ok (.invokevirtual 161, 3) := by decide +kernel
theorem bkX6_join_30_31 : pb_chk cX6_join 30 [.iload_n 3] = some 31 := by decide +kernel
theorem dX6_join_31 : decode cX6_join 31 = .ok (.invokestatic 191, 3) := by decide +kernel
theorem dX6_join_34 : decode cX6_join 34 = .ok (.invokevirtual 177, 3) := by decide +kernel
set_option maxHeartbeats 4000000 in
set_option maxRecDepth 100000 in
theorem c_X6_join (l : Launch) (G : Gm) (mo : Nat) (S : Sc) (ct : Ct) (N : Nat) (th : Nat → Th) (as : St3) (f0 g0 : Int32) (how : Nat) (hP : Pst N th as S ct) (hB : Bds N th as) (hh : how < 3) (hrm : ∀ i j, i < N → j < N → f0 = nI i → g0 = nI j → ∀ y z, th i = .inr y → th j = .inr z → ∀ J, MgE y.1 y.2.1 z.1 z.2.1 J → (mgZ how y z J).1 ≤ 160) : Mm l yX6_join cX6_join 11 (some .int) (⟨3, 0, 0, 77⟩ : Room) G mo S ct [.ref mo, .int f0, .int g0, .int (nI how)] (po_X6_join mo S ct N th as f0 g0 how) := by
  refine of_met (by decide) (Nat.le_of_ble_eq_true rfl) ?_
  intro p e s m below meth c ls B hA hM0 hl
  have hw := Mw.start hM0
  refine pb_blk B.hx B.hb (lv' := [(0, .ref mo), (1, .int f0), (2, .int g0), (3, .int (nI how))]) (st' := [.int g0, .int f0, .ref mo]) hl bkX6_join_0_3 rfl (fun ls hl => ?_)
  refine m_callV B hw (c_X6_areSets l G mo _ _ N th as f0 g0 hP) cy_X6_areSets im_X6_areSets se_X6_areSets wd_M_X6_188 rfl hl.1 rfl (Nat.le_of_ble_eq_true rfl) ⟨by decide, by decide⟩ ⟨rfl, rfl⟩ ⟨Nat.le_refl _, Nat.le_refl _⟩ dX6_join_3 (fun v H locs Sa cta hw_83 hv => ?_)
  obtain ⟨hc, hv⟩ := hv
  have hw := hw_83
  rcases hv with ⟨rfl, hbad⟩ | ⟨rfl, rfl, i0, j0, y, z, hi, hj, rfl, rfl, hy0, hz0⟩
  · refine lv_if_ne (tgt := 11) B.hx B.hb dX6_join_6 (by decide) (fun h1 => absurd h1 (by decide)) (fun h1 => ?_)
    refine pb_blk B.hx B.hb (lv' := [(0, .ref mo), (1, .int f0), (2, .int g0), (3, .int (nI how))]) (st' := [.int 0]) hl bkX6_join_9_10 rfl (fun ls hl => ?_)
    exact m_iret (v := 0) B hw dX6_join_10 (by exact jn_bad hP hbad hc) (Nat.le_of_ble_eq_true rfl) (Nat.le_of_ble_eq_true rfl)
  · refine lv_if_ne (tgt := 11) B.hx B.hb dX6_join_6 (by decide) (fun h1 => ?_) (fun h1 => absurd h1 (by decide))
    have hN := hP.1
    have hyA := hP.2.2.1 i0 hi
    rw [hy0] at hyA
    have hyA := hyA.2
    have hzA := hP.2.2.1 j0 hj
    rw [hz0] at hzA
    have hzA := hzA.2
    have by2 := (hB.2.1 i0 hi y hy0).2
    have bz2 := (hB.2.1 j0 hj z hz0).2
    have hrm2 := hrm i0 j0 hi hj rfl rfl y z hy0 hz0
    obtain ⟨J, hJ⟩ := mge_ex y.1 z.1 y.2.1 z.2.1
    have hJ6 := hrm2 J hJ
    subst hc
    have hw := hw_83
    have loop : ∀ (n j i k : Nat) (H : Heap) (locs : List Loc) (ct1 : Ct) (ls : Array Slot), y.1 + z.1 + 1 ≤ i + k + n → mgs y.1 y.2.1 z.1 z.2.1 j = (i, k) → (∀ a, a < j → (mgs y.1 y.2.1 z.1 z.2.1 a).1 + (mgs y.1 y.2.1 z.1 z.2.1 a).2 < y.1 + z.1) → Mw G mo s.heap H locs (va_up S 0 (.int 0)) ct1 → Ag cta ct1 → SeA ct1 81 (mgZ how y z j) → lv_has ls 11 [(4, .int (nI i)), (5, .int (nI k)), (0, .ref mo), (1, .int (nI i0)), (2, .int (nI j0)), (3, .int (nI how))] → W p l e (⟨3, 0, 0, 77⟩ : Room) s m ([.ref mo, .int (nI i0), .int (nI j0), .int (nI how)] : List Value).toArray below meth c H locs 0 0 (MQ below (Qm G mo (po_X6_join mo S cta N th as (nI i0) (nI j0) how)) ([.ref mo, .int (nI i0), .int (nI j0), .int (nI how)] : List Value).toArray s (⟨3, 0, 0, 77⟩ : Room).cells (⟨3, 0, 0, 77⟩ : Room).slots (FM mo)) (F0 m 37 ls []) := by
      intro n
      induction n with
      | zero => intro j i k H locs ct1 ls hn hij hlt; have h9 := mgs_inv j hlt; rw [hij] at h9; have h8 : i ≤ y.1 ∧ k ≤ z.1 ∧ j ≤ i + k := h9; omega
      | succ n ih =>
          intro j i k H locs ct1 ls hn hij hlt hw hag hz8 hl
          obtain ⟨hi1, hk1, hjk⟩ := mgs_inv j hlt
          rw [hij] at hi1 hk1 hjk
          have hyB := hyA.ag hag (show i0 ≤ 80 by omega)
          have hzB := hzA.ag hag (show j0 ≤ 80 by omega)
          have hy6 := hyA.1
          have hz6 := hzA.1
          have ordr : ∀ (o : Int64) (ls : Array Slot), i + k < y.1 + z.1 → OrR o (nxt y.1 y.2.1 z.1 z.2.1 i k) → lv_has ls 11 [(4, .int (nI i)), (5, .int (nI k)), (0, .ref mo), (1, .int (nI i0)), (2, .int (nI j0)), (3, .int (nI how))] → W p l e (⟨3, 0, 0, 77⟩ : Room) s m ([.ref mo, .int (nI i0), .int (nI j0), .int (nI how)] : List Value).toArray below meth c H locs 0 0 (MQ below (Qm G mo (po_X6_join mo S cta N th as (nI i0) (nI j0) how)) ([.ref mo, .int (nI i0), .int (nI j0), .int (nI how)] : List Value).toArray s (⟨3, 0, 0, 77⟩ : Room).cells (⟨3, 0, 0, 77⟩ : Room).slots (FM mo)) (F0 m 146 ls [.long o]) := by
            intro o ls hs hO hl
            have hjJ := mge_lt hJ hlt (by rw [hij]; exact hs)
            refine pb_blk B.hx B.hb (lv' := [(6, .long o), (4, .int (nI i)), (5, .int (nI k)), (0, .ref mo), (1, .int (nI i0)), (2, .int (nI j0)), (3, .int (nI how))]) (st' := [.int (lg_cmp o 0)]) hl bkX6_join_146_152 rfl (fun ls hl => ?_)
            rcases hO with ⟨ho, hnx⟩ | ⟨ho, hnx⟩ | ⟨ho, hnx⟩
            · obtain ⟨cg, cl⟩ := lg_sn ho
              have hi9 : i < y.1 := nxt_le (by rw [hnx]; decide)
              obtain ⟨pp, dp, a1, a2, a3⟩ := hyB.2.2.1 i hi9
              refine lv_if_gt (tgt := 166) B.hx B.hb dX6_join_152 (by decide) (fun h3 => absurd h3 cg) (fun h3 => ?_)
              refine pb_blk B.hx B.hb (lv' := [(8, .int ((160 * (nI i0)) + (nI i))), (6, .long o), (4, .int (nI i)), (5, .int (nI k)), (0, .ref mo), (1, .int (nI i0)), (2, .int (nI j0)), (3, .int (nI how))]) (st' := [.int (lg_cmp o 0), .int (nI i0), .ref mo]) hl bkX6_join_155_182 rfl (fun ls hl => ?_)
              refine lv_if_gt (tgt := 194) B.hx B.hb dX6_join_182 (by decide) (fun h3 => absurd h3 cg) (fun h3 => ?_)
              refine pb_blk B.hx B.hb (lv' := [(8, .int ((160 * (nI i0)) + (nI i))), (6, .long o), (4, .int (nI i)), (5, .int (nI k)), (0, .ref mo), (1, .int (nI i0)), (2, .int (nI j0)), (3, .int (nI how))]) (st' := [.int ((2 * (nI i)) + 1), .int (nI i0), .ref mo]) hl bkX6_join_185_198 rfl (fun ls hl => ?_)
              rw [ix1]
              refine m_callN B hw (c_X6_mark l G (fun _ => False) mo _ _ i0 (2 * i + 1) (y.2.2 (2 * i + 1)) (by omega) (hyB.2.2.2 _ (by omega))) cy_X6_mark im_X6_mark se_X6_mark wd_M_X6_161 hw.1 rfl hl.1 rfl (Nat.le_of_ble_eq_true rfl) ⟨by decide, by decide⟩ ⟨rfl, rfl⟩ ⟨Nat.le_refl _, Nat.le_refl _⟩ dX6_join_198 (fun v hv => ?_)
              rw [po_X6_mark] at hv
              subst hv
              refine pb_blk B.hx B.hb (lv' := [(9, .int (b2i (y.2.2 (2 * i + 1)))), (8, .int ((160 * (nI i0)) + (nI i))), (6, .long o), (4, .int (nI i)), (5, .int (nI k)), (0, .ref mo), (1, .int (nI i0)), (2, .int (nI j0)), (3, .int (nI how))]) (st' := [.int (lg_cmp o 0), .int (nI j0), .ref mo]) hl bkX6_join_201_209 rfl (fun ls hl => ?_)
              refine lv_if_lt (tgt := 221) B.hx B.hb dX6_join_209 (by decide) (fun h3 => ?_) (fun h3 => absurd h3 (not_not_intro cl))
              refine pb_blk B.hx B.hb (lv' := [(9, .int (b2i (y.2.2 (2 * i + 1)))), (8, .int ((160 * (nI i0)) + (nI i))), (6, .long o), (4, .int (nI i)), (5, .int (nI k)), (0, .ref mo), (1, .int (nI i0)), (2, .int (nI j0)), (3, .int (nI how))]) (st' := [.int (2 * (nI k)), .int (nI j0), .ref mo]) hl bkX6_join_221_225 rfl (fun ls hl => ?_)
              rw [ix0]
              refine m_callN B hw (c_X6_mark l G (fun _ => False) mo _ _ j0 (2 * k) (z.2.2 (2 * k)) (by omega) (hzB.2.2.2 _ (by omega))) cy_X6_mark im_X6_mark se_X6_mark wd_M_X6_161 hw.1 rfl hl.1 rfl (Nat.le_of_ble_eq_true rfl) ⟨by decide, by decide⟩ ⟨rfl, rfl⟩ ⟨Nat.le_refl _, Nat.le_refl _⟩ dX6_join_225 (fun v hv => ?_)
              rw [po_X6_mark] at hv
              subst hv
              refine pb_blk B.hx B.hb (lv' := [(10, .int (b2i (z.2.2 (2 * k)))), (9, .int (b2i (y.2.2 (2 * i + 1)))), (8, .int ((160 * (nI i0)) + (nI i))), (6, .long o), (4, .int (nI i)), (5, .int (nI k)), (0, .ref mo), (1, .int (nI i0)), (2, .int (nI j0)), (3, .int (nI how))]) (st' := [.int (lg_cmp o 0)]) hl bkX6_join_228_234 rfl (fun ls hl => ?_)
              refine lv_if_gt (tgt := 240) B.hx B.hb dX6_join_234 (by decide) (fun h3 => absurd h3 cg) (fun h3 => ?_)
              refine pb_blk B.hx B.hb (lv' := [(4, .int ((nI i) + 1)), (10, .int (b2i (z.2.2 (2 * k)))), (9, .int (b2i (y.2.2 (2 * i + 1)))), (8, .int ((160 * (nI i0)) + (nI i))), (6, .long o), (5, .int (nI k)), (0, .ref mo), (1, .int (nI i0)), (2, .int (nI j0)), (3, .int (nI how))]) (st' := [.int (lg_cmp o 0)]) hl bkX6_join_237_244 rfl (fun ls hl => ?_)
              refine lv_if_lt (tgt := 250) B.hx B.hb dX6_join_244 (by decide) (fun h3 => ?_) (fun h3 => absurd h3 (not_not_intro cl))
              rw [nI_1 i] at hl
              refine pb_blk B.hx B.hb (lv' := [(4, .int (nI (i + 1))), (10, .int (b2i (z.2.2 (2 * k)))), (9, .int (b2i (y.2.2 (2 * i + 1)))), (8, .int ((160 * (nI i0)) + (nI i))), (6, .long o), (5, .int (nI k)), (0, .ref mo), (1, .int (nI i0)), (2, .int (nI j0)), (3, .int (nI how))]) (st' := [.ref mo, .ref mo]) hl bkX6_join_250_252 rfl (fun ls hl => ?_)
              refine m_get B hw 6 (by decide) wd_F_X6_23 rfl dX6_join_252 ?_
              refine pb_blk B.hx B.hb (lv' := [(4, .int (nI (i + 1))), (10, .int (b2i (z.2.2 (2 * k)))), (9, .int (b2i (y.2.2 (2 * i + 1)))), (8, .int ((160 * (nI i0)) + (nI i))), (6, .long o), (5, .int (nI k)), (0, .ref mo), (1, .int (nI i0)), (2, .int (nI j0)), (3, .int (nI how))]) (st' := [.int ((160 * (nI i0)) + (nI i)), .ref (mo + 5), .ref mo]) hl bkX6_join_255_257 rfl (fun ls hl => ?_)
              rw [ix160]
              refine m_lald B hw 5 (by decide) (by decide) rfl (vp_in_nI (show 160 * i0 + i < 13120 by omega) (by decide)) (v := .long pp) (by rw [nI_clamp (by omega)]; exact a1) dX6_join_257 ?_
              refine pb_blk B.hx B.hb (lv' := [(4, .int (nI (i + 1))), (10, .int (b2i (z.2.2 (2 * k)))), (9, .int (b2i (y.2.2 (2 * i + 1)))), (8, .int ((160 * (nI i0)) + (nI i))), (6, .long o), (5, .int (nI k)), (0, .ref mo), (1, .int (nI i0)), (2, .int (nI j0)), (3, .int (nI how))]) (st' := [.ref mo, .long pp, .ref mo]) hl bkX6_join_258_259 rfl (fun ls hl => ?_)
              refine m_get B hw 7 (by decide) wd_F_X6_26 rfl dX6_join_259 ?_
              refine pb_blk B.hx B.hb (lv' := [(4, .int (nI (i + 1))), (10, .int (b2i (z.2.2 (2 * k)))), (9, .int (b2i (y.2.2 (2 * i + 1)))), (8, .int ((160 * (nI i0)) + (nI i))), (6, .long o), (5, .int (nI k)), (0, .ref mo), (1, .int (nI i0)), (2, .int (nI j0)), (3, .int (nI how))]) (st' := [.int ((160 * (nI i0)) + (nI i)), .ref (mo + 6), .long pp, .ref mo]) hl bkX6_join_262_264 rfl (fun ls hl => ?_)
              rw [ix160]
              refine m_lald B hw 6 (by decide) (by decide) rfl (vp_in_nI (show 160 * i0 + i < 13120 by omega) (by decide)) (v := .long dp) (by rw [nI_clamp (by omega)]; exact a2) dX6_join_264 ?_
              refine pb_blk B.hx B.hb (lv' := [(4, .int (nI (i + 1))), (10, .int (b2i (z.2.2 (2 * k)))), (9, .int (b2i (y.2.2 (2 * i + 1)))), (8, .int ((160 * (nI i0)) + (nI i))), (6, .long o), (5, .int (nI k)), (0, .ref mo), (1, .int (nI i0)), (2, .int (nI j0)), (3, .int (nI how))]) (st' := [.int (nI how), .int (b2i (z.2.2 (2 * k))), .int (b2i (y.2.2 (2 * i + 1))), .long dp, .long pp, .ref mo]) hl bkX6_join_265_270 rfl (fun ls hl => ?_)
              refine m_callS B (c_X6_joined l G (fun _ => False) (y.2.2 (2 * i + 1)) (z.2.2 (2 * k)) how hh) cy_X6_joined st_X6_joined wd_M_X6_191 trivial rfl hl.1 rfl (Nat.le_of_ble_eq_true rfl) ⟨by decide, by decide⟩ ⟨rfl, rfl⟩ ⟨Nat.le_refl _, Nat.le_refl _⟩ dX6_join_270 (fun v hv => ?_)
              rw [po_X6_joined] at hv
              subst hv
              refine pb_blk B.hx B.hb (lv' := [(4, .int (nI (i + 1))), (10, .int (b2i (z.2.2 (2 * k)))), (9, .int (b2i (y.2.2 (2 * i + 1)))), (8, .int ((160 * (nI i0)) + (nI i))), (6, .long o), (5, .int (nI k)), (0, .ref mo), (1, .int (nI i0)), (2, .int (nI j0)), (3, .int (nI how))]) (st' := [.int (2 * (nI (i + 1))), .int (nI i0), .ref mo, .int (b2i (jnB how (y.2.2 (2 * i + 1)) (z.2.2 (2 * k)))), .long dp, .long pp, .ref mo]) hl bkX6_join_273_279 rfl (fun ls hl => ?_)
              rw [ix0]
              refine m_callN B hw (c_X6_mark l G (fun _ => False) mo _ _ i0 (2 * (i + 1)) (y.2.2 (2 * (i + 1))) (by omega) (hyB.2.2.2 _ (by omega))) cy_X6_mark im_X6_mark se_X6_mark wd_M_X6_161 hw.1 rfl hl.1 rfl (Nat.le_of_ble_eq_true rfl) ⟨by decide, by decide⟩ ⟨rfl, rfl⟩ ⟨Nat.le_refl _, Nat.le_refl _⟩ dX6_join_279 (fun v hv => ?_)
              rw [po_X6_mark] at hv
              subst hv
              refine pb_blk B.hx B.hb (lv' := [(4, .int (nI (i + 1))), (10, .int (b2i (z.2.2 (2 * k)))), (9, .int (b2i (y.2.2 (2 * i + 1)))), (8, .int ((160 * (nI i0)) + (nI i))), (6, .long o), (5, .int (nI k)), (0, .ref mo), (1, .int (nI i0)), (2, .int (nI j0)), (3, .int (nI how))]) (st' := [.int (2 * (nI k)), .int (nI j0), .ref mo, .int (b2i (y.2.2 (2 * (i + 1)))), .int (b2i (jnB how (y.2.2 (2 * i + 1)) (z.2.2 (2 * k)))), .long dp, .long pp, .ref mo]) hl bkX6_join_282_288 rfl (fun ls hl => ?_)
              rw [ix0]
              refine m_callN B hw (c_X6_mark l G (fun _ => False) mo _ _ j0 (2 * (k)) (z.2.2 (2 * (k))) (by omega) (hzB.2.2.2 _ (by omega))) cy_X6_mark im_X6_mark se_X6_mark wd_M_X6_161 hw.1 rfl hl.1 rfl (Nat.le_of_ble_eq_true rfl) ⟨by decide, by decide⟩ ⟨rfl, rfl⟩ ⟨Nat.le_refl _, Nat.le_refl _⟩ dX6_join_288 (fun v hv => ?_)
              rw [po_X6_mark] at hv
              subst hv
              refine pb_blk B.hx B.hb (lv' := [(4, .int (nI (i + 1))), (10, .int (b2i (z.2.2 (2 * k)))), (9, .int (b2i (y.2.2 (2 * i + 1)))), (8, .int ((160 * (nI i0)) + (nI i))), (6, .long o), (5, .int (nI k)), (0, .ref mo), (1, .int (nI i0)), (2, .int (nI j0)), (3, .int (nI how))]) (st' := [.int (nI how), .int (b2i (z.2.2 (2 * (k)))), .int (b2i (y.2.2 (2 * (i + 1)))), .int (b2i (jnB how (y.2.2 (2 * i + 1)) (z.2.2 (2 * k)))), .long dp, .long pp, .ref mo]) hl bkX6_join_291_292 rfl (fun ls hl => ?_)
              refine m_callS B (c_X6_joined l G (fun _ => False) (y.2.2 (2 * (i + 1))) (z.2.2 (2 * (k))) how hh) cy_X6_joined st_X6_joined wd_M_X6_191 trivial rfl hl.1 rfl (Nat.le_of_ble_eq_true rfl) ⟨by decide, by decide⟩ ⟨rfl, rfl⟩ ⟨Nat.le_refl _, Nat.le_refl _⟩ dX6_join_292 (fun v hv => ?_)
              rw [po_X6_joined] at hv
              subst hv
              have bo : (mgF (jnB how) y z) (2 * j + 1) = jnB how (y.2.2 (2 * i + 1)) (z.2.2 (2 * k)) := mgF_o hij hnx
              have be : (mgF (jnB how) y z) (2 * j + 2) = jnB how (y.2.2 (2 * (i + 1))) (z.2.2 (2 * (k))) := mgF_2 hij hnx
              have bp : mgp y.1 y.2.1 z.1 z.2.1 j = y.2.1 i := mgp_j hij hnx
              refine m_callV B hw (c_X6_append l G mo _ ct1 pp dp (jnB how (y.2.2 (2 * i + 1)) (z.2.2 (2 * k))) (jnB how (y.2.2 (2 * (i + 1))) (z.2.2 (2 * (k)))) (y.2.1 i) (mgZ how y z j) a3 hz8 (fun hc => Nat.lt_of_lt_of_le (ap_room hjJ bo be hc) hJ6)) cy_X6_append im_X6_append se_X6_append wd_M_X6_181 rfl hl.1 rfl (Nat.le_of_ble_eq_true rfl) ⟨by decide, by decide⟩ ⟨rfl, rfl⟩ ⟨Nat.le_refl _, Nat.le_refl _⟩ dX6_join_295 (fun v H locs Sb ctb hw_84 hv => ?_)
              obtain ⟨rfl, rfl, hz9, ag9, -⟩ := hv
              have hw := hw_84
              have hz9 := ap_step hz9 bp bo be
              have hij2 := mgs_s hij
              rw [hnx] at hij2
              refine pb_blk B.hx B.hb (lv' := [(4, .int (nI (i + 1))), (10, .int (b2i (z.2.2 (2 * k)))), (9, .int (b2i (y.2.2 (2 * i + 1)))), (8, .int ((160 * (nI i0)) + (nI i))), (6, .long o), (5, .int (nI k)), (0, .ref mo), (1, .int (nI i0)), (2, .int (nI j0)), (3, .int (nI how))]) (st' := []) hl bkX6_join_298_37 rfl (fun ls hl => ?_)
              exact ih (j + 1) (i + 1) (k) H locs ctb ls (by omega) hij2 (fun a ha => (Nat.lt_succ_iff_lt_or_eq.mp ha).elim (hlt a) (fun e9 => by rw [e9, hij]; exact hs)) hw (hag.trans ag9) hz9 (lv_sub hl [0, 5, 6, 7, 8, 9] rfl)
            · obtain ⟨cg, cl⟩ := lg_sz ho
              have hi9 : i < y.1 := nxt_le (by rw [hnx]; decide)
              obtain ⟨pp, dp, a1, a2, a3⟩ := hyB.2.2.1 i hi9
              have hk9 : k < z.1 := nxt_ge hs hi1 (by rw [hnx]; decide)
              refine lv_if_gt (tgt := 166) B.hx B.hb dX6_join_152 (by decide) (fun h3 => absurd h3 cg) (fun h3 => ?_)
              refine pb_blk B.hx B.hb (lv' := [(8, .int ((160 * (nI i0)) + (nI i))), (6, .long o), (4, .int (nI i)), (5, .int (nI k)), (0, .ref mo), (1, .int (nI i0)), (2, .int (nI j0)), (3, .int (nI how))]) (st' := [.int (lg_cmp o 0), .int (nI i0), .ref mo]) hl bkX6_join_155_182 rfl (fun ls hl => ?_)
              refine lv_if_gt (tgt := 194) B.hx B.hb dX6_join_182 (by decide) (fun h3 => absurd h3 cg) (fun h3 => ?_)
              refine pb_blk B.hx B.hb (lv' := [(8, .int ((160 * (nI i0)) + (nI i))), (6, .long o), (4, .int (nI i)), (5, .int (nI k)), (0, .ref mo), (1, .int (nI i0)), (2, .int (nI j0)), (3, .int (nI how))]) (st' := [.int ((2 * (nI i)) + 1), .int (nI i0), .ref mo]) hl bkX6_join_185_198 rfl (fun ls hl => ?_)
              rw [ix1]
              refine m_callN B hw (c_X6_mark l G (fun _ => False) mo _ _ i0 (2 * i + 1) (y.2.2 (2 * i + 1)) (by omega) (hyB.2.2.2 _ (by omega))) cy_X6_mark im_X6_mark se_X6_mark wd_M_X6_161 hw.1 rfl hl.1 rfl (Nat.le_of_ble_eq_true rfl) ⟨by decide, by decide⟩ ⟨rfl, rfl⟩ ⟨Nat.le_refl _, Nat.le_refl _⟩ dX6_join_198 (fun v hv => ?_)
              rw [po_X6_mark] at hv
              subst hv
              refine pb_blk B.hx B.hb (lv' := [(9, .int (b2i (y.2.2 (2 * i + 1)))), (8, .int ((160 * (nI i0)) + (nI i))), (6, .long o), (4, .int (nI i)), (5, .int (nI k)), (0, .ref mo), (1, .int (nI i0)), (2, .int (nI j0)), (3, .int (nI how))]) (st' := [.int (lg_cmp o 0), .int (nI j0), .ref mo]) hl bkX6_join_201_209 rfl (fun ls hl => ?_)
              refine lv_if_lt (tgt := 221) B.hx B.hb dX6_join_209 (by decide) (fun h3 => absurd h3 cl) (fun h3 => ?_)
              refine pb_blk B.hx B.hb (lv' := [(9, .int (b2i (y.2.2 (2 * i + 1)))), (8, .int ((160 * (nI i0)) + (nI i))), (6, .long o), (4, .int (nI i)), (5, .int (nI k)), (0, .ref mo), (1, .int (nI i0)), (2, .int (nI j0)), (3, .int (nI how))]) (st' := [.int ((2 * (nI k)) + 1), .int (nI j0), .ref mo]) hl bkX6_join_212_225 rfl (fun ls hl => ?_)
              rw [ix1]
              refine m_callN B hw (c_X6_mark l G (fun _ => False) mo _ _ j0 (2 * k + 1) (z.2.2 (2 * k + 1)) (by omega) (hzB.2.2.2 _ (by omega))) cy_X6_mark im_X6_mark se_X6_mark wd_M_X6_161 hw.1 rfl hl.1 rfl (Nat.le_of_ble_eq_true rfl) ⟨by decide, by decide⟩ ⟨rfl, rfl⟩ ⟨Nat.le_refl _, Nat.le_refl _⟩ dX6_join_225 (fun v hv => ?_)
              rw [po_X6_mark] at hv
              subst hv
              refine pb_blk B.hx B.hb (lv' := [(10, .int (b2i (z.2.2 (2 * k + 1)))), (9, .int (b2i (y.2.2 (2 * i + 1)))), (8, .int ((160 * (nI i0)) + (nI i))), (6, .long o), (4, .int (nI i)), (5, .int (nI k)), (0, .ref mo), (1, .int (nI i0)), (2, .int (nI j0)), (3, .int (nI how))]) (st' := [.int (lg_cmp o 0)]) hl bkX6_join_228_234 rfl (fun ls hl => ?_)
              refine lv_if_gt (tgt := 240) B.hx B.hb dX6_join_234 (by decide) (fun h3 => absurd h3 cg) (fun h3 => ?_)
              refine pb_blk B.hx B.hb (lv' := [(4, .int ((nI i) + 1)), (10, .int (b2i (z.2.2 (2 * k + 1)))), (9, .int (b2i (y.2.2 (2 * i + 1)))), (8, .int ((160 * (nI i0)) + (nI i))), (6, .long o), (5, .int (nI k)), (0, .ref mo), (1, .int (nI i0)), (2, .int (nI j0)), (3, .int (nI how))]) (st' := [.int (lg_cmp o 0)]) hl bkX6_join_237_244 rfl (fun ls hl => ?_)
              refine lv_if_lt (tgt := 250) B.hx B.hb dX6_join_244 (by decide) (fun h3 => absurd h3 cl) (fun h3 => ?_)
              refine pb_blk B.hx B.hb (lv' := [(5, .int ((nI k) + 1)), (4, .int ((nI i) + 1)), (10, .int (b2i (z.2.2 (2 * k + 1)))), (9, .int (b2i (y.2.2 (2 * i + 1)))), (8, .int ((160 * (nI i0)) + (nI i))), (6, .long o), (0, .ref mo), (1, .int (nI i0)), (2, .int (nI j0)), (3, .int (nI how))]) (st' := []) hl bkX6_join_247_250 rfl (fun ls hl => ?_)
              rw [nI_1 i] at hl
              rw [nI_1 k] at hl
              refine pb_blk B.hx B.hb (lv' := [(5, .int (nI (k + 1))), (4, .int (nI (i + 1))), (10, .int (b2i (z.2.2 (2 * k + 1)))), (9, .int (b2i (y.2.2 (2 * i + 1)))), (8, .int ((160 * (nI i0)) + (nI i))), (6, .long o), (0, .ref mo), (1, .int (nI i0)), (2, .int (nI j0)), (3, .int (nI how))]) (st' := [.ref mo, .ref mo]) hl bkX6_join_250_252 rfl (fun ls hl => ?_)
              refine m_get B hw 6 (by decide) wd_F_X6_23 rfl dX6_join_252 ?_
              refine pb_blk B.hx B.hb (lv' := [(5, .int (nI (k + 1))), (4, .int (nI (i + 1))), (10, .int (b2i (z.2.2 (2 * k + 1)))), (9, .int (b2i (y.2.2 (2 * i + 1)))), (8, .int ((160 * (nI i0)) + (nI i))), (6, .long o), (0, .ref mo), (1, .int (nI i0)), (2, .int (nI j0)), (3, .int (nI how))]) (st' := [.int ((160 * (nI i0)) + (nI i)), .ref (mo + 5), .ref mo]) hl bkX6_join_255_257 rfl (fun ls hl => ?_)
              rw [ix160]
              refine m_lald B hw 5 (by decide) (by decide) rfl (vp_in_nI (show 160 * i0 + i < 13120 by omega) (by decide)) (v := .long pp) (by rw [nI_clamp (by omega)]; exact a1) dX6_join_257 ?_
              refine pb_blk B.hx B.hb (lv' := [(5, .int (nI (k + 1))), (4, .int (nI (i + 1))), (10, .int (b2i (z.2.2 (2 * k + 1)))), (9, .int (b2i (y.2.2 (2 * i + 1)))), (8, .int ((160 * (nI i0)) + (nI i))), (6, .long o), (0, .ref mo), (1, .int (nI i0)), (2, .int (nI j0)), (3, .int (nI how))]) (st' := [.ref mo, .long pp, .ref mo]) hl bkX6_join_258_259 rfl (fun ls hl => ?_)
              refine m_get B hw 7 (by decide) wd_F_X6_26 rfl dX6_join_259 ?_
              refine pb_blk B.hx B.hb (lv' := [(5, .int (nI (k + 1))), (4, .int (nI (i + 1))), (10, .int (b2i (z.2.2 (2 * k + 1)))), (9, .int (b2i (y.2.2 (2 * i + 1)))), (8, .int ((160 * (nI i0)) + (nI i))), (6, .long o), (0, .ref mo), (1, .int (nI i0)), (2, .int (nI j0)), (3, .int (nI how))]) (st' := [.int ((160 * (nI i0)) + (nI i)), .ref (mo + 6), .long pp, .ref mo]) hl bkX6_join_262_264 rfl (fun ls hl => ?_)
              rw [ix160]
              refine m_lald B hw 6 (by decide) (by decide) rfl (vp_in_nI (show 160 * i0 + i < 13120 by omega) (by decide)) (v := .long dp) (by rw [nI_clamp (by omega)]; exact a2) dX6_join_264 ?_
              refine pb_blk B.hx B.hb (lv' := [(5, .int (nI (k + 1))), (4, .int (nI (i + 1))), (10, .int (b2i (z.2.2 (2 * k + 1)))), (9, .int (b2i (y.2.2 (2 * i + 1)))), (8, .int ((160 * (nI i0)) + (nI i))), (6, .long o), (0, .ref mo), (1, .int (nI i0)), (2, .int (nI j0)), (3, .int (nI how))]) (st' := [.int (nI how), .int (b2i (z.2.2 (2 * k + 1))), .int (b2i (y.2.2 (2 * i + 1))), .long dp, .long pp, .ref mo]) hl bkX6_join_265_270 rfl (fun ls hl => ?_)
              refine m_callS B (c_X6_joined l G (fun _ => False) (y.2.2 (2 * i + 1)) (z.2.2 (2 * k + 1)) how hh) cy_X6_joined st_X6_joined wd_M_X6_191 trivial rfl hl.1 rfl (Nat.le_of_ble_eq_true rfl) ⟨by decide, by decide⟩ ⟨rfl, rfl⟩ ⟨Nat.le_refl _, Nat.le_refl _⟩ dX6_join_270 (fun v hv => ?_)
              rw [po_X6_joined] at hv
              subst hv
              refine pb_blk B.hx B.hb (lv' := [(5, .int (nI (k + 1))), (4, .int (nI (i + 1))), (10, .int (b2i (z.2.2 (2 * k + 1)))), (9, .int (b2i (y.2.2 (2 * i + 1)))), (8, .int ((160 * (nI i0)) + (nI i))), (6, .long o), (0, .ref mo), (1, .int (nI i0)), (2, .int (nI j0)), (3, .int (nI how))]) (st' := [.int (2 * (nI (i + 1))), .int (nI i0), .ref mo, .int (b2i (jnB how (y.2.2 (2 * i + 1)) (z.2.2 (2 * k + 1)))), .long dp, .long pp, .ref mo]) hl bkX6_join_273_279 rfl (fun ls hl => ?_)
              rw [ix0]
              refine m_callN B hw (c_X6_mark l G (fun _ => False) mo _ _ i0 (2 * (i + 1)) (y.2.2 (2 * (i + 1))) (by omega) (hyB.2.2.2 _ (by omega))) cy_X6_mark im_X6_mark se_X6_mark wd_M_X6_161 hw.1 rfl hl.1 rfl (Nat.le_of_ble_eq_true rfl) ⟨by decide, by decide⟩ ⟨rfl, rfl⟩ ⟨Nat.le_refl _, Nat.le_refl _⟩ dX6_join_279 (fun v hv => ?_)
              rw [po_X6_mark] at hv
              subst hv
              refine pb_blk B.hx B.hb (lv' := [(5, .int (nI (k + 1))), (4, .int (nI (i + 1))), (10, .int (b2i (z.2.2 (2 * k + 1)))), (9, .int (b2i (y.2.2 (2 * i + 1)))), (8, .int ((160 * (nI i0)) + (nI i))), (6, .long o), (0, .ref mo), (1, .int (nI i0)), (2, .int (nI j0)), (3, .int (nI how))]) (st' := [.int (2 * (nI (k + 1))), .int (nI j0), .ref mo, .int (b2i (y.2.2 (2 * (i + 1)))), .int (b2i (jnB how (y.2.2 (2 * i + 1)) (z.2.2 (2 * k + 1)))), .long dp, .long pp, .ref mo]) hl bkX6_join_282_288 rfl (fun ls hl => ?_)
              rw [ix0]
              refine m_callN B hw (c_X6_mark l G (fun _ => False) mo _ _ j0 (2 * (k + 1)) (z.2.2 (2 * (k + 1))) (by omega) (hzB.2.2.2 _ (by omega))) cy_X6_mark im_X6_mark se_X6_mark wd_M_X6_161 hw.1 rfl hl.1 rfl (Nat.le_of_ble_eq_true rfl) ⟨by decide, by decide⟩ ⟨rfl, rfl⟩ ⟨Nat.le_refl _, Nat.le_refl _⟩ dX6_join_288 (fun v hv => ?_)
              rw [po_X6_mark] at hv
              subst hv
              refine pb_blk B.hx B.hb (lv' := [(5, .int (nI (k + 1))), (4, .int (nI (i + 1))), (10, .int (b2i (z.2.2 (2 * k + 1)))), (9, .int (b2i (y.2.2 (2 * i + 1)))), (8, .int ((160 * (nI i0)) + (nI i))), (6, .long o), (0, .ref mo), (1, .int (nI i0)), (2, .int (nI j0)), (3, .int (nI how))]) (st' := [.int (nI how), .int (b2i (z.2.2 (2 * (k + 1)))), .int (b2i (y.2.2 (2 * (i + 1)))), .int (b2i (jnB how (y.2.2 (2 * i + 1)) (z.2.2 (2 * k + 1)))), .long dp, .long pp, .ref mo]) hl bkX6_join_291_292 rfl (fun ls hl => ?_)
              refine m_callS B (c_X6_joined l G (fun _ => False) (y.2.2 (2 * (i + 1))) (z.2.2 (2 * (k + 1))) how hh) cy_X6_joined st_X6_joined wd_M_X6_191 trivial rfl hl.1 rfl (Nat.le_of_ble_eq_true rfl) ⟨by decide, by decide⟩ ⟨rfl, rfl⟩ ⟨Nat.le_refl _, Nat.le_refl _⟩ dX6_join_292 (fun v hv => ?_)
              rw [po_X6_joined] at hv
              subst hv
              have bo : (mgF (jnB how) y z) (2 * j + 1) = jnB how (y.2.2 (2 * i + 1)) (z.2.2 (2 * k + 1)) := mgF_o hij hnx
              have be : (mgF (jnB how) y z) (2 * j + 2) = jnB how (y.2.2 (2 * (i + 1))) (z.2.2 (2 * (k + 1))) := mgF_2 hij hnx
              have bp : mgp y.1 y.2.1 z.1 z.2.1 j = y.2.1 i := mgp_j hij hnx
              refine m_callV B hw (c_X6_append l G mo _ ct1 pp dp (jnB how (y.2.2 (2 * i + 1)) (z.2.2 (2 * k + 1))) (jnB how (y.2.2 (2 * (i + 1))) (z.2.2 (2 * (k + 1)))) (y.2.1 i) (mgZ how y z j) a3 hz8 (fun hc => Nat.lt_of_lt_of_le (ap_room hjJ bo be hc) hJ6)) cy_X6_append im_X6_append se_X6_append wd_M_X6_181 rfl hl.1 rfl (Nat.le_of_ble_eq_true rfl) ⟨by decide, by decide⟩ ⟨rfl, rfl⟩ ⟨Nat.le_refl _, Nat.le_refl _⟩ dX6_join_295 (fun v H locs Sb ctb hw_85 hv => ?_)
              obtain ⟨rfl, rfl, hz9, ag9, -⟩ := hv
              have hw := hw_85
              have hz9 := ap_step hz9 bp bo be
              have hij2 := mgs_s hij
              rw [hnx] at hij2
              refine pb_blk B.hx B.hb (lv' := [(5, .int (nI (k + 1))), (4, .int (nI (i + 1))), (10, .int (b2i (z.2.2 (2 * k + 1)))), (9, .int (b2i (y.2.2 (2 * i + 1)))), (8, .int ((160 * (nI i0)) + (nI i))), (6, .long o), (0, .ref mo), (1, .int (nI i0)), (2, .int (nI j0)), (3, .int (nI how))]) (st' := []) hl bkX6_join_298_37 rfl (fun ls hl => ?_)
              exact ih (j + 1) (i + 1) (k + 1) H locs ctb ls (by omega) hij2 (fun a ha => (Nat.lt_succ_iff_lt_or_eq.mp ha).elim (hlt a) (fun e9 => by rw [e9, hij]; exact hs)) hw (hag.trans ag9) hz9 (lv_sub hl [1, 0, 6, 7, 8, 9] rfl)
            · obtain ⟨cg, cl⟩ := lg_sp ho
              have hk9 : k < z.1 := nxt_ge hs hi1 (by rw [hnx]; decide)
              obtain ⟨pp, dp, a1, a2, a3⟩ := hzB.2.2.1 k hk9
              refine lv_if_gt (tgt := 166) B.hx B.hb dX6_join_152 (by decide) (fun h3 => ?_) (fun h3 => absurd h3 (not_not_intro cg))
              refine pb_blk B.hx B.hb (lv' := [(8, .int ((160 * (nI j0)) + (nI k))), (6, .long o), (4, .int (nI i)), (5, .int (nI k)), (0, .ref mo), (1, .int (nI i0)), (2, .int (nI j0)), (3, .int (nI how))]) (st' := [.int (lg_cmp o 0), .int (nI i0), .ref mo]) hl bkX6_join_166_182 rfl (fun ls hl => ?_)
              refine lv_if_gt (tgt := 194) B.hx B.hb dX6_join_182 (by decide) (fun h3 => ?_) (fun h3 => absurd h3 (not_not_intro cg))
              refine pb_blk B.hx B.hb (lv' := [(8, .int ((160 * (nI j0)) + (nI k))), (6, .long o), (4, .int (nI i)), (5, .int (nI k)), (0, .ref mo), (1, .int (nI i0)), (2, .int (nI j0)), (3, .int (nI how))]) (st' := [.int (2 * (nI i)), .int (nI i0), .ref mo]) hl bkX6_join_194_198 rfl (fun ls hl => ?_)
              rw [ix0]
              refine m_callN B hw (c_X6_mark l G (fun _ => False) mo _ _ i0 (2 * i) (y.2.2 (2 * i)) (by omega) (hyB.2.2.2 _ (by omega))) cy_X6_mark im_X6_mark se_X6_mark wd_M_X6_161 hw.1 rfl hl.1 rfl (Nat.le_of_ble_eq_true rfl) ⟨by decide, by decide⟩ ⟨rfl, rfl⟩ ⟨Nat.le_refl _, Nat.le_refl _⟩ dX6_join_198 (fun v hv => ?_)
              rw [po_X6_mark] at hv
              subst hv
              refine pb_blk B.hx B.hb (lv' := [(9, .int (b2i (y.2.2 (2 * i)))), (8, .int ((160 * (nI j0)) + (nI k))), (6, .long o), (4, .int (nI i)), (5, .int (nI k)), (0, .ref mo), (1, .int (nI i0)), (2, .int (nI j0)), (3, .int (nI how))]) (st' := [.int (lg_cmp o 0), .int (nI j0), .ref mo]) hl bkX6_join_201_209 rfl (fun ls hl => ?_)
              refine lv_if_lt (tgt := 221) B.hx B.hb dX6_join_209 (by decide) (fun h3 => absurd h3 cl) (fun h3 => ?_)
              refine pb_blk B.hx B.hb (lv' := [(9, .int (b2i (y.2.2 (2 * i)))), (8, .int ((160 * (nI j0)) + (nI k))), (6, .long o), (4, .int (nI i)), (5, .int (nI k)), (0, .ref mo), (1, .int (nI i0)), (2, .int (nI j0)), (3, .int (nI how))]) (st' := [.int ((2 * (nI k)) + 1), .int (nI j0), .ref mo]) hl bkX6_join_212_225 rfl (fun ls hl => ?_)
              rw [ix1]
              refine m_callN B hw (c_X6_mark l G (fun _ => False) mo _ _ j0 (2 * k + 1) (z.2.2 (2 * k + 1)) (by omega) (hzB.2.2.2 _ (by omega))) cy_X6_mark im_X6_mark se_X6_mark wd_M_X6_161 hw.1 rfl hl.1 rfl (Nat.le_of_ble_eq_true rfl) ⟨by decide, by decide⟩ ⟨rfl, rfl⟩ ⟨Nat.le_refl _, Nat.le_refl _⟩ dX6_join_225 (fun v hv => ?_)
              rw [po_X6_mark] at hv
              subst hv
              refine pb_blk B.hx B.hb (lv' := [(10, .int (b2i (z.2.2 (2 * k + 1)))), (9, .int (b2i (y.2.2 (2 * i)))), (8, .int ((160 * (nI j0)) + (nI k))), (6, .long o), (4, .int (nI i)), (5, .int (nI k)), (0, .ref mo), (1, .int (nI i0)), (2, .int (nI j0)), (3, .int (nI how))]) (st' := [.int (lg_cmp o 0)]) hl bkX6_join_228_234 rfl (fun ls hl => ?_)
              refine lv_if_gt (tgt := 240) B.hx B.hb dX6_join_234 (by decide) (fun h3 => ?_) (fun h3 => absurd h3 (not_not_intro cg))
              refine pb_blk B.hx B.hb (lv' := [(10, .int (b2i (z.2.2 (2 * k + 1)))), (9, .int (b2i (y.2.2 (2 * i)))), (8, .int ((160 * (nI j0)) + (nI k))), (6, .long o), (4, .int (nI i)), (5, .int (nI k)), (0, .ref mo), (1, .int (nI i0)), (2, .int (nI j0)), (3, .int (nI how))]) (st' := [.int (lg_cmp o 0)]) hl bkX6_join_240_244 rfl (fun ls hl => ?_)
              refine lv_if_lt (tgt := 250) B.hx B.hb dX6_join_244 (by decide) (fun h3 => absurd h3 cl) (fun h3 => ?_)
              refine pb_blk B.hx B.hb (lv' := [(5, .int ((nI k) + 1)), (10, .int (b2i (z.2.2 (2 * k + 1)))), (9, .int (b2i (y.2.2 (2 * i)))), (8, .int ((160 * (nI j0)) + (nI k))), (6, .long o), (4, .int (nI i)), (0, .ref mo), (1, .int (nI i0)), (2, .int (nI j0)), (3, .int (nI how))]) (st' := []) hl bkX6_join_247_250 rfl (fun ls hl => ?_)
              rw [nI_1 k] at hl
              refine pb_blk B.hx B.hb (lv' := [(5, .int (nI (k + 1))), (10, .int (b2i (z.2.2 (2 * k + 1)))), (9, .int (b2i (y.2.2 (2 * i)))), (8, .int ((160 * (nI j0)) + (nI k))), (6, .long o), (4, .int (nI i)), (0, .ref mo), (1, .int (nI i0)), (2, .int (nI j0)), (3, .int (nI how))]) (st' := [.ref mo, .ref mo]) hl bkX6_join_250_252 rfl (fun ls hl => ?_)
              refine m_get B hw 6 (by decide) wd_F_X6_23 rfl dX6_join_252 ?_
              refine pb_blk B.hx B.hb (lv' := [(5, .int (nI (k + 1))), (10, .int (b2i (z.2.2 (2 * k + 1)))), (9, .int (b2i (y.2.2 (2 * i)))), (8, .int ((160 * (nI j0)) + (nI k))), (6, .long o), (4, .int (nI i)), (0, .ref mo), (1, .int (nI i0)), (2, .int (nI j0)), (3, .int (nI how))]) (st' := [.int ((160 * (nI j0)) + (nI k)), .ref (mo + 5), .ref mo]) hl bkX6_join_255_257 rfl (fun ls hl => ?_)
              rw [ix160]
              refine m_lald B hw 5 (by decide) (by decide) rfl (vp_in_nI (show 160 * j0 + k < 13120 by omega) (by decide)) (v := .long pp) (by rw [nI_clamp (by omega)]; exact a1) dX6_join_257 ?_
              refine pb_blk B.hx B.hb (lv' := [(5, .int (nI (k + 1))), (10, .int (b2i (z.2.2 (2 * k + 1)))), (9, .int (b2i (y.2.2 (2 * i)))), (8, .int ((160 * (nI j0)) + (nI k))), (6, .long o), (4, .int (nI i)), (0, .ref mo), (1, .int (nI i0)), (2, .int (nI j0)), (3, .int (nI how))]) (st' := [.ref mo, .long pp, .ref mo]) hl bkX6_join_258_259 rfl (fun ls hl => ?_)
              refine m_get B hw 7 (by decide) wd_F_X6_26 rfl dX6_join_259 ?_
              refine pb_blk B.hx B.hb (lv' := [(5, .int (nI (k + 1))), (10, .int (b2i (z.2.2 (2 * k + 1)))), (9, .int (b2i (y.2.2 (2 * i)))), (8, .int ((160 * (nI j0)) + (nI k))), (6, .long o), (4, .int (nI i)), (0, .ref mo), (1, .int (nI i0)), (2, .int (nI j0)), (3, .int (nI how))]) (st' := [.int ((160 * (nI j0)) + (nI k)), .ref (mo + 6), .long pp, .ref mo]) hl bkX6_join_262_264 rfl (fun ls hl => ?_)
              rw [ix160]
              refine m_lald B hw 6 (by decide) (by decide) rfl (vp_in_nI (show 160 * j0 + k < 13120 by omega) (by decide)) (v := .long dp) (by rw [nI_clamp (by omega)]; exact a2) dX6_join_264 ?_
              refine pb_blk B.hx B.hb (lv' := [(5, .int (nI (k + 1))), (10, .int (b2i (z.2.2 (2 * k + 1)))), (9, .int (b2i (y.2.2 (2 * i)))), (8, .int ((160 * (nI j0)) + (nI k))), (6, .long o), (4, .int (nI i)), (0, .ref mo), (1, .int (nI i0)), (2, .int (nI j0)), (3, .int (nI how))]) (st' := [.int (nI how), .int (b2i (z.2.2 (2 * k + 1))), .int (b2i (y.2.2 (2 * i))), .long dp, .long pp, .ref mo]) hl bkX6_join_265_270 rfl (fun ls hl => ?_)
              refine m_callS B (c_X6_joined l G (fun _ => False) (y.2.2 (2 * i)) (z.2.2 (2 * k + 1)) how hh) cy_X6_joined st_X6_joined wd_M_X6_191 trivial rfl hl.1 rfl (Nat.le_of_ble_eq_true rfl) ⟨by decide, by decide⟩ ⟨rfl, rfl⟩ ⟨Nat.le_refl _, Nat.le_refl _⟩ dX6_join_270 (fun v hv => ?_)
              rw [po_X6_joined] at hv
              subst hv
              refine pb_blk B.hx B.hb (lv' := [(5, .int (nI (k + 1))), (10, .int (b2i (z.2.2 (2 * k + 1)))), (9, .int (b2i (y.2.2 (2 * i)))), (8, .int ((160 * (nI j0)) + (nI k))), (6, .long o), (4, .int (nI i)), (0, .ref mo), (1, .int (nI i0)), (2, .int (nI j0)), (3, .int (nI how))]) (st' := [.int (2 * (nI i)), .int (nI i0), .ref mo, .int (b2i (jnB how (y.2.2 (2 * i)) (z.2.2 (2 * k + 1)))), .long dp, .long pp, .ref mo]) hl bkX6_join_273_279 rfl (fun ls hl => ?_)
              rw [ix0]
              refine m_callN B hw (c_X6_mark l G (fun _ => False) mo _ _ i0 (2 * (i)) (y.2.2 (2 * (i))) (by omega) (hyB.2.2.2 _ (by omega))) cy_X6_mark im_X6_mark se_X6_mark wd_M_X6_161 hw.1 rfl hl.1 rfl (Nat.le_of_ble_eq_true rfl) ⟨by decide, by decide⟩ ⟨rfl, rfl⟩ ⟨Nat.le_refl _, Nat.le_refl _⟩ dX6_join_279 (fun v hv => ?_)
              rw [po_X6_mark] at hv
              subst hv
              refine pb_blk B.hx B.hb (lv' := [(5, .int (nI (k + 1))), (10, .int (b2i (z.2.2 (2 * k + 1)))), (9, .int (b2i (y.2.2 (2 * i)))), (8, .int ((160 * (nI j0)) + (nI k))), (6, .long o), (4, .int (nI i)), (0, .ref mo), (1, .int (nI i0)), (2, .int (nI j0)), (3, .int (nI how))]) (st' := [.int (2 * (nI (k + 1))), .int (nI j0), .ref mo, .int (b2i (y.2.2 (2 * (i)))), .int (b2i (jnB how (y.2.2 (2 * i)) (z.2.2 (2 * k + 1)))), .long dp, .long pp, .ref mo]) hl bkX6_join_282_288 rfl (fun ls hl => ?_)
              rw [ix0]
              refine m_callN B hw (c_X6_mark l G (fun _ => False) mo _ _ j0 (2 * (k + 1)) (z.2.2 (2 * (k + 1))) (by omega) (hzB.2.2.2 _ (by omega))) cy_X6_mark im_X6_mark se_X6_mark wd_M_X6_161 hw.1 rfl hl.1 rfl (Nat.le_of_ble_eq_true rfl) ⟨by decide, by decide⟩ ⟨rfl, rfl⟩ ⟨Nat.le_refl _, Nat.le_refl _⟩ dX6_join_288 (fun v hv => ?_)
              rw [po_X6_mark] at hv
              subst hv
              refine pb_blk B.hx B.hb (lv' := [(5, .int (nI (k + 1))), (10, .int (b2i (z.2.2 (2 * k + 1)))), (9, .int (b2i (y.2.2 (2 * i)))), (8, .int ((160 * (nI j0)) + (nI k))), (6, .long o), (4, .int (nI i)), (0, .ref mo), (1, .int (nI i0)), (2, .int (nI j0)), (3, .int (nI how))]) (st' := [.int (nI how), .int (b2i (z.2.2 (2 * (k + 1)))), .int (b2i (y.2.2 (2 * (i)))), .int (b2i (jnB how (y.2.2 (2 * i)) (z.2.2 (2 * k + 1)))), .long dp, .long pp, .ref mo]) hl bkX6_join_291_292 rfl (fun ls hl => ?_)
              refine m_callS B (c_X6_joined l G (fun _ => False) (y.2.2 (2 * (i))) (z.2.2 (2 * (k + 1))) how hh) cy_X6_joined st_X6_joined wd_M_X6_191 trivial rfl hl.1 rfl (Nat.le_of_ble_eq_true rfl) ⟨by decide, by decide⟩ ⟨rfl, rfl⟩ ⟨Nat.le_refl _, Nat.le_refl _⟩ dX6_join_292 (fun v hv => ?_)
              rw [po_X6_joined] at hv
              subst hv
              have bo : (mgF (jnB how) y z) (2 * j + 1) = jnB how (y.2.2 (2 * i)) (z.2.2 (2 * k + 1)) := mgF_o hij hnx
              have be : (mgF (jnB how) y z) (2 * j + 2) = jnB how (y.2.2 (2 * (i))) (z.2.2 (2 * (k + 1))) := mgF_2 hij hnx
              have bp : mgp y.1 y.2.1 z.1 z.2.1 j = z.2.1 k := mgp_j hij hnx
              refine m_callV B hw (c_X6_append l G mo _ ct1 pp dp (jnB how (y.2.2 (2 * i)) (z.2.2 (2 * k + 1))) (jnB how (y.2.2 (2 * (i))) (z.2.2 (2 * (k + 1)))) (z.2.1 k) (mgZ how y z j) a3 hz8 (fun hc => Nat.lt_of_lt_of_le (ap_room hjJ bo be hc) hJ6)) cy_X6_append im_X6_append se_X6_append wd_M_X6_181 rfl hl.1 rfl (Nat.le_of_ble_eq_true rfl) ⟨by decide, by decide⟩ ⟨rfl, rfl⟩ ⟨Nat.le_refl _, Nat.le_refl _⟩ dX6_join_295 (fun v H locs Sb ctb hw_86 hv => ?_)
              obtain ⟨rfl, rfl, hz9, ag9, -⟩ := hv
              have hw := hw_86
              have hz9 := ap_step hz9 bp bo be
              have hij2 := mgs_s hij
              rw [hnx] at hij2
              refine pb_blk B.hx B.hb (lv' := [(5, .int (nI (k + 1))), (10, .int (b2i (z.2.2 (2 * k + 1)))), (9, .int (b2i (y.2.2 (2 * i)))), (8, .int ((160 * (nI j0)) + (nI k))), (6, .long o), (4, .int (nI i)), (0, .ref mo), (1, .int (nI i0)), (2, .int (nI j0)), (3, .int (nI how))]) (st' := []) hl bkX6_join_298_37 rfl (fun ls hl => ?_)
              exact ih (j + 1) (i) (k + 1) H locs ctb ls (by omega) hij2 (fun a ha => (Nat.lt_succ_iff_lt_or_eq.mp ha).elim (hlt a) (fun e9 => by rw [e9, hij]; exact hs)) hw (hag.trans ag9) hz9 (lv_sub hl [5, 0, 6, 7, 8, 9] rfl)
          have step : ∀ (ls : Array Slot), i + k < y.1 + z.1 → lv_has ls 11 [(4, .int (nI i)), (5, .int (nI k)), (0, .ref mo), (1, .int (nI i0)), (2, .int (nI j0)), (3, .int (nI how))] → W p l e (⟨3, 0, 0, 77⟩ : Room) s m ([.ref mo, .int (nI i0), .int (nI j0), .int (nI how)] : List Value).toArray below meth c H locs 0 0 (MQ below (Qm G mo (po_X6_join mo S cta N th as (nI i0) (nI j0) how)) ([.ref mo, .int (nI i0), .int (nI j0), .int (nI how)] : List Value).toArray s (⟨3, 0, 0, 77⟩ : Room).cells (⟨3, 0, 0, 77⟩ : Room).slots (FM mo)) (F0 m 59 ls []) := by
            intro ls hs hl
            refine pb_blk B.hx B.hb (lv' := [(4, .int (nI i)), (5, .int (nI k)), (0, .ref mo), (1, .int (nI i0)), (2, .int (nI j0)), (3, .int (nI how))]) (st' := [.ref mo, .int (nI i)]) hl bkX6_join_59_62 rfl (fun ls hl => ?_)
            refine m_get B hw 5 (by decide) wd_F_X6_20 rfl dX6_join_62 ?_
            refine pb_blk B.hx B.hb (lv' := [(4, .int (nI i)), (5, .int (nI k)), (0, .ref mo), (1, .int (nI i0)), (2, .int (nI j0)), (3, .int (nI how))]) (st' := [.int (nI i0), .ref (mo + 4), .int (nI i)]) hl bkX6_join_65_66 rfl (fun ls hl => ?_)
            refine m_iald B hw 4 (by decide) (by decide) rfl (vp_in_nI (show i0 < 82 by omega) (by decide)) (v := .int (nI y.1)) (by rw [nI_clamp (by omega)]; exact hyB.2.1) dX6_join_66 ?_
            refine lv_icmp_ne (tgt := 74) B.hx B.hb dX6_join_67 (by decide) (fun h1 => ?_) (fun h1 => ?_)
            · have hi9 : i < y.1 := by rcases Nat.lt_or_ge i y.1 with g | g; exact g; exact absurd (by rw [show i = y.1 by omega]) h1
              refine pb_blk B.hx B.hb (lv' := [(4, .int (nI i)), (5, .int (nI k)), (0, .ref mo), (1, .int (nI i0)), (2, .int (nI j0)), (3, .int (nI how))]) (st' := [.ref mo, .int (nI k)]) hl bkX6_join_74_77 rfl (fun ls hl => ?_)
              refine m_get B hw 5 (by decide) wd_F_X6_20 rfl dX6_join_77 ?_
              refine pb_blk B.hx B.hb (lv' := [(4, .int (nI i)), (5, .int (nI k)), (0, .ref mo), (1, .int (nI i0)), (2, .int (nI j0)), (3, .int (nI how))]) (st' := [.int (nI j0), .ref (mo + 4), .int (nI k)]) hl bkX6_join_80_81 rfl (fun ls hl => ?_)
              refine m_iald B hw 4 (by decide) (by decide) rfl (vp_in_nI (show j0 < 82 by omega) (by decide)) (v := .int (nI z.1)) (by rw [nI_clamp (by omega)]; exact hzB.2.1) dX6_join_81 ?_
              refine lv_icmp_ne (tgt := 91) B.hx B.hb dX6_join_82 (by decide) (fun h2 => ?_) (fun h2 => ?_)
              · have hk9 : k < z.1 := by rcases Nat.lt_or_ge k z.1 with g | g; exact g; exact absurd (by rw [show k = z.1 by omega]) h2
                obtain ⟨p1, d1, a1, a2, a3⟩ := hyB.2.2.1 i hi9
                obtain ⟨p2, d2, b1, b2, b3⟩ := hzB.2.2.1 k hk9
                refine pb_blk B.hx B.hb (lv' := [(4, .int (nI i)), (5, .int (nI k)), (0, .ref mo), (1, .int (nI i0)), (2, .int (nI j0)), (3, .int (nI how))]) (st' := [.ref mo]) hl bkX6_join_91_92 rfl (fun ls hl => ?_)
                refine m_get B hw 6 (by decide) wd_F_X6_23 rfl dX6_join_92 ?_
                refine pb_blk B.hx B.hb (lv' := [(4, .int (nI i)), (5, .int (nI k)), (0, .ref mo), (1, .int (nI i0)), (2, .int (nI j0)), (3, .int (nI how))]) (st' := [.int ((160 * (nI i0)) + (nI i)), .ref (mo + 5)]) hl bkX6_join_95_103 rfl (fun ls hl => ?_)
                rw [ix160]
                refine m_lald B hw 5 (by decide) (by decide) rfl (vp_in_nI (show 160 * i0 + i < 13120 by omega) (by decide)) (v := .long p1) (by rw [nI_clamp (by omega)]; exact a1) dX6_join_103 ?_
                refine pb_blk B.hx B.hb (lv' := [(4, .int (nI i)), (5, .int (nI k)), (0, .ref mo), (1, .int (nI i0)), (2, .int (nI j0)), (3, .int (nI how))]) (st' := [.ref mo, .long p1]) hl bkX6_join_104_105 rfl (fun ls hl => ?_)
                refine m_get B hw 7 (by decide) wd_F_X6_26 rfl dX6_join_105 ?_
                refine pb_blk B.hx B.hb (lv' := [(4, .int (nI i)), (5, .int (nI k)), (0, .ref mo), (1, .int (nI i0)), (2, .int (nI j0)), (3, .int (nI how))]) (st' := [.int ((160 * (nI j0)) + (nI k)), .ref (mo + 6), .long p1]) hl bkX6_join_108_116 rfl (fun ls hl => ?_)
                rw [ix160]
                refine m_lald B hw 6 (by decide) (by decide) rfl (vp_in_nI (show 160 * j0 + k < 13120 by omega) (by decide)) (v := .long d2) (by rw [nI_clamp (by omega)]; exact b2) dX6_join_116 ?_
                refine pb_blk B.hx B.hb (lv' := [(4, .int (nI i)), (5, .int (nI k)), (0, .ref mo), (1, .int (nI i0)), (2, .int (nI j0)), (3, .int (nI how))]) (st' := [.ref mo, .long (p1 * d2)]) hl bkX6_join_117_119 rfl (fun ls hl => ?_)
                refine m_get B hw 6 (by decide) wd_F_X6_23 rfl dX6_join_119 ?_
                refine pb_blk B.hx B.hb (lv' := [(4, .int (nI i)), (5, .int (nI k)), (0, .ref mo), (1, .int (nI i0)), (2, .int (nI j0)), (3, .int (nI how))]) (st' := [.int ((160 * (nI j0)) + (nI k)), .ref (mo + 5), .long (p1 * d2)]) hl bkX6_join_122_130 rfl (fun ls hl => ?_)
                rw [ix160]
                refine m_lald B hw 5 (by decide) (by decide) rfl (vp_in_nI (show 160 * j0 + k < 13120 by omega) (by decide)) (v := .long p2) (by rw [nI_clamp (by omega)]; exact b1) dX6_join_130 ?_
                refine pb_blk B.hx B.hb (lv' := [(4, .int (nI i)), (5, .int (nI k)), (0, .ref mo), (1, .int (nI i0)), (2, .int (nI j0)), (3, .int (nI how))]) (st' := [.ref mo, .long p2, .long (p1 * d2)]) hl bkX6_join_131_132 rfl (fun ls hl => ?_)
                refine m_get B hw 7 (by decide) wd_F_X6_26 rfl dX6_join_132 ?_
                refine pb_blk B.hx B.hb (lv' := [(4, .int (nI i)), (5, .int (nI k)), (0, .ref mo), (1, .int (nI i0)), (2, .int (nI j0)), (3, .int (nI how))]) (st' := [.int ((160 * (nI i0)) + (nI i)), .ref (mo + 6), .long p2, .long (p1 * d2)]) hl bkX6_join_135_143 rfl (fun ls hl => ?_)
                rw [ix160]
                refine m_lald B hw 6 (by decide) (by decide) rfl (vp_in_nI (show 160 * i0 + i < 13120 by omega) (by decide)) (v := .long d1) (by rw [nI_clamp (by omega)]; exact a2) dX6_join_143 ?_
                refine pb_blk B.hx B.hb (lv' := [(4, .int (nI i)), (5, .int (nI k)), (0, .ref mo), (1, .int (nI i0)), (2, .int (nI j0)), (3, .int (nI how))]) (st' := [.long ((p1 * d2) - (p2 * d1))]) hl bkX6_join_144_146 rfl (fun ls hl => ?_)
                exact ordr _ ls hs (by rw [nxt_c hi9 hk9]; exact ord_or a3 b3 (by2 i hi9).bg (bz2 k hk9).bg) hl
              · have hk9 : z.1 ≤ k := Nat.le_of_eq ((nI_eq (by omega) (by omega)).mp h2).symm
                refine z_ldc2 B wd_L_X6_130 dX6_join_85 ?_
                refine pb_blk B.hx B.hb (lv' := [(4, .int (nI i)), (5, .int (nI k)), (0, .ref mo), (1, .int (nI i0)), (2, .int (nI j0)), (3, .int (nI how))]) (st' := [.long (-1)]) hl bkX6_join_88_146 rfl (fun ls hl => ?_)
                exact ordr _ ls hs (Or.inl ⟨by decide, nxt_m hi9 hk9⟩) hl
            · have hi9 : y.1 ≤ i := Nat.le_of_eq ((nI_eq (by omega) (by omega)).mp h1).symm
              refine pb_blk B.hx B.hb (lv' := [(4, .int (nI i)), (5, .int (nI k)), (0, .ref mo), (1, .int (nI i0)), (2, .int (nI j0)), (3, .int (nI how))]) (st' := [.long 1]) hl bkX6_join_70_146 rfl (fun ls hl => ?_)
              exact ordr _ ls hs (Or.inr (Or.inr ⟨by decide, nxt_p hi9⟩)) hl
          refine pb_blk B.hx B.hb (lv' := [(4, .int (nI i)), (5, .int (nI k)), (0, .ref mo), (1, .int (nI i0)), (2, .int (nI j0)), (3, .int (nI how))]) (st' := [.ref mo, .int (nI i)]) hl bkX6_join_37_40 rfl (fun ls hl => ?_)
          refine m_get B hw 5 (by decide) wd_F_X6_20 rfl dX6_join_40 ?_
          refine pb_blk B.hx B.hb (lv' := [(4, .int (nI i)), (5, .int (nI k)), (0, .ref mo), (1, .int (nI i0)), (2, .int (nI j0)), (3, .int (nI how))]) (st' := [.int (nI i0), .ref (mo + 4), .int (nI i)]) hl bkX6_join_43_44 rfl (fun ls hl => ?_)
          refine m_iald B hw 4 (by decide) (by decide) rfl (vp_in_nI (show i0 < 82 by omega) (by decide)) (v := .int (nI y.1)) (by rw [nI_clamp (by omega)]; exact hyB.2.1) dX6_join_44 ?_
          refine lv_icmp_lt (tgt := 59) B.hx B.hb dX6_join_45 (by decide) (fun h1 => ?_) (fun h1 => ?_)
          · have hi9 := (nI_ltI (by omega) (by omega)).mp h1
            exact step ls (by omega) hl
          · have hi9 : y.1 ≤ i := Nat.le_of_not_lt (fun q => h1 ((nI_ltI (by omega) (by omega)).mpr q))
            refine pb_blk B.hx B.hb (lv' := [(4, .int (nI i)), (5, .int (nI k)), (0, .ref mo), (1, .int (nI i0)), (2, .int (nI j0)), (3, .int (nI how))]) (st' := [.ref mo, .int (nI k)]) hl bkX6_join_48_51 rfl (fun ls hl => ?_)
            refine m_get B hw 5 (by decide) wd_F_X6_20 rfl dX6_join_51 ?_
            refine pb_blk B.hx B.hb (lv' := [(4, .int (nI i)), (5, .int (nI k)), (0, .ref mo), (1, .int (nI i0)), (2, .int (nI j0)), (3, .int (nI how))]) (st' := [.int (nI j0), .ref (mo + 4), .int (nI k)]) hl bkX6_join_54_55 rfl (fun ls hl => ?_)
            refine m_iald B hw 4 (by decide) (by decide) rfl (vp_in_nI (show j0 < 82 by omega) (by decide)) (v := .int (nI z.1)) (by rw [nI_clamp (by omega)]; exact hzB.2.1) dX6_join_55 ?_
            refine lv_icmp_ge (tgt := 301) B.hx B.hb dX6_join_56 (by decide) (fun h2 => ?_) (fun h2 => ?_)
            · have hk9 : z.1 ≤ k := nI_geN (by omega) (by omega) h2
              have hE : MgE y.1 y.2.1 z.1 z.2.1 j := ⟨by omega, by rw [hij]; exact Prod.ext (by show i = y.1; omega) (by show k = z.1; omega), hlt⟩
              have hPq : Pst N th as (va_up S 0 (.int 0)) ct1 := hP.ag rfl hag
              refine pb_blk B.hx B.hb (lv' := [(4, .int (nI i)), (5, .int (nI k)), (0, .ref mo), (1, .int (nI i0)), (2, .int (nI j0)), (3, .int (nI how))]) (st' := [.int 3, .ref mo]) hl bkX6_join_301_303 rfl (fun ls hl => ?_)
              rw [show (3 : Int32) = nI 3 from rfl]
              refine m_callV B hw (c_X6_keepSet l G mo _ _ N th as 3 (mgZ how y z j) hPq hz8) cy_X6_keepSet im_X6_keepSet se_X6_keepSet wd_M_X6_185 rfl hl.1 rfl (Nat.le_of_ble_eq_true rfl) ⟨by decide, by decide⟩ ⟨rfl, rfl⟩ ⟨Nat.le_refl _, Nat.le_refl _⟩ dX6_join_303 (fun v H locs Sd ctd hw_87 hv => ?_)
              have hk9 := kp_set hPq (by decide) hv
              have hw := hw_87
              obtain ⟨cc, tt, g1, g2, g3⟩ := hk9
              have hval : ∃ r, v = some (.int r) := by rcases g3 with ⟨-, e9, -⟩ | ⟨-, ⟨r9, e9⟩, -⟩; exact ⟨_, e9⟩; exact ⟨_, e9⟩
              obtain ⟨r9, rfl⟩ := hval
              exact m_iret (v := r9) B hw dX6_join_306 (by exact ⟨cc, tt, Or.inr ⟨i0, j0, hi, hj, rfl, rfl, Or.inr ⟨y, z, hy0, hz0, j, hE, g1⟩⟩, g2, g3⟩) (Nat.le_of_ble_eq_true rfl) (Nat.le_of_ble_eq_true rfl)
            · have hk9 : k < z.1 := by rcases Nat.lt_or_ge k z.1 with g | g; exact g; exact absurd (nI_geI (by omega) (by omega) g) h2
              exact step ls (by omega) hl
    refine pb_blk B.hx B.hb (lv' := [(5, .int 0), (4, .int 0), (0, .ref mo), (1, .int (nI i0)), (2, .int (nI j0)), (3, .int (nI how))]) (st' := [.int 0, .int (nI i0), .ref mo, .ref mo]) hl bkX6_join_11_21 rfl (fun ls hl => ?_)
    rw [show (0 : Int32) = nI (2 * 0) from rfl]
    refine m_callN B hw (c_X6_mark l G (fun _ => False) mo _ _ i0 (2 * 0) (y.2.2 (2 * 0)) (by omega) (hyA.2.2.2 _ (by omega))) cy_X6_mark im_X6_mark se_X6_mark wd_M_X6_161 hw.1 rfl hl.1 rfl (Nat.le_of_ble_eq_true rfl) ⟨by decide, by decide⟩ ⟨rfl, rfl⟩ ⟨Nat.le_refl _, Nat.le_refl _⟩ dX6_join_21 (fun v hv => ?_)
    rw [po_X6_mark] at hv
    subst hv
    refine pb_blk B.hx B.hb (lv' := [(5, .int 0), (4, .int 0), (0, .ref mo), (1, .int (nI i0)), (2, .int (nI j0)), (3, .int (nI how))]) (st' := [.int 0, .int (nI j0), .ref mo, .int (b2i (y.2.2 (2 * 0))), .ref mo]) hl bkX6_join_24_27 rfl (fun ls hl => ?_)
    rw [show (0 : Int32) = nI (2 * 0) from rfl]
    refine m_callN B hw (c_X6_mark l G (fun _ => False) mo _ _ j0 (2 * 0) (z.2.2 (2 * 0)) (by omega) (hzA.2.2.2 _ (by omega))) cy_X6_mark im_X6_mark se_X6_mark wd_M_X6_161 hw.1 rfl hl.1 rfl (Nat.le_of_ble_eq_true rfl) ⟨by decide, by decide⟩ ⟨rfl, rfl⟩ ⟨Nat.le_refl _, Nat.le_refl _⟩ dX6_join_27 (fun v hv => ?_)
    rw [po_X6_mark] at hv
    subst hv
    refine pb_blk B.hx B.hb (lv' := [(5, .int 0), (4, .int 0), (0, .ref mo), (1, .int (nI i0)), (2, .int (nI j0)), (3, .int (nI how))]) (st' := [.int (nI how), .int (b2i (z.2.2 (2 * 0))), .int (b2i (y.2.2 (2 * 0))), .ref mo]) hl bkX6_join_30_31 rfl (fun ls hl => ?_)
    refine m_callS B (c_X6_joined l G (fun _ => False) (y.2.2 (2 * 0)) (z.2.2 (2 * 0)) how hh) cy_X6_joined st_X6_joined wd_M_X6_191 trivial rfl hl.1 rfl (Nat.le_of_ble_eq_true rfl) ⟨by decide, by decide⟩ ⟨rfl, rfl⟩ ⟨Nat.le_refl _, Nat.le_refl _⟩ dX6_join_31 (fun v hv => ?_)
    rw [po_X6_joined] at hv
    subst hv
    refine m_callV B hw (c_X6_start l G mo _ cta (jnB how (y.2.2 (2 * 0)) (z.2.2 (2 * 0)))) cy_X6_start im_X6_start se_X6_start wd_M_X6_177 rfl hl.1 rfl (Nat.le_of_ble_eq_true rfl) ⟨by decide, by decide⟩ ⟨rfl, rfl⟩ ⟨Nat.le_refl _, Nat.le_refl _⟩ dX6_join_34 (fun v H locs Sq0 ct0 hw_88 hv => ?_)
    obtain ⟨rfl, rfl, rfl⟩ := hv
    have hw := hw_88
    obtain ⟨hz1, ag0, -⟩ := st_se (ct := cta) (jnB how (y.2.2 (2 * 0)) (z.2.2 (2 * 0)))
    have hz1 : SeA _ 81 (mgZ how y z 0) := hz1
    exact loop (y.1 + z.1 + 1) 0 0 0 _ _ _ ls (by omega) rfl (fun a ha => absurd ha (Nat.not_lt_zero _)) hw ag0 hz1 (lv_sub hl [1, 0, 2, 3, 4, 5] rfl)

