/-! rows of fractions, formulas -/
def dgI (c : Nat → Rat) : Int32 := if c 3 ≠ 0 then 3 else if c 2 ≠ 0 then 2 else if c 1 ≠ 0 then 1 else if c 0 ≠ 0 then 0 else -1
theorem dgI_at {c : Nat → Rat} {k : Nat} (hk : k < 4) (h0 : c k ≠ 0) (h : ∀ j, k < j → j < 4 → c j = 0) : dgI c = nI k := by
  unfold dgI
  rcases (show k = 0 ∨ k = 1 ∨ k = 2 ∨ k = 3 by omega) with rfl | rfl | rfl | rfl
  · rw [if_neg (by simp [h 3]), if_neg (by simp [h 2]), if_neg (by simp [h 1]), if_pos h0]; rfl
  · rw [if_neg (by simp [h 3]), if_neg (by simp [h 2]), if_pos h0]; rfl
  · rw [if_neg (by simp [h 3]), if_pos h0]; rfl
  · rw [if_pos h0]; rfl
theorem dgI_no {c : Nat → Rat} (h : ∀ j, j < 4 → c j = 0) : dgI c = -1 := by
  unfold dgI
  rw [if_neg (by simp [h 3]), if_neg (by simp [h 2]), if_neg (by simp [h 1]), if_neg (by simp [h 0])]
theorem dgI_congr {c c' : Nat → Rat} (h : ∀ k, k < 4 → c k = c' k) : dgI c = dgI c' := by
  unfold dgI
  rw [h 0 (by decide), h 1 (by decide), h 2 (by decide), h 3 (by decide)]
def RowF (G : Gm) (A : Nat → Prop) (H : Heap) (a n : Nat) (c : Nat → Rat) : Prop := ∃ f : Nat → Value, Ar A H a (G.2 3) n f ∧ ∀ k, k < n → ∃ x, f k = .ref x ∧ Fr G A H x (c k)
/-- a row that is being filled: its first k places -/
def RowM (G : Gm) (A : Nat → Prop) (H : Heap) (a n k : Nat) (c : Nat → Rat) : Prop := ∃ f : Nat → Value, H[a]? = some (arrV (G.2 3) n f) ∧ ∀ j, j < k → ∃ x, f j = .ref x ∧ Fr G (Aq A a) H x (c j)
def Fo (G : Gm) (A : Nat → Prop) (H : Heap) (q : Nat) (c : Nat → Rat) : Prop := ∃ a : Nat, Ob G A H q 0 [.ref a, .int (dgI c)] ∧ RowF G A H a 4 c
section FM
variable {G : Gm} {A A' : Nat → Prop} {H H' H1 H2 : Heap} {a n k q : Nat} {c c' : Nat → Rat}
theorem RowF.mv (h : RowF G A H a n c) (m : Mv A H A' H') : RowF G A' H' a n c := by
  obtain ⟨f, h1, h2⟩ := h
  refine ⟨f, h1.mv m, fun k hk => ?_⟩
  obtain ⟨x, e, hx⟩ := h2 k hk
  exact ⟨x, e, hx.mv m⟩
theorem RowF.congr (h : RowF G A H a n c) (e : ∀ k, k < n → c k = c' k) : RowF G A H a n c' := by
  obtain ⟨f, h1, h2⟩ := h
  refine ⟨f, h1, fun k hk => ?_⟩
  obtain ⟨x, e1, hx⟩ := h2 k hk
  exact ⟨x, e1, by rw [← e k hk]; exact hx⟩
theorem Fo.mv (h : Fo G A H q c) (m : Mv A H A' H') : Fo G A' H' q c := by
  obtain ⟨a, h1, h2⟩ := h
  exact ⟨a, h1.mv m, h2.mv m⟩
theorem Fo.congr (h : Fo G A H q c) (e : ∀ k, k < 4 → c k = c' k) : Fo G A H q c' := by
  obtain ⟨a, h1, h2⟩ := h
  exact ⟨a, by rw [← dgI_congr e]; exact h1, h2.congr e⟩
theorem Fo.lt (h : Fo G A H q c) : q < H.size := by
  obtain ⟨a, h1, h2⟩ := h
  exact h1.lt
theorem RowM.lt (h : RowM G A H a n k c) : a < H.size := by
  obtain ⟨f, h1, -⟩ := h
  exact (Array.getElem?_eq_some_iff.mp h1).1
/-- a new row, all null -/
theorem RowM.new (h : H1[H.size]? = some (arrV (G.2 3) n (fun _ => .null))) : RowM G A H1 H.size n 0 c := ⟨_, h, fun j hj => absurd hj (Nat.not_lt_zero _)⟩
/-- nothing old has changed -/
theorem RowM.ex (h : RowM G A H a n k c) (e : Ex H H1) : RowM G A H1 a n k c := by
  obtain ⟨f, h1, h2⟩ := h
  refine ⟨f, (e.2 a (Array.getElem?_eq_some_iff.mp h1).1).trans h1, fun j hj => ?_⟩
  obtain ⟨x, e1, hx⟩ := h2 j hj
  exact ⟨x, e1, hx.mv (e.mv _)⟩
/-- one place is written -/
theorem RowM.put {f : Nat → Value} {i k' x : Nat} {r : Rat} (h1 : H[a]? = some (arrV (G.2 3) n f)) (h2 : ∀ j, j < k → ∃ x, f j = .ref x ∧ Fr G (Aq A a) H x (c j)) (hx : Fr G (Aq A a) H x r) (w1 : H1[a]? = some (arrV (G.2 3) n (updV f i (.ref x)))) (z : H1.size = H.size) (o : ∀ z, z ≠ a → H1[z]? = H[z]?) (hk : ∀ j, j < k' → j ≠ i → j < k ∧ c' j = c j) (hr : i < k' → c' i = r) : RowM G A H1 a n k' c' := by
  have m : Mv (Aq A a) H (Aq A a) H1 := Mv.put z o (Or.inr rfl)
  refine ⟨_, w1, fun j hj => ?_⟩
  by_cases e : j = i
  · subst e
    exact ⟨x, by simp [updV], by rw [hr hj]; exact hx.mv m⟩
  · obtain ⟨hj2, e2⟩ := hk j hj e
    obtain ⟨y, e3, hy⟩ := h2 j hj2
    exact ⟨y, by simp [updV, e, e3], by rw [e2]; exact hy.mv m⟩
theorem RowM.fin (h : RowM G A H a n n c) (ha : ¬ A a) : RowF G A H a n c := by
  obtain ⟨f, h1, h2⟩ := h
  refine ⟨f, ⟨ha, h1⟩, fun k hk => ?_⟩
  obtain ⟨x, e1, hx⟩ := h2 k hk
  exact ⟨x, e1, hx.mv Mv.shrink⟩
/-- a cell's constructor has ended: it may change no more -/
theorem Mv.fin {q : Nat} (z : H2.size = H1.size) (o : ∀ x, x ≠ q → H2[x]? = H1[x]?) : Mv (Aq A q) H1 A H2 := ⟨Nat.le_of_eq z.symm, fun x _ hA => ⟨fun h => hA (Or.inl h), o x (fun e => hA (Or.inr e))⟩⟩
/-- a formula is made of a row: before its constructor, and behind it -/
theorem fo_pre (h : RowM G A H a 4 4 c) (ha : ¬ A a) (o1 : Ex H H1) : RowF G (Aq A H.size) H1 a 4 c := ((h.fin ha).mv Mv.grow).mv (o1.mv _)
theorem fo_post (h : RowF G (Aq A q) H1 a 4 c) (z : H2.size = H1.size) (o : ∀ x, x ≠ q → H2[x]? = H1[x]?) (hq : ¬ A q) (ob : va_at G.1 vwCl (q, .inr (0, [.ref a, .int (dgI c)])) H2) : Fo G A H2 q c := ⟨a, ⟨hq, ob⟩, h.mv (Mv.fin z o)⟩
end FM
section ROWS3
variable {p : Program} {l : Launch} {e : Env} {R : Room} {s : State} {m : MethodId} {args : Array Value} {below : List Frame} {meth : Method} {c : Code} {H : Heap} {locs : List Loc} {cells slots : Nat} {Q : State → Prop} {cc : ByteArray} {pc nL : Nat} {ls : Array Slot} {rest st : List Value} {G : Gm} {A : Nat → Prop} {y : MethodName} {ret : Option FieldType}
theorem n_vret {mc ms : Nat} {pn : Option Value → Prop} (B : Bd p s m args meth c G y cc nL none) (hd : decode cc pc = .ok (.return_, 1)) (hp : pn none) (hc : cells ≤ mc) (hs : slots ≤ ms) : W p l e R s m args below meth c s.heap [] cells slots (MQ below (Qn pn) args s mc ms (fun _ => False)) (F0 m pc ls []) :=
  W.widen hc hs (W.vret B.hx B.hb B.hr (fun t ht _ => ⟨_, rfl, ht, hp⟩) (fun q h => nomatch h) hd B.hlk)
theorem n_aret {mc ms : Nat} {rt : FieldType} {pn : Option Value → Prop} (B : Bd p s m args meth c G y cc nL (some rt)) (hrt : (∃ n, rt = .object n) ∨ ∃ t, rt = .array t) (hd : decode cc pc = .ok (.areturn, 1)) {v : Nat} (hp : pn (some (.ref v))) (hc : cells ≤ mc) (hs : slots ≤ ms) : W p l e R s m args below meth c s.heap [] cells slots (MQ below (Qn pn) args s mc ms (fun _ => False)) (F0 m pc ls [.ref v]) :=
  W.widen hc hs (W.aret B.hx B.hb B.hr hrt (Or.inr ⟨_, rfl⟩) (fun t ht _ => ⟨_, rfl, ht, hp⟩) (fun q h => nomatch h) hd B.hlk)
/-- the private constructor of Thing, from a class of its nest -/
theorem n_ctorN {y' : MethodName} {bytes : ByteArray} {maxL np index b : Nat} {host : String} {rm : Room} {As : List Value} {P : Heap → Prop} {pn : Option Value → Prop} (B : Bd p s m args meth c G y cc nL ret) (hM : Mn l y' bytes maxL none rm G (.ref b :: As) P pn) (hv : ∀ v, pn v → v = none) (K : CY y' bytes maxL none np) (hi : Cond.instanceMethod y' ∈ WS) (hin : y'.name = "<init>") (hl : va_Nw (.methodLinkNest y.cls index y' host) s)
    (hP : P H) (hn : As.length = np) (hls : ls.size = nL) (hst : st = As.reverse ++ .ref b :: rest) (hw : (rest.map fun v => v.category).sum ≤ 8) (hR : rm.frames + 1 ≤ R.frames ∧ 8 + (maxL + 11) + rm.locals ≤ R.locals) (hf : cells + rm.cells ≤ R.cells ∧ slots + rm.slots ≤ R.slots) (hd : decode cc pc = .ok (.invokespecial index, 3))
    (kk : W p l e R s m args below meth c H locs (cells + rm.cells) (slots + rm.slots) Q (F0 m (pc + 3) ls rest)) : W p l e R s m args below meth c H locs cells slots Q (F0 m pc ls st) := by
  subst hst
  have hr : va_Run p l e R s m args below meth c H locs cells slots rm.cells rm.slots (F0 m pc ls (As.reverse ++ .ref b :: rest)) rest (Qn pn (Value.ref b :: As).toArray) (fun _ => False) := va_runIN (Ts := WS) ⟨B.hx, B.hb, B.hml, B.hown, B.hts⟩ hM ⟨va_cnB np B.hts (mws_in' K.1) rfl rfl rfl hl (B.hts _ K.2.1) K.2.2 hR, hin, B.hts _ hi⟩ ⟨Pz.blind, fun U hU hW => ⟨rfl, B.hK.warm hW, fun _ h => h.elim, by rw [hU]; exact hP⟩⟩ rfl hn hls rfl (lv_room hw) hd hf
  intro T hT X
  obtain ⟨v, st₀, t, T', L, h0, X', hL, e1, e2, ⟨v', ev, hh, hp⟩, sg⟩ := hr T hT X
  cases ev
  have hv' := hv _ hp
  subst hv'
  obtain ⟨t2, a1, b1⟩ := kk T' (by rw [e1, hh, h0]) (Stand.forget X' (fun q h => (hL q h).elim))
  exact ⟨t2, sg t2 a1, b1⟩
end ROWS3
