/-! the model: one object, its rows at the places behind it -/
def tyA : Nat → Nat
  | 1 => 0
  | 4 => 0
  | 7 => 2
  | 16 => 0
  | 17 => 0
  | _ => 1
def lenA : Nat → Nat
  | 1 => 80
  | 2 => 320
  | 3 => 320
  | 4 => 82
  | 5 => 13120
  | 6 => 13120
  | 7 => 26322
  | 12 => 2
  | 13 => 2
  | 16 => 161
  | 17 => 161
  | _ => 10
abbrev Sc : Type := Nat → Value
abbrev Ct : Type := Nat → Nat → Value
def mfs (mo : Nat) (S : Sc) : List Value := [S 0, S 1, .ref (mo + 1), .ref (mo + 2), .ref (mo + 3), .ref (mo + 4), .ref (mo + 5), .ref (mo + 6), .ref (mo + 7), .ref (mo + 8), .ref (mo + 9), .ref (mo + 10), .ref (mo + 11), S 13, S 14, S 15, .ref (mo + 12), .ref (mo + 13), S 18, .ref (mo + 14), .ref (mo + 15), S 21, .ref (mo + 16), .ref (mo + 17)]
def MS (G : Gm) (H : Heap) (mo : Nat) (S : Sc) (ct : Ct) : Prop := va_at G.1 vwCl (mo, .inr (5, mfs mo S)) H ∧ ∀ a, 1 ≤ a → a ≤ 17 → H[mo + a]? = some (arrV (G.2 (tyA a)) (lenA a) (ct a))
def FM (mo : Nat) : Nat → Prop := fun x => mo ≤ x ∧ x ≤ mo + 17
def Mw (G : Gm) (mo : Nat) (H0 H : Heap) (locs : List Loc) (S : Sc) (ct : Ct) : Prop := MS G H mo S ct ∧ H.size = H0.size ∧ (∀ x, ¬ FM mo x → H[x]? = H0[x]?) ∧ ∀ z ∈ locs, FM mo z.base
theorem Mw.start {G : Gm} {mo : Nat} {H : Heap} {S : Sc} {ct : Ct} (h : MS G H mo S ct) : Mw G mo H H [] S ct := ⟨h, rfl, fun _ _ => rfl, fun _ h => nomatch h⟩
/-- a contract of a method of the model: it changes the model's own cells alone -/
def Qm (G : Gm) (mo : Nat) (post : Option Value → Sc → Ct → Prop) : Array Value → State → Outcome → State → Prop := fun _ st o t => ∃ v S' ct', o = .returned v ∧ t.heap.size = st.heap.size ∧ (∀ x, ¬ FM mo x → t.heap[x]? = st.heap[x]?) ∧ MS G t.heap mo S' ct' ∧ post v S' ct'
def Mm (l : Launch) (y : MethodName) (cc : ByteArray) (n : Nat) (r : Option FieldType) (rm : Room) (G : Gm) (mo : Nat) (S : Sc) (ct : Ct) (av : List Value) (post : Option Value → Sc → Ct → Prop) : Prop := Met l y (mws y cc n r) rm (Pz G (fun _ => False) av (fun H => MS G H mo S ct)) (Qm G mo post) rm.cells rm.slots (FM mo)
section ROWSM
variable {p : Program} {l : Launch} {e : Env} {R : Room} {s : State} {m : MethodId} {args : Array Value} {below : List Frame} {meth : Method} {c : Code} {H : Heap} {locs : List Loc} {cells slots : Nat} {Q : State → Prop} {cc : ByteArray} {pc nL : Nat} {ls : Array Slot} {rest st : List Value} {G : Gm} {y : MethodName} {ret : Option FieldType} {mc ms mo : Nat} {post : Option Value → Sc → Ct → Prop} {S : Sc} {ct : Ct}
theorem m_iret (B : Bd p s m args meth c G y cc nL (some .int)) (hw : Mw G mo s.heap H locs S ct) (hd : decode cc pc = .ok (.ireturn, 1)) {v : Int32} (hp : post (some (.int v)) S ct) (hc : cells ≤ mc) (hs : slots ≤ ms) : W p l e R s m args below meth c H locs cells slots (MQ below (Qm G mo post) args s mc ms (FM mo)) (F0 m pc ls [.int v]) :=
  W.widen hc hs (W.iret B.hx B.hb B.hr (fun t ht _ => ⟨_, S, ct, rfl, by rw [ht]; exact hw.2.1, by rw [ht]; exact hw.2.2.1, by rw [ht]; exact hw.1, hp⟩) hw.2.2.2 hd B.hlk)
theorem m_zret (B : Bd p s m args meth c G y cc nL (some .boolean)) (hw : Mw G mo s.heap H locs S ct) (hd : decode cc pc = .ok (.ireturn, 1)) {v : Int32} (hn : narrow .boolean (.int v) = .int v) (hp : post (some (.int v)) S ct) (hc : cells ≤ mc) (hs : slots ≤ ms) : W p l e R s m args below meth c H locs cells slots (MQ below (Qm G mo post) args s mc ms (FM mo)) (F0 m pc ls [.int v]) :=
  W.widen hc hs (W.zret B.hx B.hb B.hr hn (fun t ht _ => ⟨_, S, ct, rfl, by rw [ht]; exact hw.2.1, by rw [ht]; exact hw.2.2.1, by rw [ht]; exact hw.1, hp⟩) hw.2.2.2 hd B.hlk)
theorem m_vret (B : Bd p s m args meth c G y cc nL none) (hw : Mw G mo s.heap H locs S ct) (hd : decode cc pc = .ok (.return_, 1)) (hp : post none S ct) (hc : cells ≤ mc) (hs : slots ≤ ms) : W p l e R s m args below meth c H locs cells slots (MQ below (Qm G mo post) args s mc ms (FM mo)) (F0 m pc ls []) :=
  W.widen hc hs (W.vret B.hx B.hb B.hr (fun t ht _ => ⟨_, S, ct, rfl, by rw [ht]; exact hw.2.1, by rw [ht]; exact hw.2.2.1, by rw [ht]; exact hw.1, hp⟩) hw.2.2.2 hd B.hlk)
theorem m_get (B : Bd p s m args meth c G y cc nL ret) {H0 : Heap} (hw : Mw G mo H0 H locs S ct) {index : Nat} (k : Nat) (hk : k < 24) (hl : Cond.fieldLink y.cls index (TX6 k).1 (TX6 k).2.1 (TX6 k).2.2.1 ∈ WS) {v : Value} (hv : (mfs mo S)[k]? = some v) (hd : decode cc pc = .ok (.getfield index, 3))
    (kk : W p l e R s m args below meth c H locs cells slots Q (F0 m (pc + 3) ls (v :: rest))) : W p l e R s m args below meth c H locs cells slots Q (F0 m pc ls (.ref mo :: rest)) :=
  z_get (A := fun _ => False) B ciX6 k hk (obF hw.1.1) hl hv hd kk
theorem m_put (B : Bd p s m args meth c G y cc nL ret) {H0 : Heap} (hw : Mw G mo H0 H locs S ct) {index : Nat} (k : Nat) (hk : k < 24) (hl : Cond.fieldLink y.cls index (TX6 k).1 (TX6 k).2.1 (TX6 k).2.2.1 ∈ WS) (hfin : (TX6 k).2.2.2 = false) {v : Value} (hn : narrow (tyX6 k) v = v) (hf : fits (tyX6 k) v = true) (hset : (mfs mo S).set k v = mfs mo (va_up S k v)) (hd : decode cc pc = .ok (.putfield index, 3))
    (kk : ∀ (H1 : Heap) (locs1 : List Loc), Mw G mo H0 H1 locs1 (va_up S k v) ct → W p l e R s m args below meth c H1 locs1 cells slots Q (F0 m (pc + 3) ls rest)) : W p l e R s m args below meth c H locs cells slots Q (F0 m pc ls (v :: .ref mo :: rest)) :=
  z_put0 B ciX6 k hk hw.1.1 hl (Or.inl hfin) hn hf hk hd (fun H1 i ob z o => kk H1 _ ⟨⟨by rw [hset] at ob; exact ob, fun a h1 h2 => (o (mo + a) (by omega)).trans (hw.1.2 a h1 h2)⟩, by rw [z]; exact hw.2.1, fun x hx => (o x (fun e9 => hx ⟨by omega, by omega⟩)).trans (hw.2.2.1 x hx), fun z hz => (List.mem_append.mp hz).elim (hw.2.2.2 z) (fun h9 => by rw [List.mem_singleton.mp h9]; exact ⟨Nat.le_refl _, by show mo ≤ _; omega⟩)⟩)
theorem m_iald (B : Bd p s m args meth c G y cc nL ret) {H0 : Heap} (hw : Mw G mo H0 H locs S ct) (a : Nat) (h1 : 1 ≤ a) (h2 : a ≤ 17) (ht : tyA a = 0) {i : Int32} (hi : vp_in i (lenA a)) {v : Value} (hv : ct a i.toNatClampNeg = v) (hd : decode cc pc = .ok (.iaload, 1)) (kk : W p l e R s m args below meth c H locs cells slots Q (F0 m (pc + 1) ls (v :: rest))) : W p l e R s m args below meth c H locs cells slots Q (F0 m pc ls (.int i :: .ref (mo + a) :: rest)) :=
  z_iald B (by have h9 := hw.1.2 a h1 h2; rw [ht] at h9; exact h9) hi hv hd kk
theorem m_lald (B : Bd p s m args meth c G y cc nL ret) {H0 : Heap} (hw : Mw G mo H0 H locs S ct) (a : Nat) (h1 : 1 ≤ a) (h2 : a ≤ 17) (ht : tyA a = 1) {i : Int32} (hi : vp_in i (lenA a)) {v : Value} (hv : ct a i.toNatClampNeg = v) (hd : decode cc pc = .ok (.laload, 1)) (kk : W p l e R s m args below meth c H locs cells slots Q (F0 m (pc + 1) ls (v :: rest))) : W p l e R s m args below meth c H locs cells slots Q (F0 m pc ls (.int i :: .ref (mo + a) :: rest)) :=
  z_lald B (by have h9 := hw.1.2 a h1 h2; rw [ht] at h9; exact h9) hi hv hd kk
theorem m_zald (B : Bd p s m args meth c G y cc nL ret) {H0 : Heap} (hw : Mw G mo H0 H locs S ct) (a : Nat) (h1 : 1 ≤ a) (h2 : a ≤ 17) (ht : tyA a = 2) {i : Int32} (hi : vp_in i (lenA a)) {v : Value} (hv : ct a i.toNatClampNeg = v) (hd : decode cc pc = .ok (.baload, 1)) (kk : W p l e R s m args below meth c H locs cells slots Q (F0 m (pc + 1) ls (v :: rest))) : W p l e R s m args below meth c H locs cells slots Q (F0 m pc ls (.int i :: .ref (mo + a) :: rest)) :=
  z_zald B (by have h9 := hw.1.2 a h1 h2; rw [ht] at h9; exact h9) hi hv hd kk
theorem Mw.put {H0 H1 : Heap} {x : Loc} {f : Nat → Value} (hw : Mw G mo H0 H locs S ct) (a : Nat) (h1 : 1 ≤ a) (h2 : a ≤ 17) (w1 : H1[mo + a]? = some (arrV (G.2 (tyA a)) (lenA a) f)) (z : H1.size = H.size) (o : ∀ q, q ≠ mo + a → H1[q]? = H[q]?) (hx : x.base = mo + a) : Mw G mo H0 H1 (locs ++ [x]) S (va_up ct a f) :=
  ⟨⟨hw.1.1.kept (q := (mo, _)) (o mo (by omega)), fun b g1 g2 => by
    by_cases e9 : b = a
    · subst e9; rw [va_up_self]; exact w1
    · rw [va_up_ne _ _ e9]; exact (o (mo + b) (by omega)).trans (hw.1.2 b g1 g2)⟩, by rw [z]; exact hw.2.1, fun q hq => (o q (fun e9 => hq ⟨by omega, by omega⟩)).trans (hw.2.2.1 q hq), fun z hz => (List.mem_append.mp hz).elim (hw.2.2.2 z) (fun h9 => by rw [List.mem_singleton.mp h9, hx]; exact ⟨by omega, by omega⟩)⟩
theorem m_iast (B : Bd p s m args meth c G y cc nL ret) {H0 : Heap} (hw : Mw G mo H0 H locs S ct) (a : Nat) (h1 : 1 ≤ a) (h2 : a ≤ 17) (ht : tyA a = 0) {i x : Int32} (hi : vp_in i (lenA a)) (hd : decode cc pc = .ok (.iastore, 1)) (kk : ∀ (H1 : Heap) (locs1 : List Loc), Mw G mo H0 H1 locs1 S (va_up ct a (updV (ct a) i.toNatClampNeg (.int x))) → W p l e R s m args below meth c H1 locs1 cells slots Q (F0 m (pc + 1) ls rest)) : W p l e R s m args below meth c H locs cells slots Q (F0 m pc ls (.int x :: .int i :: .ref (mo + a) :: rest)) :=
  z_iast B (by have h9 := hw.1.2 a h1 h2; rw [ht] at h9; exact h9) hi hd (fun H1 w1 z o => kk H1 _ (hw.put a h1 h2 (by rw [ht]; exact w1) z o rfl))
theorem m_last (B : Bd p s m args meth c G y cc nL ret) {H0 : Heap} (hw : Mw G mo H0 H locs S ct) (a : Nat) (h1 : 1 ≤ a) (h2 : a ≤ 17) (ht : tyA a = 1) {i : Int32} {x : Int64} (hi : vp_in i (lenA a)) (hd : decode cc pc = .ok (.lastore, 1)) (kk : ∀ (H1 : Heap) (locs1 : List Loc), Mw G mo H0 H1 locs1 S (va_up ct a (updV (ct a) i.toNatClampNeg (.long x))) → W p l e R s m args below meth c H1 locs1 cells slots Q (F0 m (pc + 1) ls rest)) : W p l e R s m args below meth c H locs cells slots Q (F0 m pc ls (.long x :: .int i :: .ref (mo + a) :: rest)) :=
  z_last B (by have h9 := hw.1.2 a h1 h2; rw [ht] at h9; exact h9) hi hd (fun H1 w1 z o => kk H1 _ (hw.put a h1 h2 (by rw [ht]; exact w1) z o rfl))
theorem m_zast (B : Bd p s m args meth c G y cc nL ret) {H0 : Heap} (hw : Mw G mo H0 H locs S ct) (a : Nat) (h1 : 1 ≤ a) (h2 : a ≤ 17) (ht : tyA a = 2) {i x : Int32} (hi : vp_in i (lenA a)) (hn : narrow .boolean (.int x) = .int x) (hd : decode cc pc = .ok (.bastore, 1)) (kk : ∀ (H1 : Heap) (locs1 : List Loc), Mw G mo H0 H1 locs1 S (va_up ct a (updV (ct a) i.toNatClampNeg (.int x))) → W p l e R s m args below meth c H1 locs1 cells slots Q (F0 m (pc + 1) ls rest)) : W p l e R s m args below meth c H locs cells slots Q (F0 m pc ls (.int x :: .int i :: .ref (mo + a) :: rest)) :=
  z_zast B (by have h9 := hw.1.2 a h1 h2; rw [ht] at h9; exact h9) hi hn hd (fun H1 w1 z o => kk H1 _ (hw.put a h1 h2 (by rw [ht]; exact w1) z o rfl))
theorem m_after {rm : Room} {a : Array Value} {post' : Option Value → Sc → Ct → Prop} (hr : CallRun p l e R s m args below meth c H locs cells slots rm.cells rm.slots (F0 m pc ls st) rest (Qm G mo post' a) (FM mo)) (hz : rm.cells = 0 ∧ rm.slots = 0) (hw : Mw G mo s.heap H locs S ct)
    (kk : ∀ (v : Option Value) (H1 : Heap) (locs1 : List Loc) (S1 : Sc) (ct1 : Ct), Mw G mo s.heap H1 locs1 S1 ct1 → post' v S1 ct1 → W p l e R s m args below meth c H1 locs1 cells slots Q (F0 m (pc + 3) ls (v.toList ++ rest))) : W p l e R s m args below meth c H locs cells slots Q (F0 m pc ls st) := by
  intro T hT X
  obtain ⟨v, st₀, t, T', L, h0, X', hL, e1, ⟨v', S1, ct1, ev, z1, o1, hm, hp⟩, sg⟩ := hr T hT X
  cases ev
  rw [hz.1, hz.2] at X'
  rw [h0] at z1 o1
  obtain ⟨t2, a1, b1⟩ := kk v t.heap (locs ++ L) S1 ct1 ⟨hm, by rw [z1]; exact hw.2.1, fun x hx => (o1 x hx).trans (hw.2.2.1 x hx), fun z hz => (List.mem_append.mp hz).elim (hw.2.2.2 z) (hL z)⟩ hp T' e1 X'
  exact ⟨t2, sg t2 a1, b1⟩
theorem m_callV {y' : MethodName} {bytes : ByteArray} {maxL np index : Nat} {r' : Option FieldType} {rm : Room} {As : List Value} {post' : Option Value → Sc → Ct → Prop} (B : Bd p s m args meth c G y cc nL ret) (hw : Mw G mo s.heap H locs S ct) (hM : Mm l y' bytes maxL r' rm G mo S ct (.ref mo :: As) post') (K : CY y' bytes maxL r' np) (hi : Cond.instanceMethod y' ∈ WS) (hse : Cond.selects RX6 y' y' ∈ WS) (hl : Cond.methodLink y.cls index y' ∈ WS)
    (hn : As.length = np) (hls : ls.size = nL) (hst : st = As.reverse ++ .ref mo :: rest) (hww : (rest.map fun v => v.category).sum ≤ 8) (hR : rm.frames + 1 ≤ R.frames ∧ 8 + (maxL + 11) + rm.locals ≤ R.locals) (hz : rm.cells = 0 ∧ rm.slots = 0) (hf : cells ≤ R.cells ∧ slots ≤ R.slots) (hd : decode cc pc = .ok (.invokevirtual index, 3))
    (kk : ∀ (v : Option Value) (H1 : Heap) (locs1 : List Loc) (S1 : Sc) (ct1 : Ct), Mw G mo s.heap H1 locs1 S1 ct1 → post' v S1 ct1 → W p l e R s m args below meth c H1 locs1 cells slots Q (F0 m (pc + 3) ls (v.toList ++ rest))) : W p l e R s m args below meth c H locs cells slots Q (F0 m pc ls st) := by
  subst hst
  obtain ⟨r, h1, cell, q1, q2, q3, q4⟩ := hw.1.1
  have hcl : s.vm.findClass RX6 = some cell.cls := by rw [q2]; exact (B.hK.1.1 5 _ rfl).2.1
  exact m_after (W.runV (Ts := WS) ⟨B.hx, B.hb, B.hml, B.hown, B.hts⟩ hM ⟨z_cb B K hl hR, B.hts _ hi, B.hts _ hse⟩ ⟨Pz.blind, ⟨cell, q1, by rw [q3]; rfl, hcl⟩, fun U hU hW => ⟨rfl, B.hK.warm hW, fun _ h => h.elim, by rw [hU]; exact hw.1⟩⟩ rfl hn hls rfl (lv_room hww) hd (by rw [hz.1, hz.2]; exact hf)) hz hw kk
/-- a reading method of the model -/
theorem m_callN {y' : MethodName} {bytes : ByteArray} {maxL np index : Nat} {r' : Option FieldType} {rm : Room} {As : List Value} {P : Heap → Prop} {pn : Option Value → Prop} (B : Bd p s m args meth c G y cc nL ret) {H0 : Heap} (hw : Mw G mo H0 H locs S ct) (hM : Mn l y' bytes maxL r' rm G (.ref mo :: As) P pn) (K : CY y' bytes maxL r' np) (hi : Cond.instanceMethod y' ∈ WS) (hse : Cond.selects RX6 y' y' ∈ WS) (hl : Cond.methodLink y.cls index y' ∈ WS)
    (hP : P H) (hn : As.length = np) (hls : ls.size = nL) (hst : st = As.reverse ++ .ref mo :: rest) (hww : (rest.map fun v => v.category).sum ≤ 8) (hR : rm.frames + 1 ≤ R.frames ∧ 8 + (maxL + 11) + rm.locals ≤ R.locals) (hz : rm.cells = 0 ∧ rm.slots = 0) (hf : cells ≤ R.cells ∧ slots ≤ R.slots) (hd : decode cc pc = .ok (.invokevirtual index, 3))
    (kk : ∀ (v : Option Value), pn v → W p l e R s m args below meth c H locs cells slots Q (F0 m (pc + 3) ls (v.toList ++ rest))) : W p l e R s m args below meth c H locs cells slots Q (F0 m pc ls st) :=
  n_callV (ci := 5) B hM K hi hse hl rfl hw.1.1 hP hn hls hst hww hR (by rw [hz.1, hz.2]; exact hf) hd (fun v hv => by rw [hz.1, hz.2, Nat.add_zero, Nat.add_zero]; exact kk v hv)
theorem m_callS {y' : MethodName} {bytes : ByteArray} {maxL np index : Nat} {r' : Option FieldType} {rm : Room} {As : List Value} {P : Heap → Prop} {pn : Option Value → Prop} (B : Bd p s m args meth c G y cc nL ret) (hM : Mn l y' bytes maxL r' rm G As P pn) (K : CY y' bytes maxL r' np) (hi : Cond.static y' ∈ WS) (hl : Cond.methodLink y.cls index y' ∈ WS)
    (hP : P H) (hn : As.length = np) (hls : ls.size = nL) (hst : st = As.reverse ++ rest) (hww : (rest.map fun v => v.category).sum ≤ 8) (hR : rm.frames + 1 ≤ R.frames ∧ 8 + (maxL + 11) + rm.locals ≤ R.locals) (hz : rm.cells = 0 ∧ rm.slots = 0) (hf : cells ≤ R.cells ∧ slots ≤ R.slots) (hd : decode cc pc = .ok (.invokestatic index, 3))
    (kk : ∀ (v : Option Value), pn v → W p l e R s m args below meth c H locs cells slots Q (F0 m (pc + 3) ls (v.toList ++ rest))) : W p l e R s m args below meth c H locs cells slots Q (F0 m pc ls st) :=
  n_callS B hM K hi hl hP hn hls hst hww hR (by rw [hz.1, hz.2]; exact hf) hd (fun v hv => by rw [hz.1, hz.2, Nat.add_zero, Nat.add_zero]; exact kk v hv)
end ROWSM
/-! what the rows hold -/
def RwL (ct : Ct) (x y n : Nat) (u : Nat → Rat) : Prop := ∀ i, i < n → ∃ p d : Int64, ct x i = .long p ∧ ct y i = .long d ∧ Frx p d (u i)
def FoA (ct : Ct) (k : Nat) (u : Nat → Rat) : Prop := ct 1 k = .int (kdF u) ∧ ∀ i, i < 4 → ∃ p d : Int64, ct 2 (4 * k + i) = .long p ∧ ct 3 (4 * k + i) = .long d ∧ Frx p d (u i)
def SeA (ct : Ct) (k : Nat) (z : St3) : Prop := z.1 ≤ 160 ∧ ct 4 k = .int (nI z.1) ∧ (∀ i, i < z.1 → ∃ p d : Int64, ct 5 (160 * k + i) = .long p ∧ ct 6 (160 * k + i) = .long d ∧ Frx p d (z.2.1 i)) ∧ ∀ j, j < 2 * z.1 + 1 → ct 7 (321 * k + j) = .int (b2i (z.2.2 j))
def ThA (ct : Ct) (k : Nat) : Th → Prop
  | .inl u => FoA ct k u
  | .inr z => ct 1 k = .int 2 ∧ SeA ct k z
def Pst (N : Nat) (th : Nat → Th) (as : St3) (S : Sc) (ct : Ct) : Prop := N ≤ 80 ∧ S 1 = .int (nI N) ∧ (∀ k, k < N → ThA ct k (th k)) ∧ SeA ct 80 as
/-- what stands for things and for what is assumed is as it was -/
def Ag (ct ct' : Ct) : Prop := ct' 1 = ct 1 ∧ ct' 2 = ct 2 ∧ ct' 3 = ct 3 ∧ (∀ i, i < 81 → ct' 4 i = ct 4 i) ∧ (∀ i, i < 12960 → ct' 5 i = ct 5 i ∧ ct' 6 i = ct 6 i) ∧ ∀ i, i < 26001 → ct' 7 i = ct 7 i
theorem Ag.rf {ct : Ct} : Ag ct ct := ⟨rfl, rfl, rfl, fun _ _ => rfl, fun _ _ => ⟨rfl, rfl⟩, fun _ _ => rfl⟩
theorem Ag.trans {a b c : Ct} (h : Ag a b) (g : Ag b c) : Ag a c := by
  obtain ⟨h1, h2, h3, h4, h5, h6⟩ := h
  obtain ⟨g1, g2, g3, g4, g5, g6⟩ := g
  exact ⟨g1.trans h1, g2.trans h2, g3.trans h3, fun i hi => (g4 i hi).trans (h4 i hi), fun i hi => ⟨(g5 i hi).1.trans (h5 i hi).1, (g5 i hi).2.trans (h5 i hi).2⟩, fun i hi => (g6 i hi).trans (h6 i hi)⟩
theorem Ag.hi {ct ct' : Ct} (h : ∀ a, 1 ≤ a → a ≤ 7 → ct' a = ct a) : Ag ct ct' := ⟨h 1 (by decide) (by decide), h 2 (by decide) (by decide), h 3 (by decide) (by decide), fun i _ => by rw [h 4 (by decide) (by decide)], fun i _ => ⟨by rw [h 5 (by decide) (by decide)], by rw [h 6 (by decide) (by decide)]⟩, fun i _ => by rw [h 7 (by decide) (by decide)]⟩
theorem SeA.ag {ct ct' : Ct} {k : Nat} {z : St3} (h : SeA ct k z) (g : Ag ct ct') (hk : k ≤ 80) : SeA ct' k z := by
  obtain ⟨h0, h1, h2, h3⟩ := h
  obtain ⟨g1, g2, g3, g4, g5, g6⟩ := g
  refine ⟨h0, (g4 k (by omega)).trans h1, fun i hi => ?_, fun j hj => (g6 _ (by omega)).trans (h3 j hj)⟩
  obtain ⟨p, d, e1, e2, e3⟩ := h2 i hi
  exact ⟨p, d, (g5 _ (by omega)).1.trans e1, (g5 _ (by omega)).2.trans e2, e3⟩
theorem ThA.ag {ct ct' : Ct} {k : Nat} {t : Th} (h : ThA ct k t) (g : Ag ct ct') (hk : k ≤ 80) : ThA ct' k t := by
  cases t with
  | inl u =>
    obtain ⟨h1, h2⟩ := h
    exact ⟨by rw [g.1]; exact h1, by rw [g.2.1, g.2.2.1]; exact h2⟩
  | inr z => exact ⟨by rw [g.1]; exact h.1, h.2.ag g hk⟩
theorem Pst.ag {N : Nat} {th : Nat → Th} {as : St3} {S S' : Sc} {ct ct' : Ct} (h : Pst N th as S ct) (hS : S' 1 = S 1) (g : Ag ct ct') : Pst N th as S' ct' := ⟨h.1, hS.trans h.2.1, fun k hk => (h.2.2.1 k hk).ag g (by have := h.1; omega), h.2.2.2.ag g (Nat.le_refl _)⟩
