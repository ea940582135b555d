/-! the words, the classes, the cells: what every contract here speaks of -/
def WS : List Cond := lw_tbl.filter goodWord
theorem WS_in {w : Cond} (h : w ∈ lw_tbl) (hg : goodWord w = true) : w ∈ WS := List.mem_filter.mpr ⟨h, hg⟩
def mws (y : MethodName) (cc : ByteArray) (n : Nat) (r : Option FieldType) : List Cond := .code y cc n r :: WS
theorem WS_good {w x : Cond} (h : w ∈ WS) : w ∈ x :: WS ∧ ((w.onTables && w.keeps) = true ∨ ∃ ty, w = .arrayClass ty) := ⟨List.mem_cons_of_mem _ h, good_of_word (List.mem_filter.mp h).2⟩
theorem mws_in {y : MethodName} {cc : ByteArray} {n : Nat} {r : Option FieldType} {x : Cond} (h : Cond.code y cc n r ∈ WS) : GoodIn (x :: WS) (mws y cc n r) := fun w hw => by
  rcases List.mem_cons.mp hw with e | e
  · subst e; exact WS_good h
  · exact WS_good e
theorem mws_in' {y : MethodName} {cc : ByteArray} {n : Nat} {r : Option FieldType} (h : Cond.code y cc n r ∈ WS) : GoodIn WS (mws y cc n r) := fun w hw => by
  have h0 : w ∈ WS := by
    rcases List.mem_cons.mp hw with e | e
    · subst e; exact h
    · exact e
  exact ⟨h0, good_of_word (List.mem_filter.mp h0).2⟩
/-- the class ids: objects' classes and slots, then the arrays' classes: int, long, boolean, Fraction, Thing -/
abbrev Gm : Type := va_G × (Nat → ClassId)
def tyl (G : Gm) : List (ClassId × FieldType) := [(G.2 0, .int), (G.2 1, .long), (G.2 2, .boolean), (G.2 3, .object RX1), (G.2 4, .object RX4)]
def KX (U : State) : Prop := va_Nw (.methodLinkNest RX0 3 yX4_init "FormulaHouse") U ∧ va_Nw (.methodLinkNest RX2 3 yX4_init "FormulaHouse") U ∧ va_AO RX1 U ∧ va_AO RX4 U ∧ va_Nw (.declares ⟨RX4, "whichKind", "()I"⟩) U ∧ va_Nw (.declares ⟨RX4, "isTooGreat", "()Z"⟩) U ∧ va_Nw (.declares ⟨RX4, "isSameAs", "(LFormulaHouse$Thing;)Z"⟩) U ∧
  va_Nw (.castable RX0 RX0) U ∧ va_Nw (.castable RX2 RX2) U ∧ va_Nw (.castable RX0 RX4) U ∧ va_Nw (.castable RX2 RX4) U ∧ va_Nc RX0 RX2 U ∧ va_Nc RX2 RX0 U
theorem KX.warm {s U : State} (hW : s.WarmedH U.vm) (h : KX s) : KX U := by
  obtain ⟨h1, h2, h3, h4, h5, h6, h7, h8, h9, h10, h11, h12, h13⟩ := h
  exact ⟨h1.warmM hW, h2.warmM hW, h3.moved hW.alike, h4.moved hW.alike, h5.warmD hW, h6.warmD hW, h7.warmD hW, h8.warmC hW, h9.warmC hW, h10.warmC hW, h11.warmC hW, h12.moved hW.alike, h13.moved hW.alike⟩
theorem KX.same {s U : State} (hW : s.vm = U.vm) (h : KX s) : KX U := by
  have ha : s.vm.Alike U.vm := by rw [hW]; exact Vm.Alike.refl _
  obtain ⟨h1, h2, h3, h4, h5, h6, h7, h8, h9, h10, h11, h12, h13⟩ := h
  exact ⟨h1.same rfl hW, h2.same rfl hW, h3.moved ha, h4.moved ha, h5.same rfl hW, h6.same rfl hW, h7.same rfl hW, h8.same rfl hW, h9.same rfl hW, h10.same rfl hW, h11.same rfl hW, h12.moved ha, h13.moved ha⟩
def KK (G : Gm) (U : State) : Prop := va_K G.1 vwCl (tyl G) U ∧ KX U
theorem KK.warm {G : Gm} {s U : State} (hW : s.WarmedH U.vm) (h : KK G s) : KK G U := ⟨va_K.moved hW.alike h.1, h.2.warm hW⟩
theorem KK.same {G : Gm} {s U : State} (hW : s.vm = U.vm) (h : KK G s) : KK G U := ⟨va_K.moved (by rw [hW]; exact Vm.Alike.refl _) h.1, h.2.same hW⟩
/-- what was there outside A is there outside A', as it was -/
def Mv (A : Nat → Prop) (H : Heap) (A' : Nat → Prop) (H' : Heap) : Prop := H.size ≤ H'.size ∧ ∀ q : Nat, q < H.size → ¬ A q → ¬ A' q ∧ H'[q]? = H[q]?
/-- nothing that was there has changed -/
def Ex (H H' : Heap) : Prop := H.size ≤ H'.size ∧ ∀ q : Nat, q < H.size → H'[q]? = H[q]?
theorem Ex.rf {H : Heap} : Ex H H := ⟨Nat.le_refl _, fun _ _ => rfl⟩
theorem Ex.trans {H H1 H2 : Heap} (h : Ex H H1) (h' : Ex H1 H2) : Ex H H2 := ⟨Nat.le_trans h.1 h'.1, fun q hq => (h'.2 q (Nat.lt_of_lt_of_le hq h.1)).trans (h.2 q hq)⟩
theorem Ex.mv {H H' : Heap} (h : Ex H H') (A : Nat → Prop) : Mv A H A H' := ⟨h.1, fun q hq hA => ⟨hA, h.2 q hq⟩⟩
theorem Mv.trans {A A1 A2 : Nat → Prop} {H H1 H2 : Heap} (h : Mv A H A1 H1) (h' : Mv A1 H1 A2 H2) : Mv A H A2 H2 := ⟨Nat.le_trans h.1 h'.1, fun q hq hA => by
  obtain ⟨a, b⟩ := h.2 q hq hA
  obtain ⟨c, d⟩ := h'.2 q (Nat.lt_of_lt_of_le hq h.1) a
  exact ⟨c, d.trans b⟩⟩
/-- one address more -/
def Aq (A : Nat → Prop) (a : Nat) : Nat → Prop := fun q => A q ∨ q = a
theorem Mv.grow {A : Nat → Prop} {H : Heap} : Mv A H (Aq A H.size) H := ⟨Nat.le_refl _, fun q hq hA => ⟨fun h => h.elim hA (fun e => absurd e (Nat.ne_of_lt hq)), rfl⟩⟩
theorem Mv.shrink {A : Nat → Prop} {H : Heap} {a : Nat} : Mv (Aq A a) H A H := ⟨Nat.le_refl _, fun _ _ hA => ⟨fun h => hA (Or.inl h), rfl⟩⟩
/-- a write at a place that may change -/
theorem Mv.put {A : Nat → Prop} {H H' : Heap} {a : Nat} (hz : H'.size = H.size) (hq : ∀ q, q ≠ a → H'[q]? = H[q]?) (ha : A a) : Mv A H A H' := ⟨Nat.le_of_eq hz.symm, fun q _ hA => ⟨hA, hq q (fun e => hA (by rw [e]; exact ha))⟩⟩
def Ob (G : Gm) (A : Nat → Prop) (H : Heap) (q ci : Nat) (fs : List Value) : Prop := ¬ A q ∧ va_at G.1 vwCl (q, .inr (ci, fs)) H
def Ar (A : Nat → Prop) (H : Heap) (q : Nat) (cA : ClassId) (n : Nat) (f : Nat → Value) : Prop := ¬ A q ∧ H[q]? = some (arrV cA n f)
theorem Ob.lt {G : Gm} {A : Nat → Prop} {H : Heap} {q ci : Nat} {fs : List Value} (h : Ob G A H q ci fs) : q < H.size := h.2.lt
theorem Ar.lt {A : Nat → Prop} {H : Heap} {q : Nat} {cA : ClassId} {n : Nat} {f : Nat → Value} (h : Ar A H q cA n f) : q < H.size := (Array.getElem?_eq_some_iff.mp h.2).1
theorem Ob.mv {G : Gm} {A A' : Nat → Prop} {H H' : Heap} {q ci : Nat} {fs : List Value} (h : Ob G A H q ci fs) (m : Mv A H A' H') : Ob G A' H' q ci fs := by
  obtain ⟨a, b⟩ := m.2 q h.lt h.1
  exact ⟨a, h.2.kept b⟩
theorem Ar.mv {A A' : Nat → Prop} {H H' : Heap} {q : Nat} {cA : ClassId} {n : Nat} {f : Nat → Value} (h : Ar A H q cA n f) (m : Mv A H A' H') : Ar A' H' q cA n f := by
  obtain ⟨a, b⟩ := m.2 q h.lt h.1
  exact ⟨a, b.trans h.2⟩
/-- the body of a method: machine, code, class, words -/
def Bd (p : Program) (s : State) (m : MethodId) (args : Array Value) (meth : Method) (c : Code) (G : Gm) (y : MethodName) (cc : ByteArray) (nL : Nat) (ret : Option FieldType) : Prop :=
  p.tables.exec = Jvm.exec ∧ c.code = cc ∧ c.maxLocals = nL ∧ s.vm.findClass y.cls = some m.cls ∧ (∀ w ∈ WS, w.before args s = true) ∧ KK G s ∧ meth.sig.returnType = ret ∧ meth.locks = false ∧ meth.name = y.name
section BD
variable {p : Program} {s : State} {m : MethodId} {args : Array Value} {meth : Method} {c : Code} {G : Gm} {y : MethodName} {cc : ByteArray} {nL : Nat} {ret : Option FieldType}
theorem Bd.hx (B : Bd p s m args meth c G y cc nL ret) : p.tables.exec = Jvm.exec := B.1
theorem Bd.hb (B : Bd p s m args meth c G y cc nL ret) : c.code = cc := B.2.1
theorem Bd.hml (B : Bd p s m args meth c G y cc nL ret) : c.maxLocals = nL := B.2.2.1
theorem Bd.hown (B : Bd p s m args meth c G y cc nL ret) : s.vm.findClass y.cls = some m.cls := B.2.2.2.1
theorem Bd.hts (B : Bd p s m args meth c G y cc nL ret) : ∀ w ∈ WS, w.before args s = true := B.2.2.2.2.1
theorem Bd.hK (B : Bd p s m args meth c G y cc nL ret) : KK G s := B.2.2.2.2.2.1
theorem Bd.hr (B : Bd p s m args meth c G y cc nL ret) : meth.sig.returnType = ret := B.2.2.2.2.2.2.1
theorem Bd.hlk (B : Bd p s m args meth c G y cc nL ret) : meth.locks = false := B.2.2.2.2.2.2.2.1
theorem Bd.hnm (B : Bd p s m args meth c G y cc nL ret) : meth.name = y.name := B.2.2.2.2.2.2.2.2
end BD
/-- a contract's start: the arguments, the classes, what may change lies below, a picture of the heap -/
def Pz (G : Gm) (A : Nat → Prop) (av : List Value) (P : Heap → Prop) : Array Value → State → Prop := fun v U => v = av.toArray ∧ KK G U ∧ (∀ q, A q → q < U.heap.size) ∧ P U.heap
theorem Pz.blind {G : Gm} {A : Nat → Prop} {av : List Value} {P : Heap → Prop} : FrameBlind (Pz G A av P) := fun a U g mk h => ⟨h.1, h.2.1.same rfl, h.2.2⟩
/-- its end, where nothing old has changed -/
def Qz (post : Option Value → Heap → Prop) : Array Value → State → Outcome → State → Prop := fun _ st o t => ∃ v, o = .returned v ∧ Ex st.heap t.heap ∧ post v t.heap
/-- its end, where one cell has changed and no other has come -/
def Qk (q : Nat) (post : Heap → Prop) : Array Value → State → Outcome → State → Prop := fun _ st o t => o = .returned none ∧ t.heap.size = st.heap.size ∧ (∀ x, x ≠ q → t.heap[x]? = st.heap[x]?) ∧ post t.heap
def Mz (l : Launch) (y : MethodName) (cc : ByteArray) (n : Nat) (r : Option FieldType) (rm : Room) (G : Gm) (A : Nat → Prop) (av : List Value) (P : Heap → Prop) (post : Option Value → Heap → Prop) : Prop := Met l y (mws y cc n r) rm (Pz G A av P) (Qz post) rm.cells rm.slots (fun _ => False)
def Mk (l : Launch) (y : MethodName) (cc : ByteArray) (n : Nat) (rm : Room) (G : Gm) (A : Nat → Prop) (q : Nat) (av : List Value) (P : Heap → Prop) (post : Heap → Prop) : Prop := Met l y (mws y cc n none) rm (Pz G A av P) (Qk q post) rm.cells rm.slots (fun x => x = q)
theorem of_met {l : Launch} {y : MethodName} {cc : ByteArray} {n : Nat} {r : Option FieldType} {rm : Room} {G : Gm} {A : Nat → Prop} {av : List Value} {P : Heap → Prop} {Qc : Array Value → State → Outcome → State → Prop} {mc ms : Nat} {free : Addr → Prop}
    (hy : plainName y.cls = true) (hsz : (lg_sl av).length ≤ n)
    (body : ∀ p e s m below meth c ls, Bd p s m av.toArray meth c G y cc n r → (∀ q, A q → q < s.heap.size) → P s.heap → lv_has ls n (lv_args 0 av) → W p l e rm s m av.toArray below meth c s.heap [] 0 0 (MQ below Qc av.toArray s mc ms free) (F0 m 0 ls [])) :
    Met l y (mws y cc n r) rm (Pz G A av P) Qc mc ms free := by
  refine Met.ofW (cc := cc) (maxL := n) (ret := r) hy rfl ?_
  intro p e s m args below meth c s₁ B hml hv
  obtain ⟨rfl, hK, hA, hP⟩ := hv
  have hts := atoms_spec (ws := mws y cc n r) B.pre
  have hl := lv_entry av hsz
  rw [lg_entry_eq]
  exact body p e s m below meth c _ ⟨B.exec, B.bytes, hml, findClass_of_methodNamed B.named, fun w hw => hts w (List.mem_cons_of_mem _ hw), hK, B.returns, B.notSynchronized, (name_of_methodNamed B.named B.method).1⟩ hA hP hl
/-- what is known of a class of ours -/
def CI (ci : Nat) (C : String) (T : u_T) (N : Nat) (ty : Nat → FieldType) : Prop := vwCl[ci]? = some (C, T, N) ∧ (∀ w ∈ u_ws C T N, w ∈ WS) ∧ (∀ k, k < N → parseFieldDescriptor (T k).2.2.1 = some (ty k)) ∧ (∀ a, a < N → ∀ b, b < N → a ≠ b → (T a).2.1 ≠ (T b).2.1) ∧ Cond.instantiable C N ∈ WS ∧ Cond.initialized C ∈ WS
section ROWS
variable {p : Program} {l : Launch} {e : Env} {R : Room} {s : State} {m : MethodId} {args : Array Value} {below : List Frame} {meth : Method} {c : Code} {H : Heap} {locs : List Loc} {cells slots : Nat} {Q : State → Prop} {cc : ByteArray} {pc nL : Nat} {ls : Array Slot} {rest st : List Value} {G : Gm} {A : Nat → Prop} {y : MethodName} {ret : Option FieldType} {mc ms : Nat} {post : Option Value → Heap → Prop}
theorem z_iret (B : Bd p s m args meth c G y cc nL (some .int)) (hd : decode cc pc = .ok (.ireturn, 1)) {v : Int32} (hE : Ex s.heap H) (hp : post (some (.int v)) H) (hc : cells ≤ mc) (hs : slots ≤ ms) : W p l e R s m args below meth c H [] cells slots (MQ below (Qz post) args s mc ms (fun _ => False)) (F0 m pc ls [.int v]) :=
  W.widen hc hs (W.iret B.hx B.hb B.hr (fun t ht _ => ⟨_, rfl, by rw [ht]; exact hE, by rw [ht]; exact hp⟩) (fun q h => nomatch h) hd B.hlk)
theorem z_zret (B : Bd p s m args meth c G y cc nL (some .boolean)) (hd : decode cc pc = .ok (.ireturn, 1)) {v : Int32} (hn : narrow .boolean (.int v) = .int v) (hE : Ex s.heap H) (hp : post (some (.int v)) H) (hc : cells ≤ mc) (hs : slots ≤ ms) : W p l e R s m args below meth c H [] cells slots (MQ below (Qz post) args s mc ms (fun _ => False)) (F0 m pc ls [.int v]) :=
  W.widen hc hs (W.zret B.hx B.hb B.hr hn (fun t ht _ => ⟨_, rfl, by rw [ht]; exact hE, by rw [ht]; exact hp⟩) (fun q h => nomatch h) hd B.hlk)
theorem z_lret (B : Bd p s m args meth c G y cc nL (some .long)) (hd : decode cc pc = .ok (.lreturn, 1)) {v : Int64} (hE : Ex s.heap H) (hp : post (some (.long v)) H) (hc : cells ≤ mc) (hs : slots ≤ ms) : W p l e R s m args below meth c H [] cells slots (MQ below (Qz post) args s mc ms (fun _ => False)) (F0 m pc ls [.long v]) :=
  W.widen hc hs (W.lret B.hx B.hb B.hr (fun t ht _ => ⟨_, rfl, by rw [ht]; exact hE, by rw [ht]; exact hp⟩) (fun q h => nomatch h) hd B.hlk)
theorem z_aret {rt : FieldType} (B : Bd p s m args meth c G y cc nL (some rt)) (hrt : (∃ n, rt = .object n) ∨ ∃ t, rt = .array t) (hd : decode cc pc = .ok (.areturn, 1)) {v : Nat} (hE : Ex s.heap H) (hp : post (some (.ref v)) H) (hc : cells ≤ mc) (hs : slots ≤ ms) : W p l e R s m args below meth c H [] cells slots (MQ below (Qz post) args s mc ms (fun _ => False)) (F0 m pc ls [.ref v]) :=
  W.widen hc hs (W.aret B.hx B.hb B.hr hrt (Or.inr ⟨_, rfl⟩) (fun t ht _ => ⟨_, rfl, by rw [ht]; exact hE, by rw [ht]; exact hp⟩) (fun q h => nomatch h) hd B.hlk)
/-- a constructor's end -/
theorem z_kret {q : Nat} {pk : Heap → Prop} (B : Bd p s m args meth c G y cc nL none) (hd : decode cc pc = .ok (.return_, 1)) (hz : H.size = s.heap.size) (hq : ∀ x, x ≠ q → H[x]? = s.heap[x]?) (hp : pk H) (hl : ∀ z ∈ locs, z.base = q) (hc : cells ≤ mc) (hs : slots ≤ ms) : W p l e R s m args below meth c H locs cells slots (MQ below (Qk q pk) args s mc ms (fun x => x = q)) (F0 m pc ls []) :=
  W.widen hc hs (W.vret B.hx B.hb B.hr (fun t ht _ => ⟨rfl, by rw [ht]; exact hz, by rw [ht]; exact hq, by rw [ht]; exact hp⟩) hl hd B.hlk)
/-- a field is read -/
theorem z_get (B : Bd p s m args meth c G y cc nL ret) {q ci index N : Nat} {C : String} {T : u_T} {ty : Nat → FieldType} {fs : List Value} (K : CI ci C T N ty) (k : Nat) (hk : k < N) (ob : Ob G A H q ci fs) (hl : Cond.fieldLink y.cls index (T k).1 (T k).2.1 (T k).2.2.1 ∈ WS) {v : Value} (hv : fs[k]? = some v) (hd : decode cc pc = .ok (.getfield index, 3))
    (kk : W p l e R s m args below meth c H locs cells slots Q (F0 m (pc + 3) ls (v :: rest))) : W p l e R s m args below meth c H locs cells slots Q (F0 m pc ls (.ref q :: rest)) :=
  va_get (D := G.1) (ci := ci) (ws := [(q, .inr (ci, fs))]) B.hx B.hb B.hts K.2.1 B.hown B.hK.1 (fun j x hj => by
    rcases j with _ | j
    · cases hj; exact ob.2
    · cases hj) 0 rfl K.1 k hk (B.hts _ hl) (fun _ h => h) hv hd kk
/-- a field that isn't final is written; a final one in a constructor -/
theorem z_put0 (B : Bd p s m args meth c G y cc nL ret) {q ci index N : Nat} {C : String} {T : u_T} {ty : Nat → FieldType} {fs : List Value} (K : CI ci C T N ty) (k : Nat) (hk : k < N) (ob : va_at G.1 vwCl (q, .inr (ci, fs)) H) (hl : Cond.fieldLink y.cls index (T k).1 (T k).2.1 (T k).2.2.1 ∈ WS) (hfin : (T k).2.2.2 = false ∨ (T k).2.2.2 = true ∧ y.name = "<init>" ∧ (T k).1 = y.cls) {v : Value} (hn : narrow (ty k) v = v) (hf : fits (ty k) v = true) (hlen : k < fs.length) (hd : decode cc pc = .ok (.putfield index, 3))
    (kk : ∀ (H1 : Heap) (i : Nat), va_at G.1 vwCl (q, .inr (ci, fs.set k v)) H1 → H1.size = H.size → (∀ x, x ≠ q → H1[x]? = H[x]?) → W p l e R s m args below meth c H1 (locs ++ [⟨q, i⟩]) cells slots Q (F0 m (pc + 3) ls rest)) : W p l e R s m args below meth c H locs cells slots Q (F0 m pc ls (v :: .ref q :: rest)) := by
  have hap := va_apart (own := y.cls) B.hts K.2.1 ty K.2.2.1 K.2.2.2.1 B.hK.1 K.1
  obtain ⟨r, h1, cell, q1, q2, q3, q4⟩ := ob
  have hr : r = (C, T, N) := Option.some.inj (h1.symm.trans K.1)
  subst hr
  obtain ⟨hS, hfc, kC, hkC, hkind⟩ := B.hK.1.1 ci _ K.1
  obtain ⟨cf, kf, fi, f, hi, hsl⟩ := hS k hk
  have hst := (u_facts hfc hkC (u_lays B.hts K.2.1 hk) hi).1
  have hlay := B.hts _ (K.2.1 _ (u_in_lay hk))
  unfold u_lay at hlay
  have h6 := u_fits hfc hkC hkind (u_lays B.hts K.2.1 hk) hi (K.2.2.1 k hk) hn hf
  have hfin2 : hasFlag f.accessFlags Acc.final = false ∨ (m.cls = cf ∧ meth.name = "<init>") := by
    rcases hfin with hf0 | ⟨hf0, hn0, hc0⟩
    · rw [if_neg (by rw [hf0]; decide)] at hlay
      exact Or.inl (u_store hfc hkC hkind hlay hi (K.2.2.1 k hk) hn hf).1
    · rw [if_pos hf0] at hlay
      refine Or.inr ⟨?_, by rw [B.hnm]; exact hn0⟩
      obtain ⟨_, _, c', _, _, _, -, -, hf', -, -, -, hown2, -⟩ := Cond.laysFinal_spec hlay
      have e1 : c' = cf := by have := hi.symm.trans hf'; simp at this; exact this.1.symm
      rw [hc0] at hown2
      have := B.hown.symm.trans hown2
      rw [← e1]
      exact Option.some.inj this
  refine W.putf B.hx B.hb B.hown (B.hts _ hl) hi hst hfin2 q1 (by rw [q3]; exact fun h => by cases h) (by rw [hsl]; exact k2_hasslot (q4 k hk)) h6.1 (by rw [q3, q2]; exact h6.2) rfl rfl hd ?_
  have ha : q < H.size := (Array.getElem?_eq_some_iff.mp q1).1
  refine kk _ f.slot ?_ (by simp) (fun x hx => by simp [Array.getElem?_setIfInBounds, Ne.symm hx])
  rw [hsl]
  exact ⟨(C, T, N), K.1, t_OB.to (V := updV (vp_V fs) k v) ⟨cell.setSlot (G.1.2 ci k) v, by simp [Array.getElem?_setIfInBounds, ha], q2, q3, t_set q4 hap hk v⟩ (fun j _ => vp_updV_set hlen v j)⟩
/-- a new object -/
theorem z_new (B : Bd p s m args meth c G y cc nL ret) {ci index N : Nat} {C : String} {T : u_T} {ty : Nat → FieldType} (K : CI ci C T N ty) (hl : Cond.classLink y.cls index C ∈ WS) {fs : List Value} (hfs : ∀ j, j < N → defaultValue (ty j) = vp_V fs j) (hc : cells + 1 ≤ R.cells) (hs : slots + N ≤ R.slots) (hd : decode cc pc = .ok (.new index, 3))
    (kk : ∀ H1 : Heap, va_at G.1 vwCl (H.size, .inr (ci, fs)) H1 → H1.size = H.size + 1 → (∀ q, q < H.size → H1[q]? = H[q]?) → W p l e R s m args below meth c H1 locs (cells + 1) (slots + N) Q (F0 m (pc + 3) ls (.ref H.size :: rest))) : W p l e R s m args below meth c H locs cells slots Q (F0 m pc ls rest) := by
  have hKn := B.hK.1.1 ci _ K.1
  refine W.newcK B.hx B.hb B.hown (B.hts _ hl) (B.hts _ K.2.2.2.2.1) (B.hts _ K.2.2.2.2.2) rfl hd hc hs hKn.2.1 rfl fun H1 kC hkC e1 z1 o1 => ?_
  exact kk H1 ⟨_, K.1, (u_born ty B.hts K.2.1 hKn hkC e1 K.2.2.1).to hfs⟩ z1 o1
/-- a new array of numbers -/
theorem z_newa (B : Bd p s m args meth c G y cc nL ret) {atype : ArrayType} (t0 : Nat) {ty : FieldType} (hty : newarray.typeOf atype = ty) (ht : (tyl G)[t0]? = some (G.2 t0, ty)) (hp : va_RA s (G.2 t0) ty → s.vm.findClass ("[" ++ ty.toString) = some (G.2 t0)) (harr : Cond.arrayClass ty ∈ WS) {n : Int32} {N : Nat} (hn : ¬ n < 0) (hN : n.toNatClampNeg = N) (hby : N * componentBytes ty ≤ 536870912) (hc : cells + 1 ≤ R.cells) (hs : slots + N ≤ R.slots) (hd : decode cc pc = .ok (.newarray atype, 2))
    (kk : ∀ H1 : Heap, H1[H.size]? = some (arrV (G.2 t0) N (fun _ => defaultValue ty)) → H1.size = H.size + 1 → (∀ q, q < H.size → H1[q]? = H[q]?) → W p l e R s m args below meth c H1 locs (cells + 1) (slots + N) Q (F0 m (pc + 2) ls (.ref H.size :: rest))) : W p l e R s m args below meth c H locs cells slots Q (F0 m pc ls (.int n :: rest)) := by
  subst hty
  refine va_newaK B.hx B.hb (B.hts _ harr) rfl hd rfl hn hN hby hc hs rfl fun H1 cA e1 z1 o1 _ hNm => ?_
  have e0 := hp (B.hK.1.2 t0 _ ht).2
  have e : cA = G.2 t0 := Option.some.inj (hNm.symm.trans e0)
  subst e
  exact kk H1 e1 z1 o1
/-- a new array of references -/
theorem z_newq (B : Bd p s m args meth c G y cc nL ret) {C : String} {index : Nat} (t0 : Nat) (ht : (tyl G)[t0]? = some (G.2 t0, .object C)) (hl : Cond.classLink y.cls index C ∈ WS) (hov : va_AO C s) {n : Int32} {N : Nat} (hn : ¬ n < 0) (hN : n.toNatClampNeg = N) (hby : N * 4 ≤ 536870912) (hc : cells + 1 ≤ R.cells) (hs : slots + N ≤ R.slots) (hd : decode cc pc = .ok (.anewarray index, 3))
    (kk : ∀ H1 : Heap, H1[H.size]? = some (arrV (G.2 t0) N (fun _ => .null)) → H1.size = H.size + 1 → (∀ q, q < H.size → H1[q]? = H[q]?) → W p l e R s m args below meth c H1 locs (cells + 1) (slots + N) Q (F0 m (pc + 3) ls (.ref H.size :: rest))) : W p l e R s m args below meth c H locs cells slots Q (F0 m pc ls (.int n :: rest)) := by
  subst hN
  refine W.anew B.hx B.hb B.hown (B.hts _ hl) (va_AO.use hov) rfl hd rfl hn hby hc hs fun cA kA comp f1 f2 f3 f4 => ?_
  obtain ⟨kA', comp', g1, g2, g3, g4⟩ := (B.hK.1.2 t0 _ ht).2
  have e : cA = G.2 t0 := Option.some.inj (f1.symm.trans g4)
  subst e
  refine kk _ (by rw [Array.getElem?_push_size, ← arrV_new]) (by simp) (fun q hq => by rw [Array.getElem?_push, if_neg (Nat.ne_of_lt hq)])
theorem z_inlen {i : Int32} {n : Nat} (h : vp_in i n) (cA : ClassId) (f : Nat → Value) : ¬ (i < 0 ∨ (arrV cA n f).slots.size ≤ i.toNatClampNeg) := by rw [arrV_size]; exact h
theorem z_inrd {i : Int32} {n : Nat} (h : vp_in i n) (cA : ClassId) (f : Nat → Value) : (arrV cA n f).slots[i.toNatClampNeg]? = some (f i.toNatClampNeg) := arrV_read _ _ (Nat.not_le.mp fun q => h (Or.inr q))
theorem z_alen (B : Bd p s m args meth c G y cc nL ret) (t0 : Nat) {ty : FieldType} (ht : (tyl G)[t0]? = some (G.2 t0, ty)) {q n : Nat} {f : Nat → Value} (hr : H[q]? = some (arrV (G.2 t0) n f)) (hd : decode cc pc = .ok (.arraylength, 1))
    (kk : W p l e R s m args below meth c H locs cells slots Q (F0 m (pc + 1) ls (.int (nI n) :: rest))) : W p l e R s m args below meth c H locs cells slots Q (F0 m pc ls (.ref q :: rest)) :=
  W.alen B.hx B.hb hr ((B.hK.1.2 t0 _ ht).1 n f) (by rw [arrV_size]; rfl) rfl rfl hd kk
theorem z_iald (B : Bd p s m args meth c G y cc nL ret) {q n : Nat} {f : Nat → Value} (hr : H[q]? = some (arrV (G.2 0) n f)) {i : Int32} (hi : vp_in i n) {v : Value} (hv : f i.toNatClampNeg = v) (hd : decode cc pc = .ok (.iaload, 1))
    (kk : W p l e R s m args below meth c H locs cells slots Q (F0 m (pc + 1) ls (v :: rest))) : W p l e R s m args below meth c H locs cells slots Q (F0 m pc ls (.int i :: .ref q :: rest)) := by
  subst hv
  exact W.iald B.hx B.hb hr ((B.hK.1.2 0 _ rfl).1 n f) (fun q => by cases q) (z_inlen hi _ _) (z_inrd hi _ _) rfl rfl hd kk
theorem z_lald (B : Bd p s m args meth c G y cc nL ret) {q n : Nat} {f : Nat → Value} (hr : H[q]? = some (arrV (G.2 1) n f)) {i : Int32} (hi : vp_in i n) {v : Value} (hv : f i.toNatClampNeg = v) (hd : decode cc pc = .ok (.laload, 1))
    (kk : W p l e R s m args below meth c H locs cells slots Q (F0 m (pc + 1) ls (v :: rest))) : W p l e R s m args below meth c H locs cells slots Q (F0 m pc ls (.int i :: .ref q :: rest)) := by
  subst hv
  exact W.lald B.hx B.hb hr ((B.hK.1.2 1 _ rfl).1 n f) (fun q => by cases q) (z_inlen hi _ _) (z_inrd hi _ _) rfl rfl hd kk
theorem z_zald (B : Bd p s m args meth c G y cc nL ret) {q n : Nat} {f : Nat → Value} (hr : H[q]? = some (arrV (G.2 2) n f)) {i : Int32} (hi : vp_in i n) {v : Value} (hv : f i.toNatClampNeg = v) (hd : decode cc pc = .ok (.baload, 1))
    (kk : W p l e R s m args below meth c H locs cells slots Q (F0 m (pc + 1) ls (v :: rest))) : W p l e R s m args below meth c H locs cells slots Q (F0 m pc ls (.int i :: .ref q :: rest)) := by
  subst hv
  exact W.zald B.hx B.hb hr ((B.hK.1.2 2 _ rfl).1 n f) (fun q => by cases q) (z_inlen hi _ _) (z_inrd hi _ _) rfl rfl hd kk
theorem z_aald (B : Bd p s m args meth c G y cc nL ret) (t0 : Nat) {C : String} (ht : (tyl G)[t0]? = some (G.2 t0, .object C)) {q n : Nat} {f : Nat → Value} (hr : H[q]? = some (arrV (G.2 t0) n f)) {i : Int32} (hi : vp_in i n) {v : Value} (hv : f i.toNatClampNeg = v) (hd : decode cc pc = .ok (.aaload, 1))
    (kk : W p l e R s m args below meth c H locs cells slots Q (F0 m (pc + 1) ls (v :: rest))) : W p l e R s m args below meth c H locs cells slots Q (F0 m pc ls (.int i :: .ref q :: rest)) := by
  subst hv
  exact W.aald (ty := .object C) B.hx B.hb hr ((B.hK.1.2 t0 _ ht).1 n f) rfl (fun q => by cases q) (z_inlen hi _ _) (z_inrd hi _ _) rfl rfl hd kk
theorem z_iast (B : Bd p s m args meth c G y cc nL ret) {q n : Nat} {f : Nat → Value} (hr : H[q]? = some (arrV (G.2 0) n f)) {i x : Int32} (hi : vp_in i n) (hd : decode cc pc = .ok (.iastore, 1))
    (kk : ∀ H1 : Heap, H1[q]? = some (arrV (G.2 0) n (updV f i.toNatClampNeg (.int x))) → H1.size = H.size → (∀ z, z ≠ q → H1[z]? = H[z]?) → W p l e R s m args below meth c H1 (locs ++ [⟨q, i.toNatClampNeg⟩]) cells slots Q (F0 m (pc + 1) ls rest)) : W p l e R s m args below meth c H locs cells slots Q (F0 m pc ls (.int x :: .int i :: .ref q :: rest)) :=
  W.iast B.hx B.hb hr ((B.hK.1.2 0 _ rfl).1 n f) (fun q => by cases q) (z_inlen hi _ _) rfl rfl hd fun H1 e z oq => kk H1 (by rw [e, arrV_store]) z oq
theorem z_last (B : Bd p s m args meth c G y cc nL ret) {q n : Nat} {f : Nat → Value} (hr : H[q]? = some (arrV (G.2 1) n f)) {i : Int32} {x : Int64} (hi : vp_in i n) (hd : decode cc pc = .ok (.lastore, 1))
    (kk : ∀ H1 : Heap, H1[q]? = some (arrV (G.2 1) n (updV f i.toNatClampNeg (.long x))) → H1.size = H.size → (∀ z, z ≠ q → H1[z]? = H[z]?) → W p l e R s m args below meth c H1 (locs ++ [⟨q, i.toNatClampNeg⟩]) cells slots Q (F0 m (pc + 1) ls rest)) : W p l e R s m args below meth c H locs cells slots Q (F0 m pc ls (.long x :: .int i :: .ref q :: rest)) :=
  W.last B.hx B.hb hr ((B.hK.1.2 1 _ rfl).1 n f) (fun q => by cases q) (z_inlen hi _ _) rfl rfl hd fun H1 e z oq => kk H1 (by rw [e, arrV_store]) z oq
theorem z_zast (B : Bd p s m args meth c G y cc nL ret) {q n : Nat} {f : Nat → Value} (hr : H[q]? = some (arrV (G.2 2) n f)) {i x : Int32} (hi : vp_in i n) (hn : narrow .boolean (.int x) = .int x) (hd : decode cc pc = .ok (.bastore, 1))
    (kk : ∀ H1 : Heap, H1[q]? = some (arrV (G.2 2) n (updV f i.toNatClampNeg (.int x))) → H1.size = H.size → (∀ z, z ≠ q → H1[z]? = H[z]?) → W p l e R s m args below meth c H1 (locs ++ [⟨q, i.toNatClampNeg⟩]) cells slots Q (F0 m (pc + 1) ls rest)) : W p l e R s m args below meth c H locs cells slots Q (F0 m pc ls (.int x :: .int i :: .ref q :: rest)) :=
  W.zast B.hx B.hb hr ((B.hK.1.2 2 _ rfl).1 n f) (fun q => by cases q) (z_inlen hi _ _) rfl rfl hd fun H1 e z oq => kk H1 (by rw [e, hn, arrV_store]) z oq
/-- a Fraction into an array of Fractions -/
theorem z_aastF (B : Bd p s m args meth c G y cc nL ret) {q n v : Nat} {f : Nat → Value} {fs : List Value} (hr : H[q]? = some (arrV (G.2 3) n f)) (ob : Ob G A H v 1 fs) {i : Int32} (hi : vp_in i n) (hd : decode cc pc = .ok (.aastore, 1))
    (kk : ∀ H1 : Heap, H1[q]? = some (arrV (G.2 3) n (updV f i.toNatClampNeg (.ref v))) → H1.size = H.size → (∀ z, z ≠ q → H1[z]? = H[z]?) → W p l e R s m args below meth c H1 (locs ++ [⟨q, i.toNatClampNeg⟩]) cells slots Q (F0 m (pc + 1) ls rest)) : W p l e R s m args below meth c H locs cells slots Q (F0 m pc ls (.ref v :: .int i :: .ref q :: rest)) := by
  have hlt : i.toNatClampNeg < n := Nat.not_le.mp fun q => hi (Or.inr q)
  have h0 : ¬ i < 0 := fun q => hi (Or.inl q)
  obtain ⟨r', hr', cellV, g1, g2, g3, -⟩ := ob.2
  have hcls := (B.hK.1.1 1 (RX1, TX1, 2) rfl).2
  obtain ⟨kA, comp, k1, k2, k3, -⟩ := (B.hK.1.2 3 _ rfl).2
  have hcomp : comp = G.1.1 1 := Option.some.inj (k3.symm.trans hcls.1)
  subst hcomp
  obtain ⟨kC, hkC, -⟩ := hcls.2
  exact W.aast B.hx B.hb hr (fun q h => by cases h) (fun h => by cases h) k1 k2 rfl hkC ⟨h0, by show _ < (arrV _ _ _).slots.size; rw [arrV_size]; exact hlt⟩ g1 (fun q h => by rw [g3] at h; cases h) (by rw [g2]; exact hkC) (by rw [g2]; exact va_assign hcls) rfl rfl hd fun H1 e z oq => kk H1 (by rw [e, arrV_store]) z oq
theorem z_forget {g : JFrame} {x : Loc} (hx : s.heap.size ≤ x.base) (kk : W p l e R s m args below meth c H locs cells slots Q g) : W p l e R s m args below meth c H (locs ++ [x]) cells slots Q g := W.forget (L := [x]) (fun q hq => by rw [List.mem_singleton.mp hq]; exact hx) kk
/-- what a call needs of the method that it names -/
def CY (y : MethodName) (cc : ByteArray) (n : Nat) (r : Option FieldType) (np : Nat) : Prop := Cond.code y cc n r ∈ WS ∧ Cond.initialized y.cls ∈ WS ∧ (y.cls ≠ "java/lang/invoke/MethodHandle" ∧ y.cls ≠ "java/lang/invoke/VarHandle" ∧ (parseMethodDescriptor y.desc).map (fun d => d.parameters.length) = some np)
theorem z_cb {y' : MethodName} {bytes : ByteArray} {maxL np index : Nat} {r' : Option FieldType} {rm : Room} (B : Bd p s m args meth c G y cc nL ret) (K : CY y' bytes maxL r' np) (hl : Cond.methodLink y.cls index y' ∈ WS) (hR : rm.frames + 1 ≤ R.frames ∧ 8 + (maxL + 11) + rm.locals ≤ R.locals) : CallB R s args y.cls index y' bytes maxL r' (mws y' bytes maxL r') rm rm.cells rm.slots np :=
  callB_of np B.hts (mws_in' K.1) rfl rfl rfl (B.hts _ K.2.1) (B.hts _ hl) K.2.2 hR
theorem z_after {rm : Room} {a : Array Value} {g : JFrame} {ps : Option Value → Heap → Prop} (hr : CallRun p l e R s m args below meth c H locs cells slots rm.cells rm.slots g rest (Qz ps a) (fun _ => False))
    (kk : ∀ (v : Option Value) (H1 : Heap), Ex H H1 → ps v H1 → W p l e R s m args below meth c H1 locs (cells + rm.cells) (slots + rm.slots) Q { g with pc := g.pc + 3, stack := v.toList ++ rest }) : W p l e R s m args below meth c H locs cells slots Q g := by
  refine W.callX hr (fun _ h => h.elim) fun v st0 t h0 hq => ?_
  obtain ⟨v', e, hE, hp⟩ := hq
  cases e
  subst h0
  exact kk v t.heap hE hp
/-- a call of an object's method -/
theorem z_callV {y' : MethodName} {bytes : ByteArray} {maxL np index b ci N : Nat} {r' : Option FieldType} {rm : Room} {A' : Nat → Prop} {As : List Value} {P : Heap → Prop} {ps : Option Value → Heap → Prop} {C : String} {T : u_T} {fs : List Value} (B : Bd p s m args meth c G y cc nL ret) (hM : Mz l y' bytes maxL r' rm G A' (.ref b :: As) P ps) (K : CY y' bytes maxL r' np) (hi : Cond.instanceMethod y' ∈ WS) (hse : Cond.selects C y' y' ∈ WS) (hl : Cond.methodLink y.cls index y' ∈ WS)
    (hci : vwCl[ci]? = some (C, T, N)) (ob : va_at G.1 vwCl (b, .inr (ci, fs)) H) (hA : ∀ q, A' q → q < H.size) (hP : P H) (hn : As.length = np) (hls : ls.size = nL) (hst : st = As.reverse ++ .ref b :: rest) (hw : (rest.map fun v => v.category).sum ≤ 8) (hR : rm.frames + 1 ≤ R.frames ∧ 8 + (maxL + 11) + rm.locals ≤ R.locals) (hf : cells + rm.cells ≤ R.cells ∧ slots + rm.slots ≤ R.slots) (hd : decode cc pc = .ok (.invokevirtual index, 3))
    (kk : ∀ (v : Option Value) (H1 : Heap), Ex H H1 → ps v H1 → W p l e R s m args below meth c H1 locs (cells + rm.cells) (slots + rm.slots) Q (F0 m (pc + 3) ls (v.toList ++ rest))) : W p l e R s m args below meth c H locs cells slots Q (F0 m pc ls st) := by
  subst hst
  obtain ⟨r, h1, cell, q1, q2, q3, q4⟩ := ob
  have hcl : s.vm.findClass C = some cell.cls := by rw [q2]; exact (B.hK.1.1 ci _ hci).2.1
  exact z_after (W.runV (Ts := WS) ⟨B.hx, B.hb, B.hml, B.hown, B.hts⟩ hM ⟨z_cb B K hl hR, B.hts _ hi, B.hts _ hse⟩ ⟨Pz.blind, ⟨cell, q1, by rw [q3]; rfl, hcl⟩, fun U hU hW => ⟨rfl, B.hK.warm hW, by rw [hU]; exact hA, by rw [hU]; exact hP⟩⟩ rfl hn hls rfl (lv_room hw) hd hf) kk
/-- a call of a static method -/
theorem z_callS {y' : MethodName} {bytes : ByteArray} {maxL np index : Nat} {r' : Option FieldType} {rm : Room} {A' : Nat → Prop} {As : List Value} {P : Heap → Prop} {ps : Option Value → Heap → Prop} (B : Bd p s m args meth c G y cc nL ret) (hM : Mz l y' bytes maxL r' rm G A' As P ps) (K : CY y' bytes maxL r' np) (hi : Cond.static y' ∈ WS) (hl : Cond.methodLink y.cls index y' ∈ WS)
    (hA : ∀ q, A' q → q < H.size) (hP : P H) (hn : As.length = np) (hls : ls.size = nL) (hst : st = As.reverse ++ rest) (hw : (rest.map fun v => v.category).sum ≤ 8) (hR : rm.frames + 1 ≤ R.frames ∧ 8 + (maxL + 11) + rm.locals ≤ R.locals) (hf : cells + rm.cells ≤ R.cells ∧ slots + rm.slots ≤ R.slots) (hd : decode cc pc = .ok (.invokestatic index, 3))
    (kk : ∀ (v : Option Value) (H1 : Heap), Ex H H1 → ps v H1 → W p l e R s m args below meth c H1 locs (cells + rm.cells) (slots + rm.slots) Q (F0 m (pc + 3) ls (v.toList ++ rest))) : W p l e R s m args below meth c H locs cells slots Q (F0 m pc ls st) := by
  subst hst
  exact z_after (W.runS (Ts := WS) ⟨B.hx, B.hb, B.hml, B.hown, B.hts⟩ hM ⟨z_cb B K hl hR, B.hts _ hi⟩ ⟨Pz.blind, fun U hU hW => ⟨rfl, B.hK.warm hW, by rw [hU]; exact hA, by rw [hU]; exact hP⟩⟩ rfl hn hls rfl (lv_room hw) hd hf) kk
theorem z_afterK {rm : Room} {a : Array Value} {g : JFrame} {b : Nat} {ps : Heap → Prop} (hr : CallRun p l e R s m args below meth c H locs cells slots rm.cells rm.slots g rest (Qk b ps a) (fun x => x = b)) (hb : s.heap.size ≤ b)
    (kk : ∀ H1 : Heap, H1.size = H.size → (∀ x, x ≠ b → H1[x]? = H[x]?) → ps H1 → W p l e R s m args below meth c H1 locs (cells + rm.cells) (slots + rm.slots) Q { g with pc := g.pc + 3, stack := rest }) : W p l e R s m args below meth c H locs cells slots Q g := by
  refine W.callX hr (fun x h => by rw [h]; exact hb) fun v st0 t h0 hq => ?_
  obtain ⟨e, hz, hx, hp⟩ := hq
  cases e
  subst h0
  exact kk t.heap hz hx hp
/-- a call of a constructor on a cell that is new here -/
theorem z_ctor {y' : MethodName} {bytes : ByteArray} {maxL np index b : Nat} {rm : Room} {A' : Nat → Prop} {As : List Value} {P : Heap → Prop} {ps : Heap → Prop} (B : Bd p s m args meth c G y cc nL ret) (hM : Mk l y' bytes maxL rm G A' b (.ref b :: As) P ps) (K : CY y' bytes maxL none np) (hi : Cond.instanceMethod y' ∈ WS) (hin : y'.name = "<init>") (hl : Cond.methodLink y.cls index y' ∈ WS)
    (hb : s.heap.size ≤ b) (hA : ∀ q, A' q → q < H.size) (hP : P H) (hn : As.length = np) (hls : ls.size = nL) (hst : st = As.reverse ++ .ref b :: rest) (hw : (rest.map fun v => v.category).sum ≤ 8) (hR : rm.frames + 1 ≤ R.frames ∧ 8 + (maxL + 11) + rm.locals ≤ R.locals) (hf : cells + rm.cells ≤ R.cells ∧ slots + rm.slots ≤ R.slots) (hd : decode cc pc = .ok (.invokespecial index, 3))
    (kk : ∀ H1 : Heap, H1.size = H.size → (∀ x, x ≠ b → H1[x]? = H[x]?) → ps H1 → W p l e R s m args below meth c H1 locs (cells + rm.cells) (slots + rm.slots) Q (F0 m (pc + 3) ls rest)) : W p l e R s m args below meth c H locs cells slots Q (F0 m pc ls st) := by
  subst hst
  exact z_afterK (W.runI (Ts := WS) ⟨B.hx, B.hb, B.hml, B.hown, B.hts⟩ hM ⟨z_cb B K hl hR, hin, B.hts _ hi⟩ ⟨Pz.blind, fun U hU hW => ⟨rfl, B.hK.warm hW, by rw [hU]; exact hA, by rw [hU]; exact hP⟩⟩ rfl hn hls rfl (lv_room hw) hd hf) hb kk
end ROWS
