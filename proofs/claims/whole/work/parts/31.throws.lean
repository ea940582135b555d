/-! methods that may throw: their premises, contracts, rows -/
abbrev eIO : String := "java/lang/IndexOutOfBoundsException"
abbrev eIA : String := "java/lang/IllegalArgumentException"
abbrev eIS : String := "java/lang/IllegalStateException"
abbrev eAR : String := "java/lang/ArithmeticException"
abbrev exN : List String := ["java/lang/RuntimeException", "java/lang/Exception"]
/-- the texts that the class throws -/
abbrev exT : List (String × Nat × String) := [("FormulaHouse", 31, "a number through 0"), ("FormulaHouse", 198, "no room for one more"), ("FormulaHouse", 203, "too great a part"), ("FormulaHouse", 185, "no such thing"), ("FormulaHouse", 187, "not a number or polynomial"), ("FormulaHouse", 195, "too great a degree"), ("FormulaHouse", 189, "not a number"), ("FormulaHouse", 94, "divided by 0"), ("FormulaHouse", 107, "no such op"), ("FormulaHouse$Signs", 27, "a degree that can't be told"), ("FormulaHouse$Signs", 75, "an answer that is no fraction"), ("FormulaHouse", 191, "not a set"), ("FormulaHouse", 139, "no such part"), ("FormulaHouse", 154, "no such piece"), ("FormulaHouse", 157, "no such side or part"), ("FormulaHouse", 178, "nothing would be assumed")]
abbrev exC : List (String × String) := [(eIO, eIO), (eIA, eIA), (eIS, eIS), (eAR, eAR)]
abbrev exD : List (String × String) := [(eIA, eIO), (eIS, eIO), (eIS, eIA), (eIS, eAR), (eAR, eIO), (eAR, eIA)]
abbrev exL : List String := ["java/lang/RuntimeException", "java/lang/Exception", "java/lang/Throwable"]
def KV (U : State) : Prop := (∀ x ∈ exT, ∃ sa, vk_R x.1 x.2.1 x.2.2 sa U) ∧ (∀ x ∈ exC, va_Nw (.castable x.1 x.2) U) ∧ (∀ x ∈ exD, va_Nc x.1 x.2 U) ∧ ∀ x ∈ exL, va_Nw (.declares (Bundle.initS x)) U
def KZ (A : Nat → Prop) (U : State) (H : Heap) : Prop := vx_Zq Bundle.tN "UNASSIGNED_STACK" Bundle.steD A U H ∧ vx_Zq Bundle.tN "SUPPRESSED_SENTINEL" Bundle.listD A U H
def KT (U : State) : Prop := KV U ∧ KZ (fun _ => False) U U.heap
theorem KV.warm {s U : State} (hW : s.WarmedH U.vm) (h : KV s) : KV U := by
  obtain ⟨h1, h2, h3, h4⟩ := h
  refine ⟨fun x hx => ?_, fun x hx => (h2 x hx).warmC hW, fun x hx => (h3 x hx).moved hW.alike, fun x hx => (h4 x hx).warmD hW⟩
  obtain ⟨sa, ha⟩ := h1 x hx
  exact ⟨sa, vk_R.warm hW ha⟩
theorem KV.same {s U : State} (hW : s.vm = U.vm) (h : KV s) : KV U := by
  have ha : s.vm.Alike U.vm := by rw [hW]; exact Vm.Alike.refl _
  obtain ⟨h1, h2, h3, h4⟩ := h
  refine ⟨fun x hx => ?_, fun x hx => (h2 x hx).same rfl hW, fun x hx => (h3 x hx).moved ha, fun x hx => (h4 x hx).same rfl hW⟩
  obtain ⟨sa, hs⟩ := h1 x hx
  exact ⟨sa, vk_R.same hW.symm hs⟩
theorem KZ.moved {A : Nat → Prop} {s U : State} {H : Heap} (ha : s.vm.Alike U.vm) (h : KZ A s H) : KZ A U H := ⟨vx_Zq.moved ha h.1, vx_Zq.moved ha h.2⟩
theorem KZ.kept {A : Nat → Prop} {s : State} {H H1 : Heap} (h : KZ A s H) (hq : ∀ a : Nat, a < H.size → ¬ A a → H1[a]? = H[a]?) : KZ A s H1 := ⟨h.1.kept hq, h.2.kept hq⟩
theorem KZ.narrow {A B : Nat → Prop} {s : State} {H : Heap} (h : KZ A s H) (hAB : ∀ q, B q → A q) : KZ B s H := ⟨h.1.narrow hAB, h.2.narrow hAB⟩
theorem KT.same {s U : State} (hW : s.vm = U.vm) (hH : U.heap = s.heap) (h : KT s) : KT U := ⟨h.1.same hW, by rw [hH]; exact h.2.moved (by rw [hW]; exact Vm.Alike.refl _)⟩
theorem KT.warm {s U : State} (hW : s.WarmedH U.vm) (hE : Ex s.heap U.heap) (h : KT s) : KT U := ⟨h.1.warm hW, (h.2.kept (fun a ha _ => hE.2 a ha)).moved hW.alike⟩
/-- a contract's start, of a method that may throw -/
def Px (G : Gm) (A : Nat → Prop) (av : List Value) (P : Heap → Prop) : Array Value → State → Prop := fun v U => v = av.toArray ∧ KK G U ∧ KT U ∧ (∀ q, A q → q < U.heap.size) ∧ P U.heap
theorem Px.blind {G : Gm} {A : Nat → Prop} {av : List Value} {P : Heap → Prop} : FrameBlind (Px G A av P) := fun a U g mk h => ⟨h.1, h.2.1.same rfl, h.2.2.1.same rfl rfl, h.2.2.2⟩
/-- its end, where only the cells of F have changed -/
def Qy (F : Nat → Prop) (post : Option Value → Heap → Prop) : Array Value → State → Outcome → State → Prop := fun _ st o t => ∃ v, o = .returned v ∧ Mv F st.heap F t.heap ∧ post v t.heap
/-- .. and where it throws: nothing old has changed -/
def XE (px : String → Prop) : String → State → State → Prop := fun E st t => Ex st.heap t.heap ∧ px E
def Mx (l : Launch) (y : MethodName) (cc : ByteArray) (n : Nat) (r : Option FieldType) (rm : Room) (G : Gm) (A F : Nat → Prop) (av : List Value) (P : Heap → Prop) (post : Option Value → Heap → Prop) (px : String → Prop) : Prop := vx_Met l y (mws y cc n r) rm (Px G A av P) (Qy F post) (XE px) rm.cells rm.slots F
theorem of_metX {l : Launch} {y : MethodName} {cc : ByteArray} {n : Nat} {r : Option FieldType} {rm : Room} {G : Gm} {A F : Nat → Prop} {av : List Value} {P : Heap → Prop} {post : Option Value → Heap → Prop} {px : String → Prop}
    (hy : plainName y.cls = true) (hsz : (lg_sl av).length ≤ n)
    (body : ∀ p e s m below meth c ls, Bd p s m av.toArray meth c G y cc n r → KT s → (∀ x ∈ c.exceptionTable.toList, False) → (∀ q, A q → q < s.heap.size) → P s.heap → lv_has ls n (lv_args 0 av) → W p l e rm s m av.toArray below meth c s.heap [] 0 0 (vx_MQ below (Qy F post) (XE px) av.toArray s rm.cells rm.slots F) (F0 m 0 ls [])) :
    Mx l y cc n r rm G A F av P post px := by
  refine vx_ofW (cc := cc) (maxL := n) (ret := r) hy rfl ?_
  intro p e s m args below meth c s₁ B hml htb hv
  obtain ⟨rfl, hK, hT, hA, hP⟩ := hv
  have hts := atoms_spec (ws := mws y cc n r) B.pre
  have hl := lv_entry av hsz
  rw [lg_entry_eq]
  exact body p e s m below meth c _ ⟨B.exec, B.bytes, hml, findClass_of_methodNamed B.named, fun w hw => hts w (List.mem_cons_of_mem _ hw), hK, B.returns, B.notSynchronized, (name_of_methodNamed B.named B.method).1⟩ hT htb hA hP hl
section ROWSX
variable {p : Program} {l : Launch} {e : Env} {R : Room} {s : State} {m : MethodId} {args : Array Value} {below : List Frame} {meth : Method} {c : Code} {H : Heap} {locs : List Loc} {cells slots : Nat} {Q : State → Prop} {cc : ByteArray} {pc nL : Nat} {ls : Array Slot} {rest st : List Value} {G : Gm} {A F : Nat → Prop} {y : MethodName} {ret : Option FieldType} {mc ms : Nat} {post : Option Value → Heap → Prop} {px : String → Prop} {Qc : Array Value → State → Outcome → State → Prop}
theorem x_iret (B : Bd p s m args meth c G y cc nL (some .int)) (hd : decode cc pc = .ok (.ireturn, 1)) {v : Int32} (hE : Mv F s.heap F H) (hp : post (some (.int v)) H) (hlo : ∀ z ∈ locs, F z.base) (hc : cells ≤ mc) (hs : slots ≤ ms) : W p l e R s m args below meth c H locs cells slots (vx_MQ below (Qy F post) (XE px) args s mc ms F) (F0 m pc ls [.int v]) :=
  vx_ret (W.widen hc hs (W.iret B.hx B.hb B.hr (fun t ht _ => ⟨_, rfl, by rw [ht]; exact hE, by rw [ht]; exact hp⟩) hlo hd B.hlk))
theorem x_zret (B : Bd p s m args meth c G y cc nL (some .boolean)) (hd : decode cc pc = .ok (.ireturn, 1)) {v : Int32} (hn : narrow .boolean (.int v) = .int v) (hE : Mv F s.heap F H) (hp : post (some (.int v)) H) (hlo : ∀ z ∈ locs, F z.base) (hc : cells ≤ mc) (hs : slots ≤ ms) : W p l e R s m args below meth c H locs cells slots (vx_MQ below (Qy F post) (XE px) args s mc ms F) (F0 m pc ls [.int v]) :=
  vx_ret (W.widen hc hs (W.zret B.hx B.hb B.hr hn (fun t ht _ => ⟨_, rfl, by rw [ht]; exact hE, by rw [ht]; exact hp⟩) hlo hd B.hlk))
theorem x_aret {rt : FieldType} (B : Bd p s m args meth c G y cc nL (some rt)) (hrt : (∃ n, rt = .object n) ∨ ∃ t, rt = .array t) (hd : decode cc pc = .ok (.areturn, 1)) {v : Nat} (hE : Mv F s.heap F H) (hp : post (some (.ref v)) H) (hlo : ∀ z ∈ locs, F z.base) (hc : cells ≤ mc) (hs : slots ≤ ms) : W p l e R s m args below meth c H locs cells slots (vx_MQ below (Qy F post) (XE px) args s mc ms F) (F0 m pc ls [.ref v]) :=
  vx_ret (W.widen hc hs (W.aret B.hx B.hb B.hr hrt (Or.inr ⟨_, rfl⟩) (fun t ht _ => ⟨_, rfl, by rw [ht]; exact hE, by rw [ht]; exact hp⟩) hlo hd B.hlk))
theorem x_vret (B : Bd p s m args meth c G y cc nL none) (hd : decode cc pc = .ok (.return_, 1)) (hE : Mv F s.heap F H) (hp : post none H) (hlo : ∀ z ∈ locs, F z.base) (hc : cells ≤ mc) (hs : slots ≤ ms) : W p l e R s m args below meth c H locs cells slots (vx_MQ below (Qy F post) (XE px) args s mc ms F) (F0 m pc ls []) :=
  vx_ret (W.widen hc hs (W.vret B.hx B.hb B.hr (fun t ht _ => ⟨_, rfl, by rw [ht]; exact hE, by rw [ht]; exact hp⟩) hlo hd B.hlk))
abbrev exB (E : String) : List Cond := [Cond.castable E E, Cond.declares (Bundle.initS "java/lang/RuntimeException"), Cond.declares (Bundle.initS "java/lang/Exception"), Cond.declares (Bundle.initS "java/lang/Throwable")]
/-- a place where the class throws -/
def TS (own : String) (ik is ic : Nat) (E text : String) : Prop := Bundle.fit E = true ∧ Cond.classLink own ik E ∈ WS ∧ Cond.initialized E ∈ WS ∧ (∀ w ∈ (vx_atS own ic E exN).filter goodWord, w ∈ lw_tbl) ∧ (∀ w ∈ (vx_atS own ic E exN).filter (fun w => !goodWord w), w ∈ exB E) ∧ (∀ w ∈ Cond.classLink own ik E :: Cond.initialized E :: vx_atS own ic E exN, vx_ot w = true) ∧ (own, is, text) ∈ exT ∧ (E, E) ∈ exC
theorem x_throw (B : Bd p s m args meth c G y cc nL ret) (hst : l.stackTraces = false) (hT : KT s) (htb : ∀ x ∈ c.exceptionTable.toList, False) {ik is ic : Nat} {E text : String} (S : TS y.cls ik is ic E text) (hE : Ex s.heap H) (hls : ls.size = nL)
    (d0 : decode cc pc = .ok (.new ik, 3)) (d3 : decode cc (pc + 3) = .ok (.dup, 1)) (d4 : decode cc (pc + 4) = .ok (.ldc is, 2)) (d6 : decode cc (pc + 6) = .ok (.invokespecial ic, 3)) (d9 : decode cc (pc + 9) = .ok (.athrow, 1))
    (hR : 6 ≤ R.frames ∧ (rest.map fun v => v.category).sum + 82 ≤ R.locals) (hcs : cells + 1 ≤ R.cells ∧ slots + 6 ≤ R.slots) (hp : px E) (hc : cells + 1 ≤ mc ∧ slots + 6 ≤ ms) :
    W p l e R s m args below meth c H [] cells slots (vx_MQ below Qc (XE px) args s mc ms F) (F0 m pc ls rest) := by
  obtain ⟨s1, s2, s3, s4, s5, s6, s7, s8⟩ := S
  obtain ⟨sa, hsa⟩ := hT.1.1 _ s7
  refine vx_throwS (A := fun _ => False) (names := exN) (sa := sa) B.hx B.hb hst B.hown s1 (by decide) (B.hts _ s2) (B.hts _ s3) hsa (vx_hat (B := exB E) (fun w hw => B.hts _ (WS_in (s4 w hw) (by have h9 := List.mem_filter.mp hw; exact h9.2))) s5 (vx_c (va_Nw.use rfl (hT.1.2.1 _ s8)) (vx_c (va_Nw.use rfl (hT.1.2.2.2 _ (by decide))) (vx_c (va_Nw.use rfl (hT.1.2.2.2 _ (by decide))) (vx_c (va_Nw.use rfl (hT.1.2.2.2 _ (by decide))) vx_n))))) s6 hT.2.1 hT.2.2 ⟨hE.1, fun q hq _ => hE.2 q hq, fun _ h => nomatch h⟩ (by rw [B.hml]; exact hls) d0 d3 d4 d6 d9 (fun x hx => (htb x hx).elim) (by have := hR.1; show 2 + 3 < _; omega) (by have := hR.2; show _ + (13 * (2 + 1) + 43) ≤ _; omega) hcs.1 hcs.2 B.hlk (fun t ha h1 h2 => ⟨hE.trans ⟨h1, h2⟩, hp⟩) (fun _ h => nomatch h) hc.1 hc.2
/-- behind a call of a method that may throw -/
theorem x_after {rm : Room} {a : Array Value} {F' : Nat → Prop} {post' : Option Value → Heap → Prop} {px' : String → Prop} (hr : vx_Run p l e R s m args below meth c H locs cells slots rm.cells rm.slots (F0 m pc ls st) rest (Qy F' post' a) (XE px') F') (htb : ∀ x ∈ c.exceptionTable.toList, False) (hlk : meth.locks = false) (hE : Ex s.heap H) (hlo : ∀ z ∈ locs, F z.base) (hF : ∀ x, F' x → F x)
    (hm : cells + rm.cells ≤ mc ∧ slots + rm.slots ≤ ms) (hx : ∀ E, px' E → px E)
    (kk : ∀ (v : Option Value) (H1 : Heap) (L : List Loc), (∀ z ∈ L, F' z.base) → Mv F' H F' H1 → post' v H1 → W p l e R s m args below meth c H1 (locs ++ L) (cells + rm.cells) (slots + rm.slots) (vx_MQ below Qc (XE px) args s mc ms F) (F0 m (pc + 3) ls (v.toList ++ rest))) : W p l e R s m args below meth c H locs cells slots (vx_MQ below Qc (XE px) args s mc ms F) (F0 m pc ls st) := by
  intro T hT X
  rcases hr T hT X with ⟨v, st₀, t, T', L, h0, X', hL, e1, e2, ⟨v', ev, hmv, hp⟩, hgo⟩ | ⟨q, st₀, t, T', L, E, ce, h0, X', hL, e1, e2, ⟨hxe, hpx⟩, hce, hcv, hcl, hsteps⟩
  · cases ev
    rw [h0] at hmv
    obtain ⟨t2, a1, b1⟩ := kk v t.heap L hL hmv hp T' e1 X'
    exact ⟨t2, hgo t2 a1, b1⟩
  · rw [h0] at hxe
    obtain ⟨t2, a1, b1⟩ := vx_out (p := p) (l := l) (e := e) (R := R) (s := s) (m := m) (args := args) (below := below) (meth := meth) (c := c) (H := t.heap) (locs := locs ++ L) (Qc := Qc) (XC := XE px) (free := F) (ls := ls) (rest := rest) (pc := pc) (E := E) (ce := ce) (q := q) (mc := mc) (ms := ms) (fun x hx => (htb x hx).elim) hlk hce hcv hcl (fun t' ht' _ => ⟨by rw [ht']; exact hE.trans hxe, hx E hpx⟩) (fun z hz => (List.mem_append.mp hz).elim (hlo z) (fun h => hF _ (hL z h))) hm.1 hm.2 T' e1 X'
    exact ⟨t2, hsteps.trans a1, b1⟩
theorem x_callV {y' : MethodName} {bytes : ByteArray} {maxL np index b ci N : Nat} {r' : Option FieldType} {rm : Room} {A' F' : Nat → Prop} {As : List Value} {P : Heap → Prop} {post' : Option Value → Heap → Prop} {px' : String → Prop} {C : String} {T : u_T} {fs : List Value} (B : Bd p s m args meth c G y cc nL ret) (hKT : KT s) (htb : ∀ x ∈ c.exceptionTable.toList, False) (hM : Mx l y' bytes maxL r' rm G A' F' (.ref b :: As) P post' px') (K : CY y' bytes maxL r' np) (hi : Cond.instanceMethod y' ∈ WS) (hse : Cond.selects C y' y' ∈ WS) (hl : Cond.methodLink y.cls index y' ∈ WS)
    (hci : vwCl[ci]? = some (C, T, N)) (ob : va_at G.1 vwCl (b, .inr (ci, fs)) H) (hA : ∀ q, A' q → q < H.size) (hP : P H) (hE : Ex s.heap H) (hn : As.length = np) (hls : ls.size = nL) (hst : st = As.reverse ++ .ref b :: rest) (hw : (rest.map fun v => v.category).sum ≤ 8) (hR : rm.frames + 1 ≤ R.frames ∧ 8 + (maxL + 11) + rm.locals ≤ R.locals) (hf : cells + rm.cells ≤ R.cells ∧ slots + rm.slots ≤ R.slots) (hd : decode cc pc = .ok (.invokevirtual index, 3))
    (hlo : ∀ z ∈ locs, F z.base) (hF : ∀ x, F' x → F x) (hm : cells + rm.cells ≤ mc ∧ slots + rm.slots ≤ ms) (hx : ∀ E, px' E → px E)
    (kk : ∀ (v : Option Value) (H1 : Heap) (L : List Loc), (∀ z ∈ L, F' z.base) → Mv F' H F' H1 → post' v H1 → W p l e R s m args below meth c H1 (locs ++ L) (cells + rm.cells) (slots + rm.slots) (vx_MQ below Qc (XE px) args s mc ms F) (F0 m (pc + 3) ls (v.toList ++ rest))) : W p l e R s m args below meth c H locs cells slots (vx_MQ below Qc (XE px) args s mc ms F) (F0 m pc ls st) := by
  subst hst
  obtain ⟨r, h1, cell, q1, q2, q3, q4⟩ := ob
  have hcl : s.vm.findClass C = some cell.cls := by rw [q2]; exact (B.hK.1.1 ci _ hci).2.1
  exact x_after (vx_runV (Ts := WS) ⟨B.hx, B.hb, B.hml, B.hown, B.hts⟩ hM ⟨z_cb B K hl hR, B.hts _ hi, B.hts _ hse⟩ ⟨Px.blind, ⟨cell, q1, by rw [q3]; rfl, hcl⟩, fun U hU hW => ⟨rfl, B.hK.warm hW, hKT.warm hW (by rw [hU]; exact hE), by rw [hU]; exact hA, by rw [hU]; exact hP⟩⟩ rfl hn hls rfl (lv_room hw) hd hf) htb B.hlk hE hlo hF hm hx kk
theorem x_callS {y' : MethodName} {bytes : ByteArray} {maxL np index : Nat} {r' : Option FieldType} {rm : Room} {A' F' : Nat → Prop} {As : List Value} {P : Heap → Prop} {post' : Option Value → Heap → Prop} {px' : String → Prop} (B : Bd p s m args meth c G y cc nL ret) (hKT : KT s) (htb : ∀ x ∈ c.exceptionTable.toList, False) (hM : Mx l y' bytes maxL r' rm G A' F' As P post' px') (K : CY y' bytes maxL r' np) (hi : Cond.static y' ∈ WS) (hl : Cond.methodLink y.cls index y' ∈ WS)
    (hA : ∀ q, A' q → q < H.size) (hP : P H) (hE : Ex s.heap H) (hn : As.length = np) (hls : ls.size = nL) (hst : st = As.reverse ++ rest) (hw : (rest.map fun v => v.category).sum ≤ 8) (hR : rm.frames + 1 ≤ R.frames ∧ 8 + (maxL + 11) + rm.locals ≤ R.locals) (hf : cells + rm.cells ≤ R.cells ∧ slots + rm.slots ≤ R.slots) (hd : decode cc pc = .ok (.invokestatic index, 3))
    (hlo : ∀ z ∈ locs, F z.base) (hF : ∀ x, F' x → F x) (hm : cells + rm.cells ≤ mc ∧ slots + rm.slots ≤ ms) (hx : ∀ E, px' E → px E)
    (kk : ∀ (v : Option Value) (H1 : Heap) (L : List Loc), (∀ z ∈ L, F' z.base) → Mv F' H F' H1 → post' v H1 → W p l e R s m args below meth c H1 (locs ++ L) (cells + rm.cells) (slots + rm.slots) (vx_MQ below Qc (XE px) args s mc ms F) (F0 m (pc + 3) ls (v.toList ++ rest))) : W p l e R s m args below meth c H locs cells slots (vx_MQ below Qc (XE px) args s mc ms F) (F0 m pc ls st) := by
  subst hst
  exact x_after (vx_runS (Ts := WS) ⟨B.hx, B.hb, B.hml, B.hown, B.hts⟩ hM ⟨z_cb B K hl hR, B.hts _ hi⟩ ⟨Px.blind, fun U hU hW => ⟨rfl, B.hK.warm hW, hKT.warm hW (by rw [hU]; exact hE), by rw [hU]; exact hA, by rw [hU]; exact hP⟩⟩ rfl hn hls rfl (lv_room hw) hd hf) htb B.hlk hE hlo hF hm hx kk
end ROWSX
theorem ts_X3_27 : TS RX3 25 27 29 eIS "a degree that can't be told" := ⟨by decide +kernel, WS_in (by decide +kernel) (by decide +kernel), WS_in (by decide +kernel) (by decide +kernel), by decide +kernel, by decide +kernel, by decide +kernel, by decide +kernel, by decide +kernel⟩
theorem ts_X3_75 : TS RX3 25 75 29 eIS "an answer that is no fraction" := ⟨by decide +kernel, WS_in (by decide +kernel) (by decide +kernel), WS_in (by decide +kernel) (by decide +kernel), by decide +kernel, by decide +kernel, by decide +kernel, by decide +kernel, by decide +kernel⟩
theorem ts_X5_31 : TS RX5 29 31 33 eAR "a number through 0" := ⟨by decide +kernel, WS_in (by decide +kernel) (by decide +kernel), WS_in (by decide +kernel) (by decide +kernel), by decide +kernel, by decide +kernel, by decide +kernel, by decide +kernel, by decide +kernel⟩
theorem ts_X5_94 : TS RX5 29 94 33 eAR "divided by 0" := ⟨by decide +kernel, WS_in (by decide +kernel) (by decide +kernel), WS_in (by decide +kernel) (by decide +kernel), by decide +kernel, by decide +kernel, by decide +kernel, by decide +kernel, by decide +kernel⟩
theorem ts_X5_107 : TS RX5 105 107 109 eIA "no such op" := ⟨by decide +kernel, WS_in (by decide +kernel) (by decide +kernel), WS_in (by decide +kernel) (by decide +kernel), by decide +kernel, by decide +kernel, by decide +kernel, by decide +kernel, by decide +kernel⟩
theorem ts_X5_139 : TS RX5 105 139 109 eIA "no such part" := ⟨by decide +kernel, WS_in (by decide +kernel) (by decide +kernel), WS_in (by decide +kernel) (by decide +kernel), by decide +kernel, by decide +kernel, by decide +kernel, by decide +kernel, by decide +kernel⟩
theorem ts_X5_154 : TS RX5 152 154 156 eIO "no such piece" := ⟨by decide +kernel, WS_in (by decide +kernel) (by decide +kernel), WS_in (by decide +kernel) (by decide +kernel), by decide +kernel, by decide +kernel, by decide +kernel, by decide +kernel, by decide +kernel⟩
theorem ts_X5_157 : TS RX5 105 157 109 eIA "no such side or part" := ⟨by decide +kernel, WS_in (by decide +kernel) (by decide +kernel), WS_in (by decide +kernel) (by decide +kernel), by decide +kernel, by decide +kernel, by decide +kernel, by decide +kernel, by decide +kernel⟩
theorem ts_X5_178 : TS RX5 105 178 109 eIA "nothing would be assumed" := ⟨by decide +kernel, WS_in (by decide +kernel) (by decide +kernel), WS_in (by decide +kernel) (by decide +kernel), by decide +kernel, by decide +kernel, by decide +kernel, by decide +kernel, by decide +kernel⟩
theorem ts_X5_185 : TS RX5 152 185 156 eIO "no such thing" := ⟨by decide +kernel, WS_in (by decide +kernel) (by decide +kernel), WS_in (by decide +kernel) (by decide +kernel), by decide +kernel, by decide +kernel, by decide +kernel, by decide +kernel, by decide +kernel⟩
theorem ts_X5_187 : TS RX5 105 187 109 eIA "not a number or polynomial" := ⟨by decide +kernel, WS_in (by decide +kernel) (by decide +kernel), WS_in (by decide +kernel) (by decide +kernel), by decide +kernel, by decide +kernel, by decide +kernel, by decide +kernel, by decide +kernel⟩
theorem ts_X5_189 : TS RX5 105 189 109 eIA "not a number" := ⟨by decide +kernel, WS_in (by decide +kernel) (by decide +kernel), WS_in (by decide +kernel) (by decide +kernel), by decide +kernel, by decide +kernel, by decide +kernel, by decide +kernel, by decide +kernel⟩
theorem ts_X5_191 : TS RX5 105 191 109 eIA "not a set" := ⟨by decide +kernel, WS_in (by decide +kernel) (by decide +kernel), WS_in (by decide +kernel) (by decide +kernel), by decide +kernel, by decide +kernel, by decide +kernel, by decide +kernel, by decide +kernel⟩
theorem ts_X5_195 : TS RX5 193 195 197 eIS "too great a degree" := ⟨by decide +kernel, WS_in (by decide +kernel) (by decide +kernel), WS_in (by decide +kernel) (by decide +kernel), by decide +kernel, by decide +kernel, by decide +kernel, by decide +kernel, by decide +kernel⟩
theorem ts_X5_198 : TS RX5 193 198 197 eIS "no room for one more" := ⟨by decide +kernel, WS_in (by decide +kernel) (by decide +kernel), WS_in (by decide +kernel) (by decide +kernel), by decide +kernel, by decide +kernel, by decide +kernel, by decide +kernel, by decide +kernel⟩
theorem ts_X5_203 : TS RX5 193 203 197 eIS "too great a part" := ⟨by decide +kernel, WS_in (by decide +kernel) (by decide +kernel), WS_in (by decide +kernel) (by decide +kernel), by decide +kernel, by decide +kernel, by decide +kernel, by decide +kernel, by decide +kernel⟩
