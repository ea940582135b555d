/-! a few rows more -/
section ROWS2
variable {p : Program} {l : Launch} {e : Env} {R : Room} {s : State} {m : MethodId} {args : Array Value} {below : List Frame} {meth : Method} {c : Code} {H : Heap} {locs : List Loc} {cells slots : Nat} {Q : State → Prop} {cc : ByteArray} {pc nL : Nat} {ls : Array Slot} {rest st : List Value} {G : Gm} {A : Nat → Prop} {y : MethodName} {ret : Option FieldType}
theorem z_objInit (B : Bd p s m args meth c G y cc nL ret) {q index : Nat} (hl : Cond.methodLink y.cls index objectInit ∈ WS) (hls : ls.size = nL) (hR : 1 ≤ R.frames ∧ (rest.map fun v => v.category).sum + 12 ≤ R.locals) (hd : decode cc pc = .ok (.invokespecial index, 3))
    (kk : W p l e R s m args below meth c H locs cells slots Q (F0 m (pc + 3) ls rest)) : W p l e R s m args below meth c H locs cells slots Q (F0 m pc ls (.ref q :: rest)) :=
  W.objInit B.hx B.hb B.hown (B.hts _ hl) (B.hts _ wo_im) (B.hts _ wo_co) rfl (by rw [B.hml]; exact hls) rfl hd hR.1 (by show 2 * 0 + _ + 12 ≤ _; have := hR.2; omega) kk
theorem z_abs (B : Bd p s m args meth c G y cc nL ret) {index : Nat} {x : Int64} (hl : Cond.methodLink y.cls index Lib.MathLoose.abs_long.x ∈ WS) (hls : ls.size = nL) (hR : 1 ≤ R.frames ∧ (rest.map fun v => v.category).sum + 13 ≤ R.locals) (hcs : cells ≤ R.cells ∧ slots ≤ R.slots) (hd : decode cc pc = .ok (.invokestatic index, 3))
    (kk : W p l e R s m args below meth c H locs cells slots Q (F0 m (pc + 3) ls (.long (if 0 < x then x else -x) :: rest))) : W p l e R s m args below meth c H locs cells slots Q (F0 m pc ls (.long x :: rest)) :=
  va_mabs_long B.hx B.hb (by rw [B.hml, hls]) B.hown (B.hts _ hl) (B.hts _ wm_s1) (B.hts _ wm_in) (B.hts _ wm_c1) hR.1 hR.2 hcs.1 hcs.2 hd kk
theorem z_max (B : Bd p s m args meth c G y cc nL ret) {index : Nat} {x x2 : Int64} (hl : Cond.methodLink y.cls index Lib.MathLoose.max_long.x ∈ WS) (hls : ls.size = nL) (hR : 1 ≤ R.frames ∧ (rest.map fun v => v.category).sum + 15 ≤ R.locals) (hcs : cells ≤ R.cells ∧ slots ≤ R.slots) (hd : decode cc pc = .ok (.invokestatic index, 3))
    (kk : W p l e R s m args below meth c H locs cells slots Q (F0 m (pc + 3) ls (.long (if x2 < x then x else x2) :: rest))) : W p l e R s m args below meth c H locs cells slots Q (F0 m pc ls (.long x2 :: .long x :: rest)) :=
  va_mmax_long B.hx B.hb (by rw [B.hml, hls]) B.hown (B.hts _ hl) (B.hts _ wm_s2) (B.hts _ wm_in) (B.hts _ wm_c2) hR.1 hR.2 hcs.1 hcs.2 hd kk
theorem z_ldc2 (B : Bd p s m args meth c G y cc nL ret) {index : Nat} {v : Int64} (hl : Cond.constantLong y.cls index v ∈ WS) (hd : decode cc pc = .ok (.ldc2_w index, 3)) (kk : W p l e R s m args below meth c H locs cells slots Q (F0 m (pc + 3) ls (.long v :: rest))) : W p l e R s m args below meth c H locs cells slots Q (F0 m pc ls rest) := lv_ldc2 B.hx B.hb B.hown (B.hts _ hl) hd kk
/-- a contract of a method that only reads -/
def Qn (post : Option Value → Prop) : Array Value → State → Outcome → State → Prop := fun _ st o t => ∃ v, o = .returned v ∧ t.heap = st.heap ∧ post v
def Mn (l : Launch) (y : MethodName) (cc : ByteArray) (n : Nat) (r : Option FieldType) (rm : Room) (G : Gm) (av : List Value) (P : Heap → Prop) (post : Option Value → Prop) : Prop := Met l y (mws y cc n r) rm (Pz G (fun _ => False) av P) (Qn post) rm.cells rm.slots (fun _ => False)
theorem n_iret {mc ms : Nat} {pn : Option Value → Prop} (B : Bd p s m args meth c G y cc nL (some .int)) (hd : decode cc pc = .ok (.ireturn, 1)) {v : Int32} (hp : pn (some (.int v))) (hc : cells ≤ mc) (hs : slots ≤ ms) : W p l e R s m args below meth c s.heap [] cells slots (MQ below (Qn pn) args s mc ms (fun _ => False)) (F0 m pc ls [.int v]) :=
  W.widen hc hs (W.iret B.hx B.hb B.hr (fun t ht _ => ⟨_, rfl, ht, hp⟩) (fun q h => nomatch h) hd B.hlk)
theorem n_zret {mc ms : Nat} {pn : Option Value → Prop} (B : Bd p s m args meth c G y cc nL (some .boolean)) (hd : decode cc pc = .ok (.ireturn, 1)) {v : Int32} (hn : narrow .boolean (.int v) = .int v) (hp : pn (some (.int v))) (hc : cells ≤ mc) (hs : slots ≤ ms) : W p l e R s m args below meth c s.heap [] cells slots (MQ below (Qn pn) args s mc ms (fun _ => False)) (F0 m pc ls [.int v]) :=
  W.widen hc hs (W.zret B.hx B.hb B.hr hn (fun t ht _ => ⟨_, rfl, ht, hp⟩) (fun q h => nomatch h) hd B.hlk)
theorem n_lret {mc ms : Nat} {pn : Option Value → Prop} (B : Bd p s m args meth c G y cc nL (some .long)) (hd : decode cc pc = .ok (.lreturn, 1)) {v : Int64} (hp : pn (some (.long v))) (hc : cells ≤ mc) (hs : slots ≤ ms) : W p l e R s m args below meth c s.heap [] cells slots (MQ below (Qn pn) args s mc ms (fun _ => False)) (F0 m pc ls [.long v]) :=
  W.widen hc hs (W.lret B.hx B.hb B.hr (fun t ht _ => ⟨_, rfl, ht, hp⟩) (fun q h => nomatch h) hd B.hlk)
theorem n_after {rm : Room} {a : Array Value} {g : JFrame} {pn : Option Value → Prop} (hr : CallRun p l e R s m args below meth c H locs cells slots rm.cells rm.slots g rest (Qn pn a) (fun _ => False))
    (kk : ∀ (v : Option Value), pn v → W p l e R s m args below meth c H locs (cells + rm.cells) (slots + rm.slots) Q { g with pc := g.pc + 3, stack := v.toList ++ rest }) : W p l e R s m args below meth c H locs cells slots Q g := by
  refine W.callX hr (fun _ h => h.elim) fun v st0 t h0 hq => ?_
  obtain ⟨v', e, hE, hp⟩ := hq
  cases e
  rw [hE, h0]
  exact kk v hp
theorem n_callV {y' : MethodName} {bytes : ByteArray} {maxL np index b ci N : Nat} {r' : Option FieldType} {rm : Room} {As : List Value} {P : Heap → Prop} {pn : Option Value → Prop} {C : String} {T : u_T} {fs : List Value} (B : Bd p s m args meth c G y cc nL ret) (hM : Mn l y' bytes maxL r' rm G (.ref b :: As) P pn) (K : CY y' bytes maxL r' np) (hi : Cond.instanceMethod y' ∈ WS) (hse : Cond.selects C y' y' ∈ WS) (hl : Cond.methodLink y.cls index y' ∈ WS)
    (hci : vwCl[ci]? = some (C, T, N)) (ob : va_at G.1 vwCl (b, .inr (ci, fs)) H) (hP : P H) (hn : As.length = np) (hls : ls.size = nL) (hst : st = As.reverse ++ .ref b :: rest) (hw : (rest.map fun v => v.category).sum ≤ 8) (hR : rm.frames + 1 ≤ R.frames ∧ 8 + (maxL + 11) + rm.locals ≤ R.locals) (hf : cells + rm.cells ≤ R.cells ∧ slots + rm.slots ≤ R.slots) (hd : decode cc pc = .ok (.invokevirtual index, 3))
    (kk : ∀ (v : Option Value), pn v → W p l e R s m args below meth c H locs (cells + rm.cells) (slots + rm.slots) Q (F0 m (pc + 3) ls (v.toList ++ rest))) : W p l e R s m args below meth c H locs cells slots Q (F0 m pc ls st) := by
  subst hst
  obtain ⟨r, h1, cell, q1, q2, q3, q4⟩ := ob
  have hcl : s.vm.findClass C = some cell.cls := by rw [q2]; exact (B.hK.1.1 ci _ hci).2.1
  exact n_after (W.runV (Ts := WS) ⟨B.hx, B.hb, B.hml, B.hown, B.hts⟩ hM ⟨z_cb B K hl hR, B.hts _ hi, B.hts _ hse⟩ ⟨Pz.blind, ⟨cell, q1, by rw [q3]; rfl, hcl⟩, fun U hU hW => ⟨rfl, B.hK.warm hW, fun _ h => h.elim, by rw [hU]; exact hP⟩⟩ rfl hn hls rfl (lv_room hw) hd hf) kk
theorem n_callS {y' : MethodName} {bytes : ByteArray} {maxL np index : Nat} {r' : Option FieldType} {rm : Room} {As : List Value} {P : Heap → Prop} {pn : Option Value → Prop} (B : Bd p s m args meth c G y cc nL ret) (hM : Mn l y' bytes maxL r' rm G As P pn) (K : CY y' bytes maxL r' np) (hi : Cond.static y' ∈ WS) (hl : Cond.methodLink y.cls index y' ∈ WS)
    (hP : P H) (hn : As.length = np) (hls : ls.size = nL) (hst : st = As.reverse ++ rest) (hw : (rest.map fun v => v.category).sum ≤ 8) (hR : rm.frames + 1 ≤ R.frames ∧ 8 + (maxL + 11) + rm.locals ≤ R.locals) (hf : cells + rm.cells ≤ R.cells ∧ slots + rm.slots ≤ R.slots) (hd : decode cc pc = .ok (.invokestatic index, 3))
    (kk : ∀ (v : Option Value), pn v → W p l e R s m args below meth c H locs (cells + rm.cells) (slots + rm.slots) Q (F0 m (pc + 3) ls (v.toList ++ rest))) : W p l e R s m args below meth c H locs cells slots Q (F0 m pc ls st) := by
  subst hst
  exact n_after (W.runS (Ts := WS) ⟨B.hx, B.hb, B.hml, B.hown, B.hts⟩ hM ⟨z_cb B K hl hR, B.hts _ hi⟩ ⟨Pz.blind, fun U hU hW => ⟨rfl, B.hK.warm hW, fun _ h => h.elim, by rw [hU]; exact hP⟩⟩ rfl hn hls rfl (lv_room hw) hd hf) kk
end ROWS2
theorem hfs_X0 : ∀ j, j < 2 → defaultValue (tyX0 j) = vp_V [.null, .int 0] j := fun j hj => by rcases (show j = 0 ∨ j = 1 by omega) with rfl | rfl <;> rfl
theorem hfs_X1 : ∀ j, j < 2 → defaultValue (tyX1 j) = vp_V [.long 0, .long 0] j := fun j hj => by rcases (show j = 0 ∨ j = 1 by omega) with rfl | rfl <;> rfl
theorem hfs_X2 : ∀ j, j < 2 → defaultValue (tyX2 j) = vp_V [.null, .null] j := fun j hj => by rcases (show j = 0 ∨ j = 1 by omega) with rfl | rfl <;> rfl
theorem hfs_X3 : ∀ j, j < 2 → defaultValue (tyX3 j) = vp_V [.null, .null] j := fun j hj => by rcases (show j = 0 ∨ j = 1 by omega) with rfl | rfl <;> rfl
theorem Ex.one {H H1 : Heap} (z1 : H1.size = H.size + 1) (o1 : ∀ q, q < H.size → H1[q]? = H[q]?) : Ex H H1 := ⟨by omega, o1⟩
/-- a cell made, then written by its constructor -/
theorem Ex.new {H H1 H2 : Heap} (z1 : H1.size = H.size + 1) (o1 : ∀ q, q < H.size → H1[q]? = H[q]?) (z2 : H2.size = H1.size) (o2 : ∀ x, x ≠ H.size → H2[x]? = H1[x]?) : Ex H H2 := ⟨by omega, fun q hq => (o2 q (by omega)).trans (o1 q hq)⟩
theorem hA_up {A : Nat → Prop} {H H' : Heap} (hA : ∀ q, A q → q < H.size) (h : H.size ≤ H'.size) : ∀ q, A q → q < H'.size := fun q hq => Nat.lt_of_lt_of_le (hA q hq) h
theorem hA_no {A : Nat → Prop} {H : Heap} (hA : ∀ q, A q → q < H.size) {q : Nat} (h : H.size ≤ q) : ¬ A q := fun hq => absurd (hA q hq) (by omega)
/-- a Fraction in the heap -/
def Fr (G : Gm) (A : Nat → Prop) (H : Heap) (q : Nat) (r : Rat) : Prop := ∃ n d : Int64, Ob G A H q 1 [.long n, .long d] ∧ Frx n d r
theorem Fr.mv {G : Gm} {A A' : Nat → Prop} {H H' : Heap} {q : Nat} {r : Rat} (h : Fr G A H q r) (m : Mv A H A' H') : Fr G A' H' q r := by
  obtain ⟨n, d, h1, h2⟩ := h
  exact ⟨n, d, h1.mv m, h2⟩
theorem Fr.lt {G : Gm} {A : Nat → Prop} {H : Heap} {q : Nat} {r : Rat} (h : Fr G A H q r) : q < H.size := by
  obtain ⟨n, d, h1, h2⟩ := h
  exact h1.lt
