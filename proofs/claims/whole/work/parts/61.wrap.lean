/-! the law's own calls of the class: what is thrown becomes a code -/
theorem wx_13 : Cond.classLink RL 13 eAR ∈ WS := WS_in (by decide +kernel) (by decide +kernel)
theorem wx_15 : Cond.classLink RL 15 eIS ∈ WS := WS_in (by decide +kernel) (by decide +kernel)
theorem wx_24 : Cond.classLink RL 24 eIO ∈ WS := WS_in (by decide +kernel) (by decide +kernel)
theorem wx_26 : Cond.classLink RL 26 eIA ∈ WS := WS_in (by decide +kernel) (by decide +kernel)
def mwh (y : MethodName) (cc : ByteArray) (n : Nat) (r : Option FieldType) (hh : List (Nat × Nat × Nat × Nat)) : List Cond := .codeWith y cc n r hh :: WS
def Mh (l : Launch) (y : MethodName) (cc : ByteArray) (n : Nat) (r : Option FieldType) (hh : List (Nat × Nat × Nat × Nat)) (rm : Room) (G : Gm) (A F : Nat → Prop) (av : List Value) (P : Heap → Prop) (post : Option Value → Heap → Prop) : Prop := vx_Met l y (mwh y cc n r hh) rm (Px G A av P) (Qy F post) (XE (fun _ => False)) rm.cells rm.slots F
theorem of_metH {l : Launch} {y : MethodName} {cc : ByteArray} {n : Nat} {r : Option FieldType} {hh : List (Nat × Nat × Nat × Nat)} {rm : Room} {G : Gm} {A F : Nat → Prop} {av : List Value} {P : Heap → Prop} {post : Option Value → Heap → Prop}
    (hy : plainName y.cls = true) (hsz : (lg_sl av).length ≤ n)
    (body : ∀ p e s m below meth c ls, Bd p s m av.toArray meth c G y cc n r → KT s → c.exceptionTable.toList = tableOf hh → (∀ q, A q → q < s.heap.size) → P s.heap → lv_has ls n (lv_args 0 av) → W p l e rm s m av.toArray below meth c s.heap [] 0 0 (vx_MQ below (Qy F post) (XE (fun _ => False)) av.toArray s rm.cells rm.slots F) (F0 m 0 ls [])) :
    Mh l y cc n r hh rm G A F av P post := by
  refine vx_ofWH (cc := cc) (maxL := n) (ret := r) (hh := hh) hy rfl ?_
  intro p e s m args below meth c s₁ B hml hv
  obtain ⟨rfl, hK, hT, hA, hP⟩ := hv
  have hts := atoms_spec (ws := mwh y cc n r hh) B.pre
  have htb := vx_table (x := y) B (hts _ List.mem_cons_self)
  have hl := lv_entry av hsz
  rw [lg_entry_eq]
  exact body p e s m below meth c _ ⟨B.exec, B.bytes, hml, findClass_of_methodNamed B.named, fun w hw => hts w (List.mem_cons_of_mem _ hw), hK, B.returns, B.notSynchronized, (name_of_methodNamed B.named B.method).1⟩ hT htb hA hP hl
section ROWSH2
variable {p : Program} {l : Launch} {e : Env} {R : Room} {s : State} {m : MethodId} {args : Array Value} {below : List Frame} {meth : Method} {c : Code} {H : Heap} {locs : List Loc} {cells slots : Nat} {Q : State → Prop} {cc : ByteArray} {pc nL : Nat} {ls : Array Slot} {rest st : List Value} {G : Gm} {A F : Nat → Prop} {y : MethodName} {ret : Option FieldType} {mc ms : Nat} {post : Option Value → Heap → Prop} {px : String → Prop} {Qc : Array Value → State → Outcome → State → Prop}
theorem h_after {rm : Room} {a : Array Value} {F' : Nat → Prop} {post' : Option Value → Heap → Prop} {px' : String → Prop} (hr : vx_Run p l e R s m args below meth c H locs cells slots rm.cells rm.slots (F0 m pc ls st) rest (Qy F' post' a) (XE px') F')
    (kk : ∀ (v : Option Value) (H1 : Heap) (L : List Loc), (∀ z ∈ L, F' z.base) → Mv F' H F' H1 → post' v H1 → W p l e R s m args below meth c H1 (locs ++ L) (cells + rm.cells) (slots + rm.slots) Q (F0 m (pc + 3) ls (v.toList ++ rest)))
    (kx : ∀ (E : String) (q : Addr) (H1 : Heap) (L : List Loc) (ce : Cell), px' E → (∀ z ∈ L, F' z.base) → Ex H H1 → H1[q]? = some ce → ce.vm = .none → s.vm.findClass E = some ce.cls → vx_W p l e R s m args below meth c H1 (locs ++ L) (cells + rm.cells) (slots + rm.slots) Q (F0 m pc ls rest) q) : W p l e R s m args below meth c H locs cells slots Q (F0 m pc ls st) := by
  intro T hT X
  rcases hr T hT X with ⟨v, st₀, t, T', L, h0, X', hL, e1, e2, ⟨v', ev, hmv, hp⟩, hgo⟩ | ⟨q, st₀, t, T', L, E, ce, h0, X', hL, e1, e2, ⟨hxe, hpx⟩, hce, hcv, hcl, hsteps⟩
  · cases ev
    rw [h0] at hmv
    obtain ⟨t2, a1, b1⟩ := kk v t.heap L hL hmv hp T' e1 X'
    exact ⟨t2, hgo t2 a1, b1⟩
  · rw [h0] at hxe
    obtain ⟨t2, a1, b1⟩ := kx E q t.heap L ce hpx hL hxe hce hcv hcl T' e1 X'
    exact ⟨t2, hsteps.trans a1, b1⟩
theorem h_callV {y' : MethodName} {bytes : ByteArray} {maxL np index b ci N : Nat} {r' : Option FieldType} {rm : Room} {A' F' : Nat → Prop} {As : List Value} {P : Heap → Prop} {post' : Option Value → Heap → Prop} {px' : String → Prop} {C : String} {T : u_T} {fs : List Value} (B : Bd p s m args meth c G y cc nL ret) (hKT : KT s) (hM : Mx l y' bytes maxL r' rm G A' F' (.ref b :: As) P post' px') (K : CY y' bytes maxL r' np) (hi : Cond.instanceMethod y' ∈ WS) (hse : Cond.selects C y' y' ∈ WS) (hl : Cond.methodLink y.cls index y' ∈ WS)
    (hci : vwCl[ci]? = some (C, T, N)) (ob : va_at G.1 vwCl (b, .inr (ci, fs)) H) (hA : ∀ q, A' q → q < H.size) (hP : P H) (hE : Ex s.heap H) (hn : As.length = np) (hls : ls.size = nL) (hst : st = As.reverse ++ .ref b :: rest) (hw : (rest.map fun v => v.category).sum ≤ 8) (hR : rm.frames + 1 ≤ R.frames ∧ 8 + (maxL + 11) + rm.locals ≤ R.locals) (hf : cells + rm.cells ≤ R.cells ∧ slots + rm.slots ≤ R.slots) (hd : decode cc pc = .ok (.invokevirtual index, 3))
    (kk : ∀ (v : Option Value) (H1 : Heap) (L : List Loc), (∀ z ∈ L, F' z.base) → Mv F' H F' H1 → post' v H1 → W p l e R s m args below meth c H1 (locs ++ L) (cells + rm.cells) (slots + rm.slots) Q (F0 m (pc + 3) ls (v.toList ++ rest)))
    (kx : ∀ (E : String) (q : Addr) (H1 : Heap) (L : List Loc) (ce : Cell), px' E → (∀ z ∈ L, F' z.base) → Ex H H1 → H1[q]? = some ce → ce.vm = .none → s.vm.findClass E = some ce.cls → vx_W p l e R s m args below meth c H1 (locs ++ L) (cells + rm.cells) (slots + rm.slots) Q (F0 m pc ls rest) q) : W p l e R s m args below meth c H locs cells slots Q (F0 m pc ls st) := by
  subst hst
  obtain ⟨r, h1, cell, q1, q2, q3, q4⟩ := ob
  have hcl : s.vm.findClass C = some cell.cls := by rw [q2]; exact (B.hK.1.1 ci _ hci).2.1
  exact h_after (vx_runV (Ts := WS) ⟨B.hx, B.hb, B.hml, B.hown, B.hts⟩ hM ⟨z_cb B K hl hR, B.hts _ hi, B.hts _ hse⟩ ⟨Px.blind, ⟨cell, q1, by rw [q3]; rfl, hcl⟩, fun U hU hW => ⟨rfl, B.hK.warm hW, hKT.warm hW (by rw [hU]; exact hE), by rw [hU]; exact hA, by rw [hU]; exact hP⟩⟩ rfl hn hls rfl (lv_room hw) hd hf) kk kx
theorem h_hand (B : Bd p s m args meth c G y cc nL ret) (hKT : KT s) {E : String} {pre suf : List (Nat × Nat × Nat × Nat)} {x : Nat × Nat × Nat × Nat} (htab : c.exceptionTable.toList = tableOf (pre ++ x :: suf)) (hp : ∀ z ∈ pre, z.2.2.2 ≠ 0 ∧ ∃ nm, Cond.classLink y.cls z.2.2.2 nm ∈ WS ∧ (E, nm) ∈ exD) (hx : x.1 ≤ pc ∧ pc < x.2.1) (h0 : x.2.2.2 ≠ 0) (hl : Cond.classLink y.cls x.2.2.2 E ∈ WS) (hcs : (E, E) ∈ exC)
    {q : Addr} {ce : Cell} (hcell : H[q]? = some ce) (hv : ce.vm = .none) (hcl : s.vm.findClass E = some ce.cls) (kk : W p l e R s m args below meth c H locs cells slots Q (F0 m x.2.2.1 ls [.ref q])) : vx_W p l e R s m args below meth c H locs cells slots Q (F0 m pc ls rest) q := by
  refine vx_catch (own := y.cls) (name := E) (E := E) B.hown (tableOf pre) ⟨x.1, x.2.1, x.2.2.1, x.2.2.2⟩ (tableOf suf) (by rw [htab]; unfold tableOf; rw [List.map_append]; rfl) (fun z hz => ?_) (by simp [covers, hx.1, hx.2]) h0 (B.hts _ hl) (va_Nw.use rfl (hKT.1.2.1 _ hcs)) hcell hv hcl kk
  obtain ⟨w, hw, rfl⟩ := List.mem_map.mp hz
  obtain ⟨g1, nm, g2, g3⟩ := hp w hw
  exact Or.inr ⟨g1, nm, B.hts _ g2, hKT.1.2.2.1 _ g3⟩
end ROWSH2
def OutL (G : Gm) (H : Heap) (out : Nat) (y : Int64) : Prop := ∃ f : Nat → Value, H[out]? = some (arrV (G.2 1) 1 f) ∧ f 0 = .long y
def Fw (q ta out : Nat) : Nat → Prop := fun x => x = q ∨ x = ta ∨ x = out
theorem fw_m {q ta out : Nat} (x : Nat) (h : F2 q ta x) : Fw q ta out x := h.elim Or.inl (fun h => Or.inr (Or.inl h))
theorem fw_f {q ta out : Nat} (x : Nat) (h : False) : Fw q ta out x := h.elim
theorem fw_a {q ta out : Nat} (x : Nat) (h : x = q) : Fw q ta out x := Or.inl h
theorem OutL.lt {G : Gm} {H : Heap} {out : Nat} {y : Int64} (h : OutL G H out y) : out < H.size := by
  obtain ⟨f, h1, -⟩ := h
  exact (Array.getElem?_eq_some_iff.mp h1).1
theorem OutL.kept {G : Gm} {H H' : Heap} {out : Nat} {y : Int64} (h : OutL G H out y) (e : H'[out]? = H[out]?) : OutL G H' out y := by
  obtain ⟨f, h1, h2⟩ := h
  exact ⟨f, e.trans h1, h2⟩
theorem House.mvA {G : Gm} {A : Nat → Prop} {H H' : Heap} {q ta N : Nat} {th : Nat → Th} {as : St3} (h : House G A H q ta N th as) (m : Mv A H A H') (hq : H'[q]? = H[q]?) (ht : H'[ta]? = H[ta]?) : House G A H' q ta N th as := by
  obtain ⟨aa, h1, h2, h3, h4, h5, ⟨f, h6, h7⟩, h8⟩ := h
  refine ⟨aa, h1.kept (q := (q, _)) hq, h2, h3, h4, h5, ⟨f, ht.trans h6, fun k hk => ?_⟩, h8.mv m⟩
  obtain ⟨x, e1, hx⟩ := h7 k hk
  exact ⟨x, e1, hx.mv m⟩
def WmK (G : Gm) (A : Nat → Prop) (q ta out N : Nat) (th : Nat → Th) (as : St3) (R : Nat → Th → Prop) : Option Value → Heap → Prop := fun v H => ∃ c, v = some (.int (nI c)) ∧ ((c = 0 ∧ ∃ t, R 0 t ∧ House G A H q ta (N + 1) (upT th N t) as ∧ OutL G H out (nI N).toInt64) ∨ (c ≠ 0 ∧ c ≤ 4 ∧ (∀ t, R c t) ∧ House G A H q ta N th as ∧ ∃ y, OutL G H out y))
def WrK (G : Gm) (A : Nat → Prop) (q ta out N : Nat) (th : Nat → Th) (as : St3) (R : Nat → Int32 → Prop) (o : Int32 → Int64) : Option Value → Heap → Prop := fun v H => ∃ c, v = some (.int (nI c)) ∧ House G A H q ta N th as ∧ ((c = 0 ∧ ∃ r, R 0 r ∧ OutL G H out (o r)) ∨ (c ≠ 0 ∧ c ≤ 4 ∧ (∀ r, R c r) ∧ ∃ y, OutL G H out y))
def WaK (G : Gm) (A : Nat → Prop) (q ta out N : Nat) (th : Nat → Th) (as : St3) (R : Nat → Int32 × St3 → Prop) (o : Int32 → Int64) : Option Value → Heap → Prop := fun v H => ∃ c, v = some (.int (nI c)) ∧ ((c = 0 ∧ ∃ r as2, R 0 (r, as2) ∧ House G A H q ta N th as2 ∧ OutL G H out (o r)) ∨ (c ≠ 0 ∧ c ≤ 4 ∧ (∀ r, R c r) ∧ House G A H q ta N th as ∧ ∃ y, OutL G H out y))
def o64 (r : Int32) : Int64 := r.toInt64
def o01 (r : Int32) : Int64 := if r = 0 then 0 else 1
/-- an answer is laid into the row -/
theorem Mv.st {F F' : Nat → Prop} {H0 H1 H2 : Heap} {out : Nat} (h : Mv F' H0 F' H1) (hF : ∀ x, F' x → F x) (ho : F out) (z : H2.size = H1.size) (o : ∀ x, x ≠ out → H2[x]? = H1[x]?) : Mv F H0 F H2 := ⟨by rw [z]; exact h.1, fun x hx hn => ⟨hn, (o x (fun e => hn (by rw [e]; exact ho))).trans (h.2 x hx (fun q => hn (hF x q))).2⟩⟩

theorem House.Aq {G : Gm} {A : Nat → Prop} {H : Heap} {q ta N : Nat} {th : Nat → Th} {as : St3} (h : House G A H q ta N th as) : A q := by
  obtain ⟨aa, h1, h2, h3, -⟩ := h
  exact h2
theorem House.At {G : Gm} {A : Nat → Prop} {H : Heap} {q ta N : Nat} {th : Nat → Th} {as : St3} (h : House G A H q ta N th as) : A ta := by
  obtain ⟨aa, h1, h2, h3, -⟩ := h
  exact h3

def po_L_number (G : Gm) (A : Nat → Prop) (q ta out N : Nat) (th : Nat → Th) (as : St3) (f0 g0 : Int32) : Option Value → Heap → Prop := WmK G A q ta out N th as (R_number N f0 g0)
theorem bkL_number_0_5 : pb_chk cL_number 0 [.aload_n 3, .iconst 0, .aload_n 0, .iload_n 1, .iload_n 2] = some 5 := by decide +kernel
theorem dL_number_5 : decode cL_number 5 = .ok (.invokevirtual 7, 3) := by decide +kernel
theorem bkL_number_8_9 : pb_chk cL_number 8 [.i2l] = some 9 := by decide +kernel
theorem dL_number_9 : decode cL_number 9 = .ok (.lastore, 1) := by decide +kernel
theorem bkL_number_10_22 : pb_chk cL_number 10 [.goto 11, .iconst 0] = some 22 := by decide +kernel
theorem dL_number_22 : decode cL_number 22 = .ok (.ireturn, 1) := by decide +kernel
theorem bkL_number_13_16 : pb_chk cL_number 13 [.astore 4, .iconst 1] = some 16 := by decide +kernel
theorem dL_number_16 : decode cL_number 16 = .ok (.ireturn, 1) := by decide +kernel
theorem bkL_number_17_20 : pb_chk cL_number 17 [.astore 4, .iconst 2] = some 20 := by decide +kernel
theorem dL_number_20 : decode cL_number 20 = .ok (.ireturn, 1) := by decide +kernel
abbrev hh_L_number : List (Nat × Nat × Nat × Nat) := [(0, 10, 13, 13), (0, 10, 17, 15)]
set_option maxHeartbeats 4000000 in
set_option maxRecDepth 100000 in
theorem c_L_number (l : Launch) (hst : l.stackTraces = false) (G : Gm) (A : Nat → Prop) (q ta out N : Nat) (th : Nat → Th) (as : St3) (f0 g0 : Int32) (hB : Bds N th as) (hAo : A out) (hoq : out ≠ q) (hot : out ≠ ta) : Mh l yL_number cL_number 5 (some .int) hh_L_number (⟨9, 300, 10000, 190⟩ : Room) G A (Fw q ta out) [.ref q, .int f0, .int g0, .ref out] (fun H => House G A H q ta N th as ∧ ∃ y, OutL G H out y) (po_L_number G A q ta out N th as f0 g0) := by
  refine of_metH (by decide) (Nat.le_of_ble_eq_true rfl) ?_
  intro p e s m below meth c ls B hKT htab hA hP hl
  obtain ⟨hH, y0, hO⟩ := hP
  have hOl := hO.lt
  obtain ⟨fs, hob⟩ := hH.ob
  have hqA : A q ∧ A ta ∧ q < s.heap.size ∧ ta < s.heap.size := ⟨hH.Aq, hH.At, hA q hH.Aq, hA ta hH.At⟩
  refine pb_blk B.hx B.hb (lv' := [(0, .ref q), (1, .int f0), (2, .int g0), (3, .ref out)]) (st' := [.int g0, .int f0, .ref q, .int 0, .ref out]) hl bkL_number_0_5 rfl (fun ls hl => ?_)
  refine h_callV B hKT (c_X5_number l hst G A q ta N th as f0 g0 hB) cy_X5_number im_X5_number se_X5_number wd_M_L_7 rfl hob hA hH Ex.rf rfl hl.1 rfl (Nat.le_of_ble_eq_true rfl) ⟨by decide, by decide⟩ ⟨by decide, by decide⟩ dL_number_5 (fun v H1 L hL hmv hv => ?_) (fun E qx H1 L ce hpx hL hxe hce hcv hcl => ?_)
  · obtain ⟨rfl, t, hR, hH1⟩ := hv
    obtain ⟨fo, ho1, ho2⟩ := hO
    have ho3 : H1[out]? = some (arrV (G.2 1) 1 fo) := ((hmv.2 out hOl (fun h => h.elim hoq hot)).2).trans ho1
    refine pb_blk B.hx B.hb (lv' := [(0, .ref q), (1, .int f0), (2, .int g0), (3, .ref out)]) (st' := [.long ((nI N)).toInt64, .int 0, .ref out]) hl bkL_number_8_9 rfl (fun ls hl => ?_)
    refine z_last B ho3 (show vp_in (nI 0) 1 from vp_in_nI (by decide) (by decide)) dL_number_9 (fun H2 w2 z2 o2 => ?_)
    have hO2 : OutL G H2 out (nI N).toInt64 := ⟨_, w2, updV_at⟩
    have hM2 : Mv (Fw q ta out) s.heap (Fw q ta out) H2 := hmv.st fw_m (Or.inr (Or.inr rfl)) z2 o2
    have hH2 := hH1.mvA (Mv.put z2 o2 hAo) (o2 q (Ne.symm hoq)) (o2 ta (Ne.symm hot))
    have hlo : ∀ z ∈ ([] ++ L) ++ [(⟨out, 0⟩ : Loc)], Fw q ta out z.base := fun z hz => (List.mem_append.mp hz).elim (fun h => fw_m _ (hL z h)) (fun h => by rw [List.mem_singleton.mp h]; exact Or.inr (Or.inr rfl))
    refine pb_blk B.hx B.hb (lv' := [(0, .ref q), (1, .int f0), (2, .int g0), (3, .ref out)]) (st' := [.int 0]) hl bkL_number_10_22 rfl (fun ls hl => ?_)
    exact x_iret B dL_number_22 hM2 (by exact ⟨0, rfl, Or.inl ⟨rfl, t, hR, hH2, hO2⟩⟩) hlo (Nat.le_of_ble_eq_true rfl) (Nat.le_of_ble_eq_true rfl)
  · obtain ⟨cc, hm, hR⟩ := hpx
    simp only [XN, List.mem_cons, Prod.mk.injEq, List.not_mem_nil, or_false] at hm
    have hH1 := hH.ex hxe
    have hO1 := hO.kept (hxe.2 out hOl)
    have hM1 : Mv (Fw q ta out) s.heap (Fw q ta out) H1 := hxe.mv _
    have hlo : ∀ z ∈ [] ++ L, Fw q ta out z.base := fun z hz => (List.mem_append.mp hz).elim (fun h => nomatch h) (fun h => fw_m _ (hL z h))
    rcases hm with ⟨rfl, rfl⟩ | ⟨rfl, rfl⟩
    · refine h_hand B hKT (pre := []) (x := (0, 10, 13, 13)) (suf := [(0, 10, 17, 15)]) htab (fun _ h => nomatch h) ⟨by decide, by decide⟩ (by decide) wx_13 (by decide) hce hcv hcl ?_
      refine pb_blk B.hx B.hb (lv' := [(4, .ref qx), (0, .ref q), (1, .int f0), (2, .int g0), (3, .ref out)]) (st' := [.int 1]) hl bkL_number_13_16 rfl (fun ls hl => ?_)
      exact x_iret B dL_number_16 hM1 (by exact ⟨1, rfl, Or.inr ⟨by decide, by decide, hR, hH1, _, hO1⟩⟩) hlo (Nat.le_of_ble_eq_true rfl) (Nat.le_of_ble_eq_true rfl)
    · refine h_hand B hKT (pre := [(0, 10, 13, 13)]) (x := (0, 10, 17, 15)) (suf := []) htab (List.forall_mem_cons.mpr ⟨⟨by decide, _, wx_13, by decide⟩, (fun _ h => nomatch h)⟩) ⟨by decide, by decide⟩ (by decide) wx_15 (by decide) hce hcv hcl ?_
      refine pb_blk B.hx B.hb (lv' := [(4, .ref qx), (0, .ref q), (1, .int f0), (2, .int g0), (3, .ref out)]) (st' := [.int 2]) hl bkL_number_17_20 rfl (fun ls hl => ?_)
      exact x_iret B dL_number_20 hM1 (by exact ⟨2, rfl, Or.inr ⟨by decide, by decide, hR, hH1, _, hO1⟩⟩) hlo (Nat.le_of_ble_eq_true rfl) (Nat.le_of_ble_eq_true rfl)

def po_L_letter (G : Gm) (A : Nat → Prop) (q ta out N : Nat) (th : Nat → Th) (as : St3) : Option Value → Heap → Prop := WmK G A q ta out N th as (R_letter N)
theorem bkL_letter_0_3 : pb_chk cL_letter 0 [.aload_n 1, .iconst 0, .aload_n 0] = some 3 := by decide +kernel
theorem dL_letter_3 : decode cL_letter 3 = .ok (.invokevirtual 17, 3) := by decide +kernel
theorem bkL_letter_6_7 : pb_chk cL_letter 6 [.i2l] = some 7 := by decide +kernel
theorem dL_letter_7 : decode cL_letter 7 = .ok (.lastore, 1) := by decide +kernel
theorem bkL_letter_8_15 : pb_chk cL_letter 8 [.goto 6, .iconst 0] = some 15 := by decide +kernel
theorem dL_letter_15 : decode cL_letter 15 = .ok (.ireturn, 1) := by decide +kernel
theorem bkL_letter_11_13 : pb_chk cL_letter 11 [.astore_n 2, .iconst 1] = some 13 := by decide +kernel
theorem dL_letter_13 : decode cL_letter 13 = .ok (.ireturn, 1) := by decide +kernel
abbrev hh_L_letter : List (Nat × Nat × Nat × Nat) := [(0, 8, 11, 15)]
set_option maxHeartbeats 4000000 in
set_option maxRecDepth 100000 in
theorem c_L_letter (l : Launch) (hst : l.stackTraces = false) (G : Gm) (A : Nat → Prop) (q ta out N : Nat) (th : Nat → Th) (as : St3) (hB : Bds N th as) (hAo : A out) (hoq : out ≠ q) (hot : out ≠ ta) : Mh l yL_letter cL_letter 3 (some .int) hh_L_letter (⟨9, 300, 10000, 190⟩ : Room) G A (Fw q ta out) [.ref q, .ref out] (fun H => House G A H q ta N th as ∧ ∃ y, OutL G H out y) (po_L_letter G A q ta out N th as) := by
  refine of_metH (by decide) (Nat.le_of_ble_eq_true rfl) ?_
  intro p e s m below meth c ls B hKT htab hA hP hl
  obtain ⟨hH, y0, hO⟩ := hP
  have hOl := hO.lt
  obtain ⟨fs, hob⟩ := hH.ob
  have hqA : A q ∧ A ta ∧ q < s.heap.size ∧ ta < s.heap.size := ⟨hH.Aq, hH.At, hA q hH.Aq, hA ta hH.At⟩
  refine pb_blk B.hx B.hb (lv' := [(0, .ref q), (1, .ref out)]) (st' := [.ref q, .int 0, .ref out]) hl bkL_letter_0_3 rfl (fun ls hl => ?_)
  refine h_callV B hKT (c_X5_letter l hst G A q ta N th as  hB) cy_X5_letter im_X5_letter se_X5_letter wd_M_L_17 rfl hob hA hH Ex.rf rfl hl.1 rfl (Nat.le_of_ble_eq_true rfl) ⟨by decide, by decide⟩ ⟨by decide, by decide⟩ dL_letter_3 (fun v H1 L hL hmv hv => ?_) (fun E qx H1 L ce hpx hL hxe hce hcv hcl => ?_)
  · obtain ⟨rfl, t, hR, hH1⟩ := hv
    obtain ⟨fo, ho1, ho2⟩ := hO
    have ho3 : H1[out]? = some (arrV (G.2 1) 1 fo) := ((hmv.2 out hOl (fun h => h.elim hoq hot)).2).trans ho1
    refine pb_blk B.hx B.hb (lv' := [(0, .ref q), (1, .ref out)]) (st' := [.long ((nI N)).toInt64, .int 0, .ref out]) hl bkL_letter_6_7 rfl (fun ls hl => ?_)
    refine z_last B ho3 (show vp_in (nI 0) 1 from vp_in_nI (by decide) (by decide)) dL_letter_7 (fun H2 w2 z2 o2 => ?_)
    have hO2 : OutL G H2 out (nI N).toInt64 := ⟨_, w2, updV_at⟩
    have hM2 : Mv (Fw q ta out) s.heap (Fw q ta out) H2 := hmv.st fw_m (Or.inr (Or.inr rfl)) z2 o2
    have hH2 := hH1.mvA (Mv.put z2 o2 hAo) (o2 q (Ne.symm hoq)) (o2 ta (Ne.symm hot))
    have hlo : ∀ z ∈ ([] ++ L) ++ [(⟨out, 0⟩ : Loc)], Fw q ta out z.base := fun z hz => (List.mem_append.mp hz).elim (fun h => fw_m _ (hL z h)) (fun h => by rw [List.mem_singleton.mp h]; exact Or.inr (Or.inr rfl))
    refine pb_blk B.hx B.hb (lv' := [(0, .ref q), (1, .ref out)]) (st' := [.int 0]) hl bkL_letter_8_15 rfl (fun ls hl => ?_)
    exact x_iret B dL_letter_15 hM2 (by exact ⟨0, rfl, Or.inl ⟨rfl, t, hR, hH2, hO2⟩⟩) hlo (Nat.le_of_ble_eq_true rfl) (Nat.le_of_ble_eq_true rfl)
  · obtain ⟨cc, hm, hR⟩ := hpx
    simp only [XL, List.mem_cons, Prod.mk.injEq, List.not_mem_nil, or_false] at hm
    have hH1 := hH.ex hxe
    have hO1 := hO.kept (hxe.2 out hOl)
    have hM1 : Mv (Fw q ta out) s.heap (Fw q ta out) H1 := hxe.mv _
    have hlo : ∀ z ∈ [] ++ L, Fw q ta out z.base := fun z hz => (List.mem_append.mp hz).elim (fun h => nomatch h) (fun h => fw_m _ (hL z h))
    rcases hm with ⟨rfl, rfl⟩
    refine h_hand B hKT (pre := []) (x := (0, 8, 11, 15)) (suf := []) htab (fun _ h => nomatch h) ⟨by decide, by decide⟩ (by decide) wx_15 (by decide) hce hcv hcl ?_
    refine pb_blk B.hx B.hb (lv' := [(2, .ref qx), (0, .ref q), (1, .ref out)]) (st' := [.int 1]) hl bkL_letter_11_13 rfl (fun ls hl => ?_)
    exact x_iret B dL_letter_13 hM1 (by exact ⟨1, rfl, Or.inr ⟨by decide, by decide, hR, hH1, _, hO1⟩⟩) hlo (Nat.le_of_ble_eq_true rfl) (Nat.le_of_ble_eq_true rfl)

def po_L_add (G : Gm) (A : Nat → Prop) (q ta out N : Nat) (th : Nat → Th) (as : St3) (f0 g0 : Int32) : Option Value → Heap → Prop := WmK G A q ta out N th as (R_add N th f0 g0)
theorem bkL_add_0_5 : pb_chk cL_add 0 [.aload_n 3, .iconst 0, .aload_n 0, .iload_n 1, .iload_n 2] = some 5 := by decide +kernel
theorem dL_add_5 : decode cL_add 5 = .ok (.invokevirtual 21, 3) := by decide +kernel
theorem bkL_add_8_9 : pb_chk cL_add 8 [.i2l] = some 9 := by decide +kernel
theorem dL_add_9 : decode cL_add 9 = .ok (.lastore, 1) := by decide +kernel
theorem bkL_add_10_26 : pb_chk cL_add 10 [.goto 15, .iconst 0] = some 26 := by decide +kernel
theorem dL_add_26 : decode cL_add 26 = .ok (.ireturn, 1) := by decide +kernel
theorem bkL_add_13_16 : pb_chk cL_add 13 [.astore 4, .iconst 1] = some 16 := by decide +kernel
theorem dL_add_16 : decode cL_add 16 = .ok (.ireturn, 1) := by decide +kernel
theorem bkL_add_17_20 : pb_chk cL_add 17 [.astore 4, .iconst 2] = some 20 := by decide +kernel
theorem dL_add_20 : decode cL_add 20 = .ok (.ireturn, 1) := by decide +kernel
theorem bkL_add_21_24 : pb_chk cL_add 21 [.astore 4, .iconst 3] = some 24 := by decide +kernel
theorem dL_add_24 : decode cL_add 24 = .ok (.ireturn, 1) := by decide +kernel
abbrev hh_L_add : List (Nat × Nat × Nat × Nat) := [(0, 10, 13, 24), (0, 10, 17, 26), (0, 10, 21, 15)]
set_option maxHeartbeats 4000000 in
set_option maxRecDepth 100000 in
theorem c_L_add (l : Launch) (hst : l.stackTraces = false) (G : Gm) (A : Nat → Prop) (q ta out N : Nat) (th : Nat → Th) (as : St3) (f0 g0 : Int32) (hB : Bds N th as) (hAo : A out) (hoq : out ≠ q) (hot : out ≠ ta) : Mh l yL_add cL_add 5 (some .int) hh_L_add (⟨9, 300, 10000, 190⟩ : Room) G A (Fw q ta out) [.ref q, .int f0, .int g0, .ref out] (fun H => House G A H q ta N th as ∧ ∃ y, OutL G H out y) (po_L_add G A q ta out N th as f0 g0) := by
  refine of_metH (by decide) (Nat.le_of_ble_eq_true rfl) ?_
  intro p e s m below meth c ls B hKT htab hA hP hl
  obtain ⟨hH, y0, hO⟩ := hP
  have hOl := hO.lt
  obtain ⟨fs, hob⟩ := hH.ob
  have hqA : A q ∧ A ta ∧ q < s.heap.size ∧ ta < s.heap.size := ⟨hH.Aq, hH.At, hA q hH.Aq, hA ta hH.At⟩
  refine pb_blk B.hx B.hb (lv' := [(0, .ref q), (1, .int f0), (2, .int g0), (3, .ref out)]) (st' := [.int g0, .int f0, .ref q, .int 0, .ref out]) hl bkL_add_0_5 rfl (fun ls hl => ?_)
  refine h_callV B hKT (c_X5_add l hst G A q ta N th as f0 g0 hB) cy_X5_add im_X5_add se_X5_add wd_M_L_21 rfl hob hA hH Ex.rf rfl hl.1 rfl (Nat.le_of_ble_eq_true rfl) ⟨by decide, by decide⟩ ⟨by decide, by decide⟩ dL_add_5 (fun v H1 L hL hmv hv => ?_) (fun E qx H1 L ce hpx hL hxe hce hcv hcl => ?_)
  · obtain ⟨rfl, t, hR, hH1⟩ := hv
    obtain ⟨fo, ho1, ho2⟩ := hO
    have ho3 : H1[out]? = some (arrV (G.2 1) 1 fo) := ((hmv.2 out hOl (fun h => h.elim hoq hot)).2).trans ho1
    refine pb_blk B.hx B.hb (lv' := [(0, .ref q), (1, .int f0), (2, .int g0), (3, .ref out)]) (st' := [.long ((nI N)).toInt64, .int 0, .ref out]) hl bkL_add_8_9 rfl (fun ls hl => ?_)
    refine z_last B ho3 (show vp_in (nI 0) 1 from vp_in_nI (by decide) (by decide)) dL_add_9 (fun H2 w2 z2 o2 => ?_)
    have hO2 : OutL G H2 out (nI N).toInt64 := ⟨_, w2, updV_at⟩
    have hM2 : Mv (Fw q ta out) s.heap (Fw q ta out) H2 := hmv.st fw_m (Or.inr (Or.inr rfl)) z2 o2
    have hH2 := hH1.mvA (Mv.put z2 o2 hAo) (o2 q (Ne.symm hoq)) (o2 ta (Ne.symm hot))
    have hlo : ∀ z ∈ ([] ++ L) ++ [(⟨out, 0⟩ : Loc)], Fw q ta out z.base := fun z hz => (List.mem_append.mp hz).elim (fun h => fw_m _ (hL z h)) (fun h => by rw [List.mem_singleton.mp h]; exact Or.inr (Or.inr rfl))
    refine pb_blk B.hx B.hb (lv' := [(0, .ref q), (1, .int f0), (2, .int g0), (3, .ref out)]) (st' := [.int 0]) hl bkL_add_10_26 rfl (fun ls hl => ?_)
    exact x_iret B dL_add_26 hM2 (by exact ⟨0, rfl, Or.inl ⟨rfl, t, hR, hH2, hO2⟩⟩) hlo (Nat.le_of_ble_eq_true rfl) (Nat.le_of_ble_eq_true rfl)
  · obtain ⟨cc, hm, hR⟩ := hpx
    simp only [X123, List.mem_cons, Prod.mk.injEq, List.not_mem_nil, or_false] at hm
    have hH1 := hH.ex hxe
    have hO1 := hO.kept (hxe.2 out hOl)
    have hM1 : Mv (Fw q ta out) s.heap (Fw q ta out) H1 := hxe.mv _
    have hlo : ∀ z ∈ [] ++ L, Fw q ta out z.base := fun z hz => (List.mem_append.mp hz).elim (fun h => nomatch h) (fun h => fw_m _ (hL z h))
    rcases hm with ⟨rfl, rfl⟩ | ⟨rfl, rfl⟩ | ⟨rfl, rfl⟩
    · refine h_hand B hKT (pre := []) (x := (0, 10, 13, 24)) (suf := [(0, 10, 17, 26), (0, 10, 21, 15)]) htab (fun _ h => nomatch h) ⟨by decide, by decide⟩ (by decide) wx_24 (by decide) hce hcv hcl ?_
      refine pb_blk B.hx B.hb (lv' := [(4, .ref qx), (0, .ref q), (1, .int f0), (2, .int g0), (3, .ref out)]) (st' := [.int 1]) hl bkL_add_13_16 rfl (fun ls hl => ?_)
      exact x_iret B dL_add_16 hM1 (by exact ⟨1, rfl, Or.inr ⟨by decide, by decide, hR, hH1, _, hO1⟩⟩) hlo (Nat.le_of_ble_eq_true rfl) (Nat.le_of_ble_eq_true rfl)
    · refine h_hand B hKT (pre := [(0, 10, 13, 24)]) (x := (0, 10, 17, 26)) (suf := [(0, 10, 21, 15)]) htab (List.forall_mem_cons.mpr ⟨⟨by decide, _, wx_24, by decide⟩, (fun _ h => nomatch h)⟩) ⟨by decide, by decide⟩ (by decide) wx_26 (by decide) hce hcv hcl ?_
      refine pb_blk B.hx B.hb (lv' := [(4, .ref qx), (0, .ref q), (1, .int f0), (2, .int g0), (3, .ref out)]) (st' := [.int 2]) hl bkL_add_17_20 rfl (fun ls hl => ?_)
      exact x_iret B dL_add_20 hM1 (by exact ⟨2, rfl, Or.inr ⟨by decide, by decide, hR, hH1, _, hO1⟩⟩) hlo (Nat.le_of_ble_eq_true rfl) (Nat.le_of_ble_eq_true rfl)
    · refine h_hand B hKT (pre := [(0, 10, 13, 24), (0, 10, 17, 26)]) (x := (0, 10, 21, 15)) (suf := []) htab (List.forall_mem_cons.mpr ⟨⟨by decide, _, wx_24, by decide⟩, (List.forall_mem_cons.mpr ⟨⟨by decide, _, wx_26, by decide⟩, (fun _ h => nomatch h)⟩)⟩) ⟨by decide, by decide⟩ (by decide) wx_15 (by decide) hce hcv hcl ?_
      refine pb_blk B.hx B.hb (lv' := [(4, .ref qx), (0, .ref q), (1, .int f0), (2, .int g0), (3, .ref out)]) (st' := [.int 3]) hl bkL_add_21_24 rfl (fun ls hl => ?_)
      exact x_iret B dL_add_24 hM1 (by exact ⟨3, rfl, Or.inr ⟨by decide, by decide, hR, hH1, _, hO1⟩⟩) hlo (Nat.le_of_ble_eq_true rfl) (Nat.le_of_ble_eq_true rfl)

def po_L_less (G : Gm) (A : Nat → Prop) (q ta out N : Nat) (th : Nat → Th) (as : St3) (f0 g0 : Int32) : Option Value → Heap → Prop := WmK G A q ta out N th as (R_less N th f0 g0)
theorem bkL_less_0_5 : pb_chk cL_less 0 [.aload_n 3, .iconst 0, .aload_n 0, .iload_n 1, .iload_n 2] = some 5 := by decide +kernel
theorem dL_less_5 : decode cL_less 5 = .ok (.invokevirtual 28, 3) := by decide +kernel
theorem bkL_less_8_9 : pb_chk cL_less 8 [.i2l] = some 9 := by decide +kernel
theorem dL_less_9 : decode cL_less 9 = .ok (.lastore, 1) := by decide +kernel
theorem bkL_less_10_26 : pb_chk cL_less 10 [.goto 15, .iconst 0] = some 26 := by decide +kernel
theorem dL_less_26 : decode cL_less 26 = .ok (.ireturn, 1) := by decide +kernel
theorem bkL_less_13_16 : pb_chk cL_less 13 [.astore 4, .iconst 1] = some 16 := by decide +kernel
theorem dL_less_16 : decode cL_less 16 = .ok (.ireturn, 1) := by decide +kernel
theorem bkL_less_17_20 : pb_chk cL_less 17 [.astore 4, .iconst 2] = some 20 := by decide +kernel
theorem dL_less_20 : decode cL_less 20 = .ok (.ireturn, 1) := by decide +kernel
theorem bkL_less_21_24 : pb_chk cL_less 21 [.astore 4, .iconst 3] = some 24 := by decide +kernel
theorem dL_less_24 : decode cL_less 24 = .ok (.ireturn, 1) := by decide +kernel
abbrev hh_L_less : List (Nat × Nat × Nat × Nat) := [(0, 10, 13, 24), (0, 10, 17, 26), (0, 10, 21, 15)]
set_option maxHeartbeats 4000000 in
set_option maxRecDepth 100000 in
theorem c_L_less (l : Launch) (hst : l.stackTraces = false) (G : Gm) (A : Nat → Prop) (q ta out N : Nat) (th : Nat → Th) (as : St3) (f0 g0 : Int32) (hB : Bds N th as) (hAo : A out) (hoq : out ≠ q) (hot : out ≠ ta) : Mh l yL_less cL_less 5 (some .int) hh_L_less (⟨9, 300, 10000, 190⟩ : Room) G A (Fw q ta out) [.ref q, .int f0, .int g0, .ref out] (fun H => House G A H q ta N th as ∧ ∃ y, OutL G H out y) (po_L_less G A q ta out N th as f0 g0) := by
  refine of_metH (by decide) (Nat.le_of_ble_eq_true rfl) ?_
  intro p e s m below meth c ls B hKT htab hA hP hl
  obtain ⟨hH, y0, hO⟩ := hP
  have hOl := hO.lt
  obtain ⟨fs, hob⟩ := hH.ob
  have hqA : A q ∧ A ta ∧ q < s.heap.size ∧ ta < s.heap.size := ⟨hH.Aq, hH.At, hA q hH.Aq, hA ta hH.At⟩
  refine pb_blk B.hx B.hb (lv' := [(0, .ref q), (1, .int f0), (2, .int g0), (3, .ref out)]) (st' := [.int g0, .int f0, .ref q, .int 0, .ref out]) hl bkL_less_0_5 rfl (fun ls hl => ?_)
  refine h_callV B hKT (c_X5_less l hst G A q ta N th as f0 g0 hB) cy_X5_less im_X5_less se_X5_less wd_M_L_28 rfl hob hA hH Ex.rf rfl hl.1 rfl (Nat.le_of_ble_eq_true rfl) ⟨by decide, by decide⟩ ⟨by decide, by decide⟩ dL_less_5 (fun v H1 L hL hmv hv => ?_) (fun E qx H1 L ce hpx hL hxe hce hcv hcl => ?_)
  · obtain ⟨rfl, t, hR, hH1⟩ := hv
    obtain ⟨fo, ho1, ho2⟩ := hO
    have ho3 : H1[out]? = some (arrV (G.2 1) 1 fo) := ((hmv.2 out hOl (fun h => h.elim hoq hot)).2).trans ho1
    refine pb_blk B.hx B.hb (lv' := [(0, .ref q), (1, .int f0), (2, .int g0), (3, .ref out)]) (st' := [.long ((nI N)).toInt64, .int 0, .ref out]) hl bkL_less_8_9 rfl (fun ls hl => ?_)
    refine z_last B ho3 (show vp_in (nI 0) 1 from vp_in_nI (by decide) (by decide)) dL_less_9 (fun H2 w2 z2 o2 => ?_)
    have hO2 : OutL G H2 out (nI N).toInt64 := ⟨_, w2, updV_at⟩
    have hM2 : Mv (Fw q ta out) s.heap (Fw q ta out) H2 := hmv.st fw_m (Or.inr (Or.inr rfl)) z2 o2
    have hH2 := hH1.mvA (Mv.put z2 o2 hAo) (o2 q (Ne.symm hoq)) (o2 ta (Ne.symm hot))
    have hlo : ∀ z ∈ ([] ++ L) ++ [(⟨out, 0⟩ : Loc)], Fw q ta out z.base := fun z hz => (List.mem_append.mp hz).elim (fun h => fw_m _ (hL z h)) (fun h => by rw [List.mem_singleton.mp h]; exact Or.inr (Or.inr rfl))
    refine pb_blk B.hx B.hb (lv' := [(0, .ref q), (1, .int f0), (2, .int g0), (3, .ref out)]) (st' := [.int 0]) hl bkL_less_10_26 rfl (fun ls hl => ?_)
    exact x_iret B dL_less_26 hM2 (by exact ⟨0, rfl, Or.inl ⟨rfl, t, hR, hH2, hO2⟩⟩) hlo (Nat.le_of_ble_eq_true rfl) (Nat.le_of_ble_eq_true rfl)
  · obtain ⟨cc, hm, hR⟩ := hpx
    simp only [X123, List.mem_cons, Prod.mk.injEq, List.not_mem_nil, or_false] at hm
    have hH1 := hH.ex hxe
    have hO1 := hO.kept (hxe.2 out hOl)
    have hM1 : Mv (Fw q ta out) s.heap (Fw q ta out) H1 := hxe.mv _
    have hlo : ∀ z ∈ [] ++ L, Fw q ta out z.base := fun z hz => (List.mem_append.mp hz).elim (fun h => nomatch h) (fun h => fw_m _ (hL z h))
    rcases hm with ⟨rfl, rfl⟩ | ⟨rfl, rfl⟩ | ⟨rfl, rfl⟩
    · refine h_hand B hKT (pre := []) (x := (0, 10, 13, 24)) (suf := [(0, 10, 17, 26), (0, 10, 21, 15)]) htab (fun _ h => nomatch h) ⟨by decide, by decide⟩ (by decide) wx_24 (by decide) hce hcv hcl ?_
      refine pb_blk B.hx B.hb (lv' := [(4, .ref qx), (0, .ref q), (1, .int f0), (2, .int g0), (3, .ref out)]) (st' := [.int 1]) hl bkL_less_13_16 rfl (fun ls hl => ?_)
      exact x_iret B dL_less_16 hM1 (by exact ⟨1, rfl, Or.inr ⟨by decide, by decide, hR, hH1, _, hO1⟩⟩) hlo (Nat.le_of_ble_eq_true rfl) (Nat.le_of_ble_eq_true rfl)
    · refine h_hand B hKT (pre := [(0, 10, 13, 24)]) (x := (0, 10, 17, 26)) (suf := [(0, 10, 21, 15)]) htab (List.forall_mem_cons.mpr ⟨⟨by decide, _, wx_24, by decide⟩, (fun _ h => nomatch h)⟩) ⟨by decide, by decide⟩ (by decide) wx_26 (by decide) hce hcv hcl ?_
      refine pb_blk B.hx B.hb (lv' := [(4, .ref qx), (0, .ref q), (1, .int f0), (2, .int g0), (3, .ref out)]) (st' := [.int 2]) hl bkL_less_17_20 rfl (fun ls hl => ?_)
      exact x_iret B dL_less_20 hM1 (by exact ⟨2, rfl, Or.inr ⟨by decide, by decide, hR, hH1, _, hO1⟩⟩) hlo (Nat.le_of_ble_eq_true rfl) (Nat.le_of_ble_eq_true rfl)
    · refine h_hand B hKT (pre := [(0, 10, 13, 24), (0, 10, 17, 26)]) (x := (0, 10, 21, 15)) (suf := []) htab (List.forall_mem_cons.mpr ⟨⟨by decide, _, wx_24, by decide⟩, (List.forall_mem_cons.mpr ⟨⟨by decide, _, wx_26, by decide⟩, (fun _ h => nomatch h)⟩)⟩) ⟨by decide, by decide⟩ (by decide) wx_15 (by decide) hce hcv hcl ?_
      refine pb_blk B.hx B.hb (lv' := [(4, .ref qx), (0, .ref q), (1, .int f0), (2, .int g0), (3, .ref out)]) (st' := [.int 3]) hl bkL_less_21_24 rfl (fun ls hl => ?_)
      exact x_iret B dL_less_24 hM1 (by exact ⟨3, rfl, Or.inr ⟨by decide, by decide, hR, hH1, _, hO1⟩⟩) hlo (Nat.le_of_ble_eq_true rfl) (Nat.le_of_ble_eq_true rfl)

def po_L_times (G : Gm) (A : Nat → Prop) (q ta out N : Nat) (th : Nat → Th) (as : St3) (f0 g0 : Int32) : Option Value → Heap → Prop := WmK G A q ta out N th as (R_times N th f0 g0)
theorem bkL_times_0_5 : pb_chk cL_times 0 [.aload_n 3, .iconst 0, .aload_n 0, .iload_n 1, .iload_n 2] = some 5 := by decide +kernel
theorem dL_times_5 : decode cL_times 5 = .ok (.invokevirtual 31, 3) := by decide +kernel
theorem bkL_times_8_9 : pb_chk cL_times 8 [.i2l] = some 9 := by decide +kernel
theorem dL_times_9 : decode cL_times 9 = .ok (.lastore, 1) := by decide +kernel
theorem bkL_times_10_26 : pb_chk cL_times 10 [.goto 15, .iconst 0] = some 26 := by decide +kernel
theorem dL_times_26 : decode cL_times 26 = .ok (.ireturn, 1) := by decide +kernel
theorem bkL_times_13_16 : pb_chk cL_times 13 [.astore 4, .iconst 1] = some 16 := by decide +kernel
theorem dL_times_16 : decode cL_times 16 = .ok (.ireturn, 1) := by decide +kernel
theorem bkL_times_17_20 : pb_chk cL_times 17 [.astore 4, .iconst 2] = some 20 := by decide +kernel
theorem dL_times_20 : decode cL_times 20 = .ok (.ireturn, 1) := by decide +kernel
theorem bkL_times_21_24 : pb_chk cL_times 21 [.astore 4, .iconst 3] = some 24 := by decide +kernel
theorem dL_times_24 : decode cL_times 24 = .ok (.ireturn, 1) := by decide +kernel
abbrev hh_L_times : List (Nat × Nat × Nat × Nat) := [(0, 10, 13, 24), (0, 10, 17, 26), (0, 10, 21, 15)]
set_option maxHeartbeats 4000000 in
set_option maxRecDepth 100000 in
theorem c_L_times (l : Launch) (hst : l.stackTraces = false) (G : Gm) (A : Nat → Prop) (q ta out N : Nat) (th : Nat → Th) (as : St3) (f0 g0 : Int32) (hB : Bds N th as) (hAo : A out) (hoq : out ≠ q) (hot : out ≠ ta) : Mh l yL_times cL_times 5 (some .int) hh_L_times (⟨9, 300, 10000, 190⟩ : Room) G A (Fw q ta out) [.ref q, .int f0, .int g0, .ref out] (fun H => House G A H q ta N th as ∧ ∃ y, OutL G H out y) (po_L_times G A q ta out N th as f0 g0) := by
  refine of_metH (by decide) (Nat.le_of_ble_eq_true rfl) ?_
  intro p e s m below meth c ls B hKT htab hA hP hl
  obtain ⟨hH, y0, hO⟩ := hP
  have hOl := hO.lt
  obtain ⟨fs, hob⟩ := hH.ob
  have hqA : A q ∧ A ta ∧ q < s.heap.size ∧ ta < s.heap.size := ⟨hH.Aq, hH.At, hA q hH.Aq, hA ta hH.At⟩
  refine pb_blk B.hx B.hb (lv' := [(0, .ref q), (1, .int f0), (2, .int g0), (3, .ref out)]) (st' := [.int g0, .int f0, .ref q, .int 0, .ref out]) hl bkL_times_0_5 rfl (fun ls hl => ?_)
  refine h_callV B hKT (c_X5_times l hst G A q ta N th as f0 g0 hB) cy_X5_times im_X5_times se_X5_times wd_M_L_31 rfl hob hA hH Ex.rf rfl hl.1 rfl (Nat.le_of_ble_eq_true rfl) ⟨by decide, by decide⟩ ⟨by decide, by decide⟩ dL_times_5 (fun v H1 L hL hmv hv => ?_) (fun E qx H1 L ce hpx hL hxe hce hcv hcl => ?_)
  · obtain ⟨rfl, t, hR, hH1⟩ := hv
    obtain ⟨fo, ho1, ho2⟩ := hO
    have ho3 : H1[out]? = some (arrV (G.2 1) 1 fo) := ((hmv.2 out hOl (fun h => h.elim hoq hot)).2).trans ho1
    refine pb_blk B.hx B.hb (lv' := [(0, .ref q), (1, .int f0), (2, .int g0), (3, .ref out)]) (st' := [.long ((nI N)).toInt64, .int 0, .ref out]) hl bkL_times_8_9 rfl (fun ls hl => ?_)
    refine z_last B ho3 (show vp_in (nI 0) 1 from vp_in_nI (by decide) (by decide)) dL_times_9 (fun H2 w2 z2 o2 => ?_)
    have hO2 : OutL G H2 out (nI N).toInt64 := ⟨_, w2, updV_at⟩
    have hM2 : Mv (Fw q ta out) s.heap (Fw q ta out) H2 := hmv.st fw_m (Or.inr (Or.inr rfl)) z2 o2
    have hH2 := hH1.mvA (Mv.put z2 o2 hAo) (o2 q (Ne.symm hoq)) (o2 ta (Ne.symm hot))
    have hlo : ∀ z ∈ ([] ++ L) ++ [(⟨out, 0⟩ : Loc)], Fw q ta out z.base := fun z hz => (List.mem_append.mp hz).elim (fun h => fw_m _ (hL z h)) (fun h => by rw [List.mem_singleton.mp h]; exact Or.inr (Or.inr rfl))
    refine pb_blk B.hx B.hb (lv' := [(0, .ref q), (1, .int f0), (2, .int g0), (3, .ref out)]) (st' := [.int 0]) hl bkL_times_10_26 rfl (fun ls hl => ?_)
    exact x_iret B dL_times_26 hM2 (by exact ⟨0, rfl, Or.inl ⟨rfl, t, hR, hH2, hO2⟩⟩) hlo (Nat.le_of_ble_eq_true rfl) (Nat.le_of_ble_eq_true rfl)
  · obtain ⟨cc, hm, hR⟩ := hpx
    simp only [X123, List.mem_cons, Prod.mk.injEq, List.not_mem_nil, or_false] at hm
    have hH1 := hH.ex hxe
    have hO1 := hO.kept (hxe.2 out hOl)
    have hM1 : Mv (Fw q ta out) s.heap (Fw q ta out) H1 := hxe.mv _
    have hlo : ∀ z ∈ [] ++ L, Fw q ta out z.base := fun z hz => (List.mem_append.mp hz).elim (fun h => nomatch h) (fun h => fw_m _ (hL z h))
    rcases hm with ⟨rfl, rfl⟩ | ⟨rfl, rfl⟩ | ⟨rfl, rfl⟩
    · refine h_hand B hKT (pre := []) (x := (0, 10, 13, 24)) (suf := [(0, 10, 17, 26), (0, 10, 21, 15)]) htab (fun _ h => nomatch h) ⟨by decide, by decide⟩ (by decide) wx_24 (by decide) hce hcv hcl ?_
      refine pb_blk B.hx B.hb (lv' := [(4, .ref qx), (0, .ref q), (1, .int f0), (2, .int g0), (3, .ref out)]) (st' := [.int 1]) hl bkL_times_13_16 rfl (fun ls hl => ?_)
      exact x_iret B dL_times_16 hM1 (by exact ⟨1, rfl, Or.inr ⟨by decide, by decide, hR, hH1, _, hO1⟩⟩) hlo (Nat.le_of_ble_eq_true rfl) (Nat.le_of_ble_eq_true rfl)
    · refine h_hand B hKT (pre := [(0, 10, 13, 24)]) (x := (0, 10, 17, 26)) (suf := [(0, 10, 21, 15)]) htab (List.forall_mem_cons.mpr ⟨⟨by decide, _, wx_24, by decide⟩, (fun _ h => nomatch h)⟩) ⟨by decide, by decide⟩ (by decide) wx_26 (by decide) hce hcv hcl ?_
      refine pb_blk B.hx B.hb (lv' := [(4, .ref qx), (0, .ref q), (1, .int f0), (2, .int g0), (3, .ref out)]) (st' := [.int 2]) hl bkL_times_17_20 rfl (fun ls hl => ?_)
      exact x_iret B dL_times_20 hM1 (by exact ⟨2, rfl, Or.inr ⟨by decide, by decide, hR, hH1, _, hO1⟩⟩) hlo (Nat.le_of_ble_eq_true rfl) (Nat.le_of_ble_eq_true rfl)
    · refine h_hand B hKT (pre := [(0, 10, 13, 24), (0, 10, 17, 26)]) (x := (0, 10, 21, 15)) (suf := []) htab (List.forall_mem_cons.mpr ⟨⟨by decide, _, wx_24, by decide⟩, (List.forall_mem_cons.mpr ⟨⟨by decide, _, wx_26, by decide⟩, (fun _ h => nomatch h)⟩)⟩) ⟨by decide, by decide⟩ (by decide) wx_15 (by decide) hce hcv hcl ?_
      refine pb_blk B.hx B.hb (lv' := [(4, .ref qx), (0, .ref q), (1, .int f0), (2, .int g0), (3, .ref out)]) (st' := [.int 3]) hl bkL_times_21_24 rfl (fun ls hl => ?_)
      exact x_iret B dL_times_24 hM1 (by exact ⟨3, rfl, Or.inr ⟨by decide, by decide, hR, hH1, _, hO1⟩⟩) hlo (Nat.le_of_ble_eq_true rfl) (Nat.le_of_ble_eq_true rfl)

def po_L_over (G : Gm) (A : Nat → Prop) (q ta out N : Nat) (th : Nat → Th) (as : St3) (f0 g0 : Int32) : Option Value → Heap → Prop := WmK G A q ta out N th as (R_over N th f0 g0)
theorem bkL_over_0_5 : pb_chk cL_over 0 [.aload_n 3, .iconst 0, .aload_n 0, .iload_n 1, .iload_n 2] = some 5 := by decide +kernel
theorem dL_over_5 : decode cL_over 5 = .ok (.invokevirtual 34, 3) := by decide +kernel
theorem bkL_over_8_9 : pb_chk cL_over 8 [.i2l] = some 9 := by decide +kernel
theorem dL_over_9 : decode cL_over 9 = .ok (.lastore, 1) := by decide +kernel
theorem bkL_over_10_30 : pb_chk cL_over 10 [.goto 19, .iconst 0] = some 30 := by decide +kernel
theorem dL_over_30 : decode cL_over 30 = .ok (.ireturn, 1) := by decide +kernel
theorem bkL_over_13_16 : pb_chk cL_over 13 [.astore 4, .iconst 1] = some 16 := by decide +kernel
theorem dL_over_16 : decode cL_over 16 = .ok (.ireturn, 1) := by decide +kernel
theorem bkL_over_17_20 : pb_chk cL_over 17 [.astore 4, .iconst 2] = some 20 := by decide +kernel
theorem dL_over_20 : decode cL_over 20 = .ok (.ireturn, 1) := by decide +kernel
theorem bkL_over_21_24 : pb_chk cL_over 21 [.astore 4, .iconst 3] = some 24 := by decide +kernel
theorem dL_over_24 : decode cL_over 24 = .ok (.ireturn, 1) := by decide +kernel
theorem bkL_over_25_28 : pb_chk cL_over 25 [.astore 4, .iconst 4] = some 28 := by decide +kernel
theorem dL_over_28 : decode cL_over 28 = .ok (.ireturn, 1) := by decide +kernel
abbrev hh_L_over : List (Nat × Nat × Nat × Nat) := [(0, 10, 13, 24), (0, 10, 17, 26), (0, 10, 21, 13), (0, 10, 25, 15)]
set_option maxHeartbeats 4000000 in
set_option maxRecDepth 100000 in
theorem c_L_over (l : Launch) (hst : l.stackTraces = false) (G : Gm) (A : Nat → Prop) (q ta out N : Nat) (th : Nat → Th) (as : St3) (f0 g0 : Int32) (hB : Bds N th as) (hAo : A out) (hoq : out ≠ q) (hot : out ≠ ta) : Mh l yL_over cL_over 5 (some .int) hh_L_over (⟨9, 300, 10000, 190⟩ : Room) G A (Fw q ta out) [.ref q, .int f0, .int g0, .ref out] (fun H => House G A H q ta N th as ∧ ∃ y, OutL G H out y) (po_L_over G A q ta out N th as f0 g0) := by
  refine of_metH (by decide) (Nat.le_of_ble_eq_true rfl) ?_
  intro p e s m below meth c ls B hKT htab hA hP hl
  obtain ⟨hH, y0, hO⟩ := hP
  have hOl := hO.lt
  obtain ⟨fs, hob⟩ := hH.ob
  have hqA : A q ∧ A ta ∧ q < s.heap.size ∧ ta < s.heap.size := ⟨hH.Aq, hH.At, hA q hH.Aq, hA ta hH.At⟩
  refine pb_blk B.hx B.hb (lv' := [(0, .ref q), (1, .int f0), (2, .int g0), (3, .ref out)]) (st' := [.int g0, .int f0, .ref q, .int 0, .ref out]) hl bkL_over_0_5 rfl (fun ls hl => ?_)
  refine h_callV B hKT (c_X5_over l hst G A q ta N th as f0 g0 hB) cy_X5_over im_X5_over se_X5_over wd_M_L_34 rfl hob hA hH Ex.rf rfl hl.1 rfl (Nat.le_of_ble_eq_true rfl) ⟨by decide, by decide⟩ ⟨by decide, by decide⟩ dL_over_5 (fun v H1 L hL hmv hv => ?_) (fun E qx H1 L ce hpx hL hxe hce hcv hcl => ?_)
  · obtain ⟨rfl, t, hR, hH1⟩ := hv
    obtain ⟨fo, ho1, ho2⟩ := hO
    have ho3 : H1[out]? = some (arrV (G.2 1) 1 fo) := ((hmv.2 out hOl (fun h => h.elim hoq hot)).2).trans ho1
    refine pb_blk B.hx B.hb (lv' := [(0, .ref q), (1, .int f0), (2, .int g0), (3, .ref out)]) (st' := [.long ((nI N)).toInt64, .int 0, .ref out]) hl bkL_over_8_9 rfl (fun ls hl => ?_)
    refine z_last B ho3 (show vp_in (nI 0) 1 from vp_in_nI (by decide) (by decide)) dL_over_9 (fun H2 w2 z2 o2 => ?_)
    have hO2 : OutL G H2 out (nI N).toInt64 := ⟨_, w2, updV_at⟩
    have hM2 : Mv (Fw q ta out) s.heap (Fw q ta out) H2 := hmv.st fw_m (Or.inr (Or.inr rfl)) z2 o2
    have hH2 := hH1.mvA (Mv.put z2 o2 hAo) (o2 q (Ne.symm hoq)) (o2 ta (Ne.symm hot))
    have hlo : ∀ z ∈ ([] ++ L) ++ [(⟨out, 0⟩ : Loc)], Fw q ta out z.base := fun z hz => (List.mem_append.mp hz).elim (fun h => fw_m _ (hL z h)) (fun h => by rw [List.mem_singleton.mp h]; exact Or.inr (Or.inr rfl))
    refine pb_blk B.hx B.hb (lv' := [(0, .ref q), (1, .int f0), (2, .int g0), (3, .ref out)]) (st' := [.int 0]) hl bkL_over_10_30 rfl (fun ls hl => ?_)
    exact x_iret B dL_over_30 hM2 (by exact ⟨0, rfl, Or.inl ⟨rfl, t, hR, hH2, hO2⟩⟩) hlo (Nat.le_of_ble_eq_true rfl) (Nat.le_of_ble_eq_true rfl)
  · obtain ⟨cc, hm, hR⟩ := hpx
    simp only [X1234, List.mem_cons, Prod.mk.injEq, List.not_mem_nil, or_false] at hm
    have hH1 := hH.ex hxe
    have hO1 := hO.kept (hxe.2 out hOl)
    have hM1 : Mv (Fw q ta out) s.heap (Fw q ta out) H1 := hxe.mv _
    have hlo : ∀ z ∈ [] ++ L, Fw q ta out z.base := fun z hz => (List.mem_append.mp hz).elim (fun h => nomatch h) (fun h => fw_m _ (hL z h))
    rcases hm with ⟨rfl, rfl⟩ | ⟨rfl, rfl⟩ | ⟨rfl, rfl⟩ | ⟨rfl, rfl⟩
    · refine h_hand B hKT (pre := []) (x := (0, 10, 13, 24)) (suf := [(0, 10, 17, 26), (0, 10, 21, 13), (0, 10, 25, 15)]) htab (fun _ h => nomatch h) ⟨by decide, by decide⟩ (by decide) wx_24 (by decide) hce hcv hcl ?_
      refine pb_blk B.hx B.hb (lv' := [(4, .ref qx), (0, .ref q), (1, .int f0), (2, .int g0), (3, .ref out)]) (st' := [.int 1]) hl bkL_over_13_16 rfl (fun ls hl => ?_)
      exact x_iret B dL_over_16 hM1 (by exact ⟨1, rfl, Or.inr ⟨by decide, by decide, hR, hH1, _, hO1⟩⟩) hlo (Nat.le_of_ble_eq_true rfl) (Nat.le_of_ble_eq_true rfl)
    · refine h_hand B hKT (pre := [(0, 10, 13, 24)]) (x := (0, 10, 17, 26)) (suf := [(0, 10, 21, 13), (0, 10, 25, 15)]) htab (List.forall_mem_cons.mpr ⟨⟨by decide, _, wx_24, by decide⟩, (fun _ h => nomatch h)⟩) ⟨by decide, by decide⟩ (by decide) wx_26 (by decide) hce hcv hcl ?_
      refine pb_blk B.hx B.hb (lv' := [(4, .ref qx), (0, .ref q), (1, .int f0), (2, .int g0), (3, .ref out)]) (st' := [.int 2]) hl bkL_over_17_20 rfl (fun ls hl => ?_)
      exact x_iret B dL_over_20 hM1 (by exact ⟨2, rfl, Or.inr ⟨by decide, by decide, hR, hH1, _, hO1⟩⟩) hlo (Nat.le_of_ble_eq_true rfl) (Nat.le_of_ble_eq_true rfl)
    · refine h_hand B hKT (pre := [(0, 10, 13, 24), (0, 10, 17, 26)]) (x := (0, 10, 21, 13)) (suf := [(0, 10, 25, 15)]) htab (List.forall_mem_cons.mpr ⟨⟨by decide, _, wx_24, by decide⟩, (List.forall_mem_cons.mpr ⟨⟨by decide, _, wx_26, by decide⟩, (fun _ h => nomatch h)⟩)⟩) ⟨by decide, by decide⟩ (by decide) wx_13 (by decide) hce hcv hcl ?_
      refine pb_blk B.hx B.hb (lv' := [(4, .ref qx), (0, .ref q), (1, .int f0), (2, .int g0), (3, .ref out)]) (st' := [.int 3]) hl bkL_over_21_24 rfl (fun ls hl => ?_)
      exact x_iret B dL_over_24 hM1 (by exact ⟨3, rfl, Or.inr ⟨by decide, by decide, hR, hH1, _, hO1⟩⟩) hlo (Nat.le_of_ble_eq_true rfl) (Nat.le_of_ble_eq_true rfl)
    · refine h_hand B hKT (pre := [(0, 10, 13, 24), (0, 10, 17, 26), (0, 10, 21, 13)]) (x := (0, 10, 25, 15)) (suf := []) htab (List.forall_mem_cons.mpr ⟨⟨by decide, _, wx_24, by decide⟩, (List.forall_mem_cons.mpr ⟨⟨by decide, _, wx_26, by decide⟩, (List.forall_mem_cons.mpr ⟨⟨by decide, _, wx_13, by decide⟩, (fun _ h => nomatch h)⟩)⟩)⟩) ⟨by decide, by decide⟩ (by decide) wx_15 (by decide) hce hcv hcl ?_
      refine pb_blk B.hx B.hb (lv' := [(4, .ref qx), (0, .ref q), (1, .int f0), (2, .int g0), (3, .ref out)]) (st' := [.int 4]) hl bkL_over_25_28 rfl (fun ls hl => ?_)
      exact x_iret B dL_over_28 hM1 (by exact ⟨4, rfl, Or.inr ⟨by decide, by decide, hR, hH1, _, hO1⟩⟩) hlo (Nat.le_of_ble_eq_true rfl) (Nat.le_of_ble_eq_true rfl)

def po_L_derive (G : Gm) (A : Nat → Prop) (q ta out N : Nat) (th : Nat → Th) (as : St3) (f0 : Int32) : Option Value → Heap → Prop := WmK G A q ta out N th as (R_derive N th f0)
theorem bkL_derive_0_4 : pb_chk cL_derive 0 [.aload_n 2, .iconst 0, .aload_n 0, .iload_n 1] = some 4 := by decide +kernel
theorem dL_derive_4 : decode cL_derive 4 = .ok (.invokevirtual 37, 3) := by decide +kernel
theorem bkL_derive_7_8 : pb_chk cL_derive 7 [.i2l] = some 8 := by decide +kernel
theorem dL_derive_8 : decode cL_derive 8 = .ok (.lastore, 1) := by decide +kernel
theorem bkL_derive_9_22 : pb_chk cL_derive 9 [.goto 12, .iconst 0] = some 22 := by decide +kernel
theorem dL_derive_22 : decode cL_derive 22 = .ok (.ireturn, 1) := by decide +kernel
theorem bkL_derive_12_14 : pb_chk cL_derive 12 [.astore_n 3, .iconst 1] = some 14 := by decide +kernel
theorem dL_derive_14 : decode cL_derive 14 = .ok (.ireturn, 1) := by decide +kernel
theorem bkL_derive_15_17 : pb_chk cL_derive 15 [.astore_n 3, .iconst 2] = some 17 := by decide +kernel
theorem dL_derive_17 : decode cL_derive 17 = .ok (.ireturn, 1) := by decide +kernel
theorem bkL_derive_18_20 : pb_chk cL_derive 18 [.astore_n 3, .iconst 3] = some 20 := by decide +kernel
theorem dL_derive_20 : decode cL_derive 20 = .ok (.ireturn, 1) := by decide +kernel
abbrev hh_L_derive : List (Nat × Nat × Nat × Nat) := [(0, 9, 12, 24), (0, 9, 15, 26), (0, 9, 18, 15)]
set_option maxHeartbeats 4000000 in
set_option maxRecDepth 100000 in
theorem c_L_derive (l : Launch) (hst : l.stackTraces = false) (G : Gm) (A : Nat → Prop) (q ta out N : Nat) (th : Nat → Th) (as : St3) (f0 : Int32) (hB : Bds N th as) (hAo : A out) (hoq : out ≠ q) (hot : out ≠ ta) : Mh l yL_derive cL_derive 4 (some .int) hh_L_derive (⟨9, 300, 10000, 190⟩ : Room) G A (Fw q ta out) [.ref q, .int f0, .ref out] (fun H => House G A H q ta N th as ∧ ∃ y, OutL G H out y) (po_L_derive G A q ta out N th as f0) := by
  refine of_metH (by decide) (Nat.le_of_ble_eq_true rfl) ?_
  intro p e s m below meth c ls B hKT htab hA hP hl
  obtain ⟨hH, y0, hO⟩ := hP
  have hOl := hO.lt
  obtain ⟨fs, hob⟩ := hH.ob
  have hqA : A q ∧ A ta ∧ q < s.heap.size ∧ ta < s.heap.size := ⟨hH.Aq, hH.At, hA q hH.Aq, hA ta hH.At⟩
  refine pb_blk B.hx B.hb (lv' := [(0, .ref q), (1, .int f0), (2, .ref out)]) (st' := [.int f0, .ref q, .int 0, .ref out]) hl bkL_derive_0_4 rfl (fun ls hl => ?_)
  refine h_callV B hKT (c_X5_derive l hst G A q ta N th as f0 hB) cy_X5_derive im_X5_derive se_X5_derive wd_M_L_37 rfl hob hA hH Ex.rf rfl hl.1 rfl (Nat.le_of_ble_eq_true rfl) ⟨by decide, by decide⟩ ⟨by decide, by decide⟩ dL_derive_4 (fun v H1 L hL hmv hv => ?_) (fun E qx H1 L ce hpx hL hxe hce hcv hcl => ?_)
  · obtain ⟨rfl, t, hR, hH1⟩ := hv
    obtain ⟨fo, ho1, ho2⟩ := hO
    have ho3 : H1[out]? = some (arrV (G.2 1) 1 fo) := ((hmv.2 out hOl (fun h => h.elim hoq hot)).2).trans ho1
    refine pb_blk B.hx B.hb (lv' := [(0, .ref q), (1, .int f0), (2, .ref out)]) (st' := [.long ((nI N)).toInt64, .int 0, .ref out]) hl bkL_derive_7_8 rfl (fun ls hl => ?_)
    refine z_last B ho3 (show vp_in (nI 0) 1 from vp_in_nI (by decide) (by decide)) dL_derive_8 (fun H2 w2 z2 o2 => ?_)
    have hO2 : OutL G H2 out (nI N).toInt64 := ⟨_, w2, updV_at⟩
    have hM2 : Mv (Fw q ta out) s.heap (Fw q ta out) H2 := hmv.st fw_m (Or.inr (Or.inr rfl)) z2 o2
    have hH2 := hH1.mvA (Mv.put z2 o2 hAo) (o2 q (Ne.symm hoq)) (o2 ta (Ne.symm hot))
    have hlo : ∀ z ∈ ([] ++ L) ++ [(⟨out, 0⟩ : Loc)], Fw q ta out z.base := fun z hz => (List.mem_append.mp hz).elim (fun h => fw_m _ (hL z h)) (fun h => by rw [List.mem_singleton.mp h]; exact Or.inr (Or.inr rfl))
    refine pb_blk B.hx B.hb (lv' := [(0, .ref q), (1, .int f0), (2, .ref out)]) (st' := [.int 0]) hl bkL_derive_9_22 rfl (fun ls hl => ?_)
    exact x_iret B dL_derive_22 hM2 (by exact ⟨0, rfl, Or.inl ⟨rfl, t, hR, hH2, hO2⟩⟩) hlo (Nat.le_of_ble_eq_true rfl) (Nat.le_of_ble_eq_true rfl)
  · obtain ⟨cc, hm, hR⟩ := hpx
    simp only [X123, List.mem_cons, Prod.mk.injEq, List.not_mem_nil, or_false] at hm
    have hH1 := hH.ex hxe
    have hO1 := hO.kept (hxe.2 out hOl)
    have hM1 : Mv (Fw q ta out) s.heap (Fw q ta out) H1 := hxe.mv _
    have hlo : ∀ z ∈ [] ++ L, Fw q ta out z.base := fun z hz => (List.mem_append.mp hz).elim (fun h => nomatch h) (fun h => fw_m _ (hL z h))
    rcases hm with ⟨rfl, rfl⟩ | ⟨rfl, rfl⟩ | ⟨rfl, rfl⟩
    · refine h_hand B hKT (pre := []) (x := (0, 9, 12, 24)) (suf := [(0, 9, 15, 26), (0, 9, 18, 15)]) htab (fun _ h => nomatch h) ⟨by decide, by decide⟩ (by decide) wx_24 (by decide) hce hcv hcl ?_
      refine pb_blk B.hx B.hb (lv' := [(3, .ref qx), (0, .ref q), (1, .int f0), (2, .ref out)]) (st' := [.int 1]) hl bkL_derive_12_14 rfl (fun ls hl => ?_)
      exact x_iret B dL_derive_14 hM1 (by exact ⟨1, rfl, Or.inr ⟨by decide, by decide, hR, hH1, _, hO1⟩⟩) hlo (Nat.le_of_ble_eq_true rfl) (Nat.le_of_ble_eq_true rfl)
    · refine h_hand B hKT (pre := [(0, 9, 12, 24)]) (x := (0, 9, 15, 26)) (suf := [(0, 9, 18, 15)]) htab (List.forall_mem_cons.mpr ⟨⟨by decide, _, wx_24, by decide⟩, (fun _ h => nomatch h)⟩) ⟨by decide, by decide⟩ (by decide) wx_26 (by decide) hce hcv hcl ?_
      refine pb_blk B.hx B.hb (lv' := [(3, .ref qx), (0, .ref q), (1, .int f0), (2, .ref out)]) (st' := [.int 2]) hl bkL_derive_15_17 rfl (fun ls hl => ?_)
      exact x_iret B dL_derive_17 hM1 (by exact ⟨2, rfl, Or.inr ⟨by decide, by decide, hR, hH1, _, hO1⟩⟩) hlo (Nat.le_of_ble_eq_true rfl) (Nat.le_of_ble_eq_true rfl)
    · refine h_hand B hKT (pre := [(0, 9, 12, 24), (0, 9, 15, 26)]) (x := (0, 9, 18, 15)) (suf := []) htab (List.forall_mem_cons.mpr ⟨⟨by decide, _, wx_24, by decide⟩, (List.forall_mem_cons.mpr ⟨⟨by decide, _, wx_26, by decide⟩, (fun _ h => nomatch h)⟩)⟩) ⟨by decide, by decide⟩ (by decide) wx_15 (by decide) hce hcv hcl ?_
      refine pb_blk B.hx B.hb (lv' := [(3, .ref qx), (0, .ref q), (1, .int f0), (2, .ref out)]) (st' := [.int 3]) hl bkL_derive_18_20 rfl (fun ls hl => ?_)
      exact x_iret B dL_derive_20 hM1 (by exact ⟨3, rfl, Or.inr ⟨by decide, by decide, hR, hH1, _, hO1⟩⟩) hlo (Nat.le_of_ble_eq_true rfl) (Nat.le_of_ble_eq_true rfl)

def po_L_integral (G : Gm) (A : Nat → Prop) (q ta out N : Nat) (th : Nat → Th) (as : St3) (f0 : Int32) : Option Value → Heap → Prop := WmK G A q ta out N th as (R_integral N th f0)
theorem bkL_integral_0_4 : pb_chk cL_integral 0 [.aload_n 2, .iconst 0, .aload_n 0, .iload_n 1] = some 4 := by decide +kernel
theorem dL_integral_4 : decode cL_integral 4 = .ok (.invokevirtual 41, 3) := by decide +kernel
theorem bkL_integral_7_8 : pb_chk cL_integral 7 [.i2l] = some 8 := by decide +kernel
theorem dL_integral_8 : decode cL_integral 8 = .ok (.lastore, 1) := by decide +kernel
theorem bkL_integral_9_22 : pb_chk cL_integral 9 [.goto 12, .iconst 0] = some 22 := by decide +kernel
theorem dL_integral_22 : decode cL_integral 22 = .ok (.ireturn, 1) := by decide +kernel
theorem bkL_integral_12_14 : pb_chk cL_integral 12 [.astore_n 3, .iconst 1] = some 14 := by decide +kernel
theorem dL_integral_14 : decode cL_integral 14 = .ok (.ireturn, 1) := by decide +kernel
theorem bkL_integral_15_17 : pb_chk cL_integral 15 [.astore_n 3, .iconst 2] = some 17 := by decide +kernel
theorem dL_integral_17 : decode cL_integral 17 = .ok (.ireturn, 1) := by decide +kernel
theorem bkL_integral_18_20 : pb_chk cL_integral 18 [.astore_n 3, .iconst 3] = some 20 := by decide +kernel
theorem dL_integral_20 : decode cL_integral 20 = .ok (.ireturn, 1) := by decide +kernel
abbrev hh_L_integral : List (Nat × Nat × Nat × Nat) := [(0, 9, 12, 24), (0, 9, 15, 26), (0, 9, 18, 15)]
set_option maxHeartbeats 4000000 in
set_option maxRecDepth 100000 in
theorem c_L_integral (l : Launch) (hst : l.stackTraces = false) (G : Gm) (A : Nat → Prop) (q ta out N : Nat) (th : Nat → Th) (as : St3) (f0 : Int32) (hB : Bds N th as) (hAo : A out) (hoq : out ≠ q) (hot : out ≠ ta) : Mh l yL_integral cL_integral 4 (some .int) hh_L_integral (⟨9, 300, 10000, 190⟩ : Room) G A (Fw q ta out) [.ref q, .int f0, .ref out] (fun H => House G A H q ta N th as ∧ ∃ y, OutL G H out y) (po_L_integral G A q ta out N th as f0) := by
  refine of_metH (by decide) (Nat.le_of_ble_eq_true rfl) ?_
  intro p e s m below meth c ls B hKT htab hA hP hl
  obtain ⟨hH, y0, hO⟩ := hP
  have hOl := hO.lt
  obtain ⟨fs, hob⟩ := hH.ob
  have hqA : A q ∧ A ta ∧ q < s.heap.size ∧ ta < s.heap.size := ⟨hH.Aq, hH.At, hA q hH.Aq, hA ta hH.At⟩
  refine pb_blk B.hx B.hb (lv' := [(0, .ref q), (1, .int f0), (2, .ref out)]) (st' := [.int f0, .ref q, .int 0, .ref out]) hl bkL_integral_0_4 rfl (fun ls hl => ?_)
  refine h_callV B hKT (c_X5_integral l hst G A q ta N th as f0 hB) cy_X5_integral im_X5_integral se_X5_integral wd_M_L_41 rfl hob hA hH Ex.rf rfl hl.1 rfl (Nat.le_of_ble_eq_true rfl) ⟨by decide, by decide⟩ ⟨by decide, by decide⟩ dL_integral_4 (fun v H1 L hL hmv hv => ?_) (fun E qx H1 L ce hpx hL hxe hce hcv hcl => ?_)
  · obtain ⟨rfl, t, hR, hH1⟩ := hv
    obtain ⟨fo, ho1, ho2⟩ := hO
    have ho3 : H1[out]? = some (arrV (G.2 1) 1 fo) := ((hmv.2 out hOl (fun h => h.elim hoq hot)).2).trans ho1
    refine pb_blk B.hx B.hb (lv' := [(0, .ref q), (1, .int f0), (2, .ref out)]) (st' := [.long ((nI N)).toInt64, .int 0, .ref out]) hl bkL_integral_7_8 rfl (fun ls hl => ?_)
    refine z_last B ho3 (show vp_in (nI 0) 1 from vp_in_nI (by decide) (by decide)) dL_integral_8 (fun H2 w2 z2 o2 => ?_)
    have hO2 : OutL G H2 out (nI N).toInt64 := ⟨_, w2, updV_at⟩
    have hM2 : Mv (Fw q ta out) s.heap (Fw q ta out) H2 := hmv.st fw_m (Or.inr (Or.inr rfl)) z2 o2
    have hH2 := hH1.mvA (Mv.put z2 o2 hAo) (o2 q (Ne.symm hoq)) (o2 ta (Ne.symm hot))
    have hlo : ∀ z ∈ ([] ++ L) ++ [(⟨out, 0⟩ : Loc)], Fw q ta out z.base := fun z hz => (List.mem_append.mp hz).elim (fun h => fw_m _ (hL z h)) (fun h => by rw [List.mem_singleton.mp h]; exact Or.inr (Or.inr rfl))
    refine pb_blk B.hx B.hb (lv' := [(0, .ref q), (1, .int f0), (2, .ref out)]) (st' := [.int 0]) hl bkL_integral_9_22 rfl (fun ls hl => ?_)
    exact x_iret B dL_integral_22 hM2 (by exact ⟨0, rfl, Or.inl ⟨rfl, t, hR, hH2, hO2⟩⟩) hlo (Nat.le_of_ble_eq_true rfl) (Nat.le_of_ble_eq_true rfl)
  · obtain ⟨cc, hm, hR⟩ := hpx
    simp only [X123, List.mem_cons, Prod.mk.injEq, List.not_mem_nil, or_false] at hm
    have hH1 := hH.ex hxe
    have hO1 := hO.kept (hxe.2 out hOl)
    have hM1 : Mv (Fw q ta out) s.heap (Fw q ta out) H1 := hxe.mv _
    have hlo : ∀ z ∈ [] ++ L, Fw q ta out z.base := fun z hz => (List.mem_append.mp hz).elim (fun h => nomatch h) (fun h => fw_m _ (hL z h))
    rcases hm with ⟨rfl, rfl⟩ | ⟨rfl, rfl⟩ | ⟨rfl, rfl⟩
    · refine h_hand B hKT (pre := []) (x := (0, 9, 12, 24)) (suf := [(0, 9, 15, 26), (0, 9, 18, 15)]) htab (fun _ h => nomatch h) ⟨by decide, by decide⟩ (by decide) wx_24 (by decide) hce hcv hcl ?_
      refine pb_blk B.hx B.hb (lv' := [(3, .ref qx), (0, .ref q), (1, .int f0), (2, .ref out)]) (st' := [.int 1]) hl bkL_integral_12_14 rfl (fun ls hl => ?_)
      exact x_iret B dL_integral_14 hM1 (by exact ⟨1, rfl, Or.inr ⟨by decide, by decide, hR, hH1, _, hO1⟩⟩) hlo (Nat.le_of_ble_eq_true rfl) (Nat.le_of_ble_eq_true rfl)
    · refine h_hand B hKT (pre := [(0, 9, 12, 24)]) (x := (0, 9, 15, 26)) (suf := [(0, 9, 18, 15)]) htab (List.forall_mem_cons.mpr ⟨⟨by decide, _, wx_24, by decide⟩, (fun _ h => nomatch h)⟩) ⟨by decide, by decide⟩ (by decide) wx_26 (by decide) hce hcv hcl ?_
      refine pb_blk B.hx B.hb (lv' := [(3, .ref qx), (0, .ref q), (1, .int f0), (2, .ref out)]) (st' := [.int 2]) hl bkL_integral_15_17 rfl (fun ls hl => ?_)
      exact x_iret B dL_integral_17 hM1 (by exact ⟨2, rfl, Or.inr ⟨by decide, by decide, hR, hH1, _, hO1⟩⟩) hlo (Nat.le_of_ble_eq_true rfl) (Nat.le_of_ble_eq_true rfl)
    · refine h_hand B hKT (pre := [(0, 9, 12, 24), (0, 9, 15, 26)]) (x := (0, 9, 18, 15)) (suf := []) htab (List.forall_mem_cons.mpr ⟨⟨by decide, _, wx_24, by decide⟩, (List.forall_mem_cons.mpr ⟨⟨by decide, _, wx_26, by decide⟩, (fun _ h => nomatch h)⟩)⟩) ⟨by decide, by decide⟩ (by decide) wx_15 (by decide) hce hcv hcl ?_
      refine pb_blk B.hx B.hb (lv' := [(3, .ref qx), (0, .ref q), (1, .int f0), (2, .ref out)]) (st' := [.int 3]) hl bkL_integral_18_20 rfl (fun ls hl => ?_)
      exact x_iret B dL_integral_20 hM1 (by exact ⟨3, rfl, Or.inr ⟨by decide, by decide, hR, hH1, _, hO1⟩⟩) hlo (Nat.le_of_ble_eq_true rfl) (Nat.le_of_ble_eq_true rfl)

def po_L_put (G : Gm) (A : Nat → Prop) (q ta out N : Nat) (th : Nat → Th) (as : St3) (f0 g0 : Int32) : Option Value → Heap → Prop := WmK G A q ta out N th as (R_put N th f0 g0)
theorem bkL_put_0_5 : pb_chk cL_put 0 [.aload_n 3, .iconst 0, .aload_n 0, .iload_n 1, .iload_n 2] = some 5 := by decide +kernel
theorem dL_put_5 : decode cL_put 5 = .ok (.invokevirtual 44, 3) := by decide +kernel
theorem bkL_put_8_9 : pb_chk cL_put 8 [.i2l] = some 9 := by decide +kernel
theorem dL_put_9 : decode cL_put 9 = .ok (.lastore, 1) := by decide +kernel
theorem bkL_put_10_26 : pb_chk cL_put 10 [.goto 15, .iconst 0] = some 26 := by decide +kernel
theorem dL_put_26 : decode cL_put 26 = .ok (.ireturn, 1) := by decide +kernel
theorem bkL_put_13_16 : pb_chk cL_put 13 [.astore 4, .iconst 1] = some 16 := by decide +kernel
theorem dL_put_16 : decode cL_put 16 = .ok (.ireturn, 1) := by decide +kernel
theorem bkL_put_17_20 : pb_chk cL_put 17 [.astore 4, .iconst 2] = some 20 := by decide +kernel
theorem dL_put_20 : decode cL_put 20 = .ok (.ireturn, 1) := by decide +kernel
theorem bkL_put_21_24 : pb_chk cL_put 21 [.astore 4, .iconst 3] = some 24 := by decide +kernel
theorem dL_put_24 : decode cL_put 24 = .ok (.ireturn, 1) := by decide +kernel
abbrev hh_L_put : List (Nat × Nat × Nat × Nat) := [(0, 10, 13, 24), (0, 10, 17, 26), (0, 10, 21, 15)]
set_option maxHeartbeats 4000000 in
set_option maxRecDepth 100000 in
theorem c_L_put (l : Launch) (hst : l.stackTraces = false) (G : Gm) (A : Nat → Prop) (q ta out N : Nat) (th : Nat → Th) (as : St3) (f0 g0 : Int32) (hB : Bds N th as) (hAo : A out) (hoq : out ≠ q) (hot : out ≠ ta) : Mh l yL_put cL_put 5 (some .int) hh_L_put (⟨9, 300, 10000, 190⟩ : Room) G A (Fw q ta out) [.ref q, .int f0, .int g0, .ref out] (fun H => House G A H q ta N th as ∧ ∃ y, OutL G H out y) (po_L_put G A q ta out N th as f0 g0) := by
  refine of_metH (by decide) (Nat.le_of_ble_eq_true rfl) ?_
  intro p e s m below meth c ls B hKT htab hA hP hl
  obtain ⟨hH, y0, hO⟩ := hP
  have hOl := hO.lt
  obtain ⟨fs, hob⟩ := hH.ob
  have hqA : A q ∧ A ta ∧ q < s.heap.size ∧ ta < s.heap.size := ⟨hH.Aq, hH.At, hA q hH.Aq, hA ta hH.At⟩
  refine pb_blk B.hx B.hb (lv' := [(0, .ref q), (1, .int f0), (2, .int g0), (3, .ref out)]) (st' := [.int g0, .int f0, .ref q, .int 0, .ref out]) hl bkL_put_0_5 rfl (fun ls hl => ?_)
  refine h_callV B hKT (c_X5_put l hst G A q ta N th as f0 g0 hB) cy_X5_put im_X5_put se_X5_put wd_M_L_44 rfl hob hA hH Ex.rf rfl hl.1 rfl (Nat.le_of_ble_eq_true rfl) ⟨by decide, by decide⟩ ⟨by decide, by decide⟩ dL_put_5 (fun v H1 L hL hmv hv => ?_) (fun E qx H1 L ce hpx hL hxe hce hcv hcl => ?_)
  · obtain ⟨rfl, t, hR, hH1⟩ := hv
    obtain ⟨fo, ho1, ho2⟩ := hO
    have ho3 : H1[out]? = some (arrV (G.2 1) 1 fo) := ((hmv.2 out hOl (fun h => h.elim hoq hot)).2).trans ho1
    refine pb_blk B.hx B.hb (lv' := [(0, .ref q), (1, .int f0), (2, .int g0), (3, .ref out)]) (st' := [.long ((nI N)).toInt64, .int 0, .ref out]) hl bkL_put_8_9 rfl (fun ls hl => ?_)
    refine z_last B ho3 (show vp_in (nI 0) 1 from vp_in_nI (by decide) (by decide)) dL_put_9 (fun H2 w2 z2 o2 => ?_)
    have hO2 : OutL G H2 out (nI N).toInt64 := ⟨_, w2, updV_at⟩
    have hM2 : Mv (Fw q ta out) s.heap (Fw q ta out) H2 := hmv.st fw_m (Or.inr (Or.inr rfl)) z2 o2
    have hH2 := hH1.mvA (Mv.put z2 o2 hAo) (o2 q (Ne.symm hoq)) (o2 ta (Ne.symm hot))
    have hlo : ∀ z ∈ ([] ++ L) ++ [(⟨out, 0⟩ : Loc)], Fw q ta out z.base := fun z hz => (List.mem_append.mp hz).elim (fun h => fw_m _ (hL z h)) (fun h => by rw [List.mem_singleton.mp h]; exact Or.inr (Or.inr rfl))
    refine pb_blk B.hx B.hb (lv' := [(0, .ref q), (1, .int f0), (2, .int g0), (3, .ref out)]) (st' := [.int 0]) hl bkL_put_10_26 rfl (fun ls hl => ?_)
    exact x_iret B dL_put_26 hM2 (by exact ⟨0, rfl, Or.inl ⟨rfl, t, hR, hH2, hO2⟩⟩) hlo (Nat.le_of_ble_eq_true rfl) (Nat.le_of_ble_eq_true rfl)
  · obtain ⟨cc, hm, hR⟩ := hpx
    simp only [X123, List.mem_cons, Prod.mk.injEq, List.not_mem_nil, or_false] at hm
    have hH1 := hH.ex hxe
    have hO1 := hO.kept (hxe.2 out hOl)
    have hM1 : Mv (Fw q ta out) s.heap (Fw q ta out) H1 := hxe.mv _
    have hlo : ∀ z ∈ [] ++ L, Fw q ta out z.base := fun z hz => (List.mem_append.mp hz).elim (fun h => nomatch h) (fun h => fw_m _ (hL z h))
    rcases hm with ⟨rfl, rfl⟩ | ⟨rfl, rfl⟩ | ⟨rfl, rfl⟩
    · refine h_hand B hKT (pre := []) (x := (0, 10, 13, 24)) (suf := [(0, 10, 17, 26), (0, 10, 21, 15)]) htab (fun _ h => nomatch h) ⟨by decide, by decide⟩ (by decide) wx_24 (by decide) hce hcv hcl ?_
      refine pb_blk B.hx B.hb (lv' := [(4, .ref qx), (0, .ref q), (1, .int f0), (2, .int g0), (3, .ref out)]) (st' := [.int 1]) hl bkL_put_13_16 rfl (fun ls hl => ?_)
      exact x_iret B dL_put_16 hM1 (by exact ⟨1, rfl, Or.inr ⟨by decide, by decide, hR, hH1, _, hO1⟩⟩) hlo (Nat.le_of_ble_eq_true rfl) (Nat.le_of_ble_eq_true rfl)
    · refine h_hand B hKT (pre := [(0, 10, 13, 24)]) (x := (0, 10, 17, 26)) (suf := [(0, 10, 21, 15)]) htab (List.forall_mem_cons.mpr ⟨⟨by decide, _, wx_24, by decide⟩, (fun _ h => nomatch h)⟩) ⟨by decide, by decide⟩ (by decide) wx_26 (by decide) hce hcv hcl ?_
      refine pb_blk B.hx B.hb (lv' := [(4, .ref qx), (0, .ref q), (1, .int f0), (2, .int g0), (3, .ref out)]) (st' := [.int 2]) hl bkL_put_17_20 rfl (fun ls hl => ?_)
      exact x_iret B dL_put_20 hM1 (by exact ⟨2, rfl, Or.inr ⟨by decide, by decide, hR, hH1, _, hO1⟩⟩) hlo (Nat.le_of_ble_eq_true rfl) (Nat.le_of_ble_eq_true rfl)
    · refine h_hand B hKT (pre := [(0, 10, 13, 24), (0, 10, 17, 26)]) (x := (0, 10, 21, 15)) (suf := []) htab (List.forall_mem_cons.mpr ⟨⟨by decide, _, wx_24, by decide⟩, (List.forall_mem_cons.mpr ⟨⟨by decide, _, wx_26, by decide⟩, (fun _ h => nomatch h)⟩)⟩) ⟨by decide, by decide⟩ (by decide) wx_15 (by decide) hce hcv hcl ?_
      refine pb_blk B.hx B.hb (lv' := [(4, .ref qx), (0, .ref q), (1, .int f0), (2, .int g0), (3, .ref out)]) (st' := [.int 3]) hl bkL_put_21_24 rfl (fun ls hl => ?_)
      exact x_iret B dL_put_24 hM1 (by exact ⟨3, rfl, Or.inr ⟨by decide, by decide, hR, hH1, _, hO1⟩⟩) hlo (Nat.le_of_ble_eq_true rfl) (Nat.le_of_ble_eq_true rfl)

def po_L_where (G : Gm) (A : Nat → Prop) (q ta out N : Nat) (th : Nat → Th) (as : St3) (f0 g0 : Int32) : Option Value → Heap → Prop := WmK G A q ta out N th as (R_where N th f0 g0)
theorem bkL_where_0_5 : pb_chk cL_where 0 [.aload_n 3, .iconst 0, .aload_n 0, .iload_n 1, .iload_n 2] = some 5 := by decide +kernel
theorem dL_where_5 : decode cL_where 5 = .ok (.invokevirtual 47, 3) := by decide +kernel
theorem bkL_where_8_9 : pb_chk cL_where 8 [.i2l] = some 9 := by decide +kernel
theorem dL_where_9 : decode cL_where 9 = .ok (.lastore, 1) := by decide +kernel
theorem bkL_where_10_26 : pb_chk cL_where 10 [.goto 15, .iconst 0] = some 26 := by decide +kernel
theorem dL_where_26 : decode cL_where 26 = .ok (.ireturn, 1) := by decide +kernel
theorem bkL_where_13_16 : pb_chk cL_where 13 [.astore 4, .iconst 1] = some 16 := by decide +kernel
theorem dL_where_16 : decode cL_where 16 = .ok (.ireturn, 1) := by decide +kernel
theorem bkL_where_17_20 : pb_chk cL_where 17 [.astore 4, .iconst 2] = some 20 := by decide +kernel
theorem dL_where_20 : decode cL_where 20 = .ok (.ireturn, 1) := by decide +kernel
theorem bkL_where_21_24 : pb_chk cL_where 21 [.astore 4, .iconst 3] = some 24 := by decide +kernel
theorem dL_where_24 : decode cL_where 24 = .ok (.ireturn, 1) := by decide +kernel
abbrev hh_L_where : List (Nat × Nat × Nat × Nat) := [(0, 10, 13, 24), (0, 10, 17, 26), (0, 10, 21, 15)]
set_option maxHeartbeats 4000000 in
set_option maxRecDepth 100000 in
theorem c_L_where (l : Launch) (hst : l.stackTraces = false) (G : Gm) (A : Nat → Prop) (q ta out N : Nat) (th : Nat → Th) (as : St3) (f0 g0 : Int32) (hB : Bds N th as) (hAo : A out) (hoq : out ≠ q) (hot : out ≠ ta) : Mh l yL_where cL_where 5 (some .int) hh_L_where (⟨9, 300, 10000, 190⟩ : Room) G A (Fw q ta out) [.ref q, .int f0, .int g0, .ref out] (fun H => House G A H q ta N th as ∧ ∃ y, OutL G H out y) (po_L_where G A q ta out N th as f0 g0) := by
  refine of_metH (by decide) (Nat.le_of_ble_eq_true rfl) ?_
  intro p e s m below meth c ls B hKT htab hA hP hl
  obtain ⟨hH, y0, hO⟩ := hP
  have hOl := hO.lt
  obtain ⟨fs, hob⟩ := hH.ob
  have hqA : A q ∧ A ta ∧ q < s.heap.size ∧ ta < s.heap.size := ⟨hH.Aq, hH.At, hA q hH.Aq, hA ta hH.At⟩
  refine pb_blk B.hx B.hb (lv' := [(0, .ref q), (1, .int f0), (2, .int g0), (3, .ref out)]) (st' := [.int g0, .int f0, .ref q, .int 0, .ref out]) hl bkL_where_0_5 rfl (fun ls hl => ?_)
  refine h_callV B hKT (c_X5_where l hst G A q ta N th as f0 g0 hB) cy_X5_where im_X5_where se_X5_where wd_M_L_47 rfl hob hA hH Ex.rf rfl hl.1 rfl (Nat.le_of_ble_eq_true rfl) ⟨by decide, by decide⟩ ⟨by decide, by decide⟩ dL_where_5 (fun v H1 L hL hmv hv => ?_) (fun E qx H1 L ce hpx hL hxe hce hcv hcl => ?_)
  · obtain ⟨rfl, t, hR, hH1⟩ := hv
    obtain ⟨fo, ho1, ho2⟩ := hO
    have ho3 : H1[out]? = some (arrV (G.2 1) 1 fo) := ((hmv.2 out hOl (fun h => h.elim hoq hot)).2).trans ho1
    refine pb_blk B.hx B.hb (lv' := [(0, .ref q), (1, .int f0), (2, .int g0), (3, .ref out)]) (st' := [.long ((nI N)).toInt64, .int 0, .ref out]) hl bkL_where_8_9 rfl (fun ls hl => ?_)
    refine z_last B ho3 (show vp_in (nI 0) 1 from vp_in_nI (by decide) (by decide)) dL_where_9 (fun H2 w2 z2 o2 => ?_)
    have hO2 : OutL G H2 out (nI N).toInt64 := ⟨_, w2, updV_at⟩
    have hM2 : Mv (Fw q ta out) s.heap (Fw q ta out) H2 := hmv.st fw_m (Or.inr (Or.inr rfl)) z2 o2
    have hH2 := hH1.mvA (Mv.put z2 o2 hAo) (o2 q (Ne.symm hoq)) (o2 ta (Ne.symm hot))
    have hlo : ∀ z ∈ ([] ++ L) ++ [(⟨out, 0⟩ : Loc)], Fw q ta out z.base := fun z hz => (List.mem_append.mp hz).elim (fun h => fw_m _ (hL z h)) (fun h => by rw [List.mem_singleton.mp h]; exact Or.inr (Or.inr rfl))
    refine pb_blk B.hx B.hb (lv' := [(0, .ref q), (1, .int f0), (2, .int g0), (3, .ref out)]) (st' := [.int 0]) hl bkL_where_10_26 rfl (fun ls hl => ?_)
    exact x_iret B dL_where_26 hM2 (by exact ⟨0, rfl, Or.inl ⟨rfl, t, hR, hH2, hO2⟩⟩) hlo (Nat.le_of_ble_eq_true rfl) (Nat.le_of_ble_eq_true rfl)
  · obtain ⟨cc, hm, hR⟩ := hpx
    simp only [X123, List.mem_cons, Prod.mk.injEq, List.not_mem_nil, or_false] at hm
    have hH1 := hH.ex hxe
    have hO1 := hO.kept (hxe.2 out hOl)
    have hM1 : Mv (Fw q ta out) s.heap (Fw q ta out) H1 := hxe.mv _
    have hlo : ∀ z ∈ [] ++ L, Fw q ta out z.base := fun z hz => (List.mem_append.mp hz).elim (fun h => nomatch h) (fun h => fw_m _ (hL z h))
    rcases hm with ⟨rfl, rfl⟩ | ⟨rfl, rfl⟩ | ⟨rfl, rfl⟩
    · refine h_hand B hKT (pre := []) (x := (0, 10, 13, 24)) (suf := [(0, 10, 17, 26), (0, 10, 21, 15)]) htab (fun _ h => nomatch h) ⟨by decide, by decide⟩ (by decide) wx_24 (by decide) hce hcv hcl ?_
      refine pb_blk B.hx B.hb (lv' := [(4, .ref qx), (0, .ref q), (1, .int f0), (2, .int g0), (3, .ref out)]) (st' := [.int 1]) hl bkL_where_13_16 rfl (fun ls hl => ?_)
      exact x_iret B dL_where_16 hM1 (by exact ⟨1, rfl, Or.inr ⟨by decide, by decide, hR, hH1, _, hO1⟩⟩) hlo (Nat.le_of_ble_eq_true rfl) (Nat.le_of_ble_eq_true rfl)
    · refine h_hand B hKT (pre := [(0, 10, 13, 24)]) (x := (0, 10, 17, 26)) (suf := [(0, 10, 21, 15)]) htab (List.forall_mem_cons.mpr ⟨⟨by decide, _, wx_24, by decide⟩, (fun _ h => nomatch h)⟩) ⟨by decide, by decide⟩ (by decide) wx_26 (by decide) hce hcv hcl ?_
      refine pb_blk B.hx B.hb (lv' := [(4, .ref qx), (0, .ref q), (1, .int f0), (2, .int g0), (3, .ref out)]) (st' := [.int 2]) hl bkL_where_17_20 rfl (fun ls hl => ?_)
      exact x_iret B dL_where_20 hM1 (by exact ⟨2, rfl, Or.inr ⟨by decide, by decide, hR, hH1, _, hO1⟩⟩) hlo (Nat.le_of_ble_eq_true rfl) (Nat.le_of_ble_eq_true rfl)
    · refine h_hand B hKT (pre := [(0, 10, 13, 24), (0, 10, 17, 26)]) (x := (0, 10, 21, 15)) (suf := []) htab (List.forall_mem_cons.mpr ⟨⟨by decide, _, wx_24, by decide⟩, (List.forall_mem_cons.mpr ⟨⟨by decide, _, wx_26, by decide⟩, (fun _ h => nomatch h)⟩)⟩) ⟨by decide, by decide⟩ (by decide) wx_15 (by decide) hce hcv hcl ?_
      refine pb_blk B.hx B.hb (lv' := [(4, .ref qx), (0, .ref q), (1, .int f0), (2, .int g0), (3, .ref out)]) (st' := [.int 3]) hl bkL_where_21_24 rfl (fun ls hl => ?_)
      exact x_iret B dL_where_24 hM1 (by exact ⟨3, rfl, Or.inr ⟨by decide, by decide, hR, hH1, _, hO1⟩⟩) hlo (Nat.le_of_ble_eq_true rfl) (Nat.le_of_ble_eq_true rfl)

def po_L_both (G : Gm) (A : Nat → Prop) (q ta out N : Nat) (th : Nat → Th) (as : St3) (f0 g0 : Int32) : Option Value → Heap → Prop := WmK G A q ta out N th as (R_join true N th f0 g0)
theorem bkL_both_0_5 : pb_chk cL_both 0 [.aload_n 3, .iconst 0, .aload_n 0, .iload_n 1, .iload_n 2] = some 5 := by decide +kernel
theorem dL_both_5 : decode cL_both 5 = .ok (.invokevirtual 50, 3) := by decide +kernel
theorem bkL_both_8_9 : pb_chk cL_both 8 [.i2l] = some 9 := by decide +kernel
theorem dL_both_9 : decode cL_both 9 = .ok (.lastore, 1) := by decide +kernel
theorem bkL_both_10_26 : pb_chk cL_both 10 [.goto 15, .iconst 0] = some 26 := by decide +kernel
theorem dL_both_26 : decode cL_both 26 = .ok (.ireturn, 1) := by decide +kernel
theorem bkL_both_13_16 : pb_chk cL_both 13 [.astore 4, .iconst 1] = some 16 := by decide +kernel
theorem dL_both_16 : decode cL_both 16 = .ok (.ireturn, 1) := by decide +kernel
theorem bkL_both_17_20 : pb_chk cL_both 17 [.astore 4, .iconst 2] = some 20 := by decide +kernel
theorem dL_both_20 : decode cL_both 20 = .ok (.ireturn, 1) := by decide +kernel
theorem bkL_both_21_24 : pb_chk cL_both 21 [.astore 4, .iconst 3] = some 24 := by decide +kernel
theorem dL_both_24 : decode cL_both 24 = .ok (.ireturn, 1) := by decide +kernel
abbrev hh_L_both : List (Nat × Nat × Nat × Nat) := [(0, 10, 13, 24), (0, 10, 17, 26), (0, 10, 21, 15)]
set_option maxHeartbeats 4000000 in
set_option maxRecDepth 100000 in
theorem c_L_both (l : Launch) (hst : l.stackTraces = false) (G : Gm) (A : Nat → Prop) (q ta out N : Nat) (th : Nat → Th) (as : St3) (f0 g0 : Int32) (hB : Bds N th as) (hAo : A out) (hoq : out ≠ q) (hot : out ≠ ta) : Mh l yL_both cL_both 5 (some .int) hh_L_both (⟨9, 300, 10000, 190⟩ : Room) G A (Fw q ta out) [.ref q, .int f0, .int g0, .ref out] (fun H => House G A H q ta N th as ∧ ∃ y, OutL G H out y) (po_L_both G A q ta out N th as f0 g0) := by
  refine of_metH (by decide) (Nat.le_of_ble_eq_true rfl) ?_
  intro p e s m below meth c ls B hKT htab hA hP hl
  obtain ⟨hH, y0, hO⟩ := hP
  have hOl := hO.lt
  obtain ⟨fs, hob⟩ := hH.ob
  have hqA : A q ∧ A ta ∧ q < s.heap.size ∧ ta < s.heap.size := ⟨hH.Aq, hH.At, hA q hH.Aq, hA ta hH.At⟩
  refine pb_blk B.hx B.hb (lv' := [(0, .ref q), (1, .int f0), (2, .int g0), (3, .ref out)]) (st' := [.int g0, .int f0, .ref q, .int 0, .ref out]) hl bkL_both_0_5 rfl (fun ls hl => ?_)
  refine h_callV B hKT (c_X5_both l hst G A q ta N th as f0 g0 hB) cy_X5_both im_X5_both se_X5_both wd_M_L_50 rfl hob hA hH Ex.rf rfl hl.1 rfl (Nat.le_of_ble_eq_true rfl) ⟨by decide, by decide⟩ ⟨by decide, by decide⟩ dL_both_5 (fun v H1 L hL hmv hv => ?_) (fun E qx H1 L ce hpx hL hxe hce hcv hcl => ?_)
  · obtain ⟨rfl, t, hR, hH1⟩ := hv
    obtain ⟨fo, ho1, ho2⟩ := hO
    have ho3 : H1[out]? = some (arrV (G.2 1) 1 fo) := ((hmv.2 out hOl (fun h => h.elim hoq hot)).2).trans ho1
    refine pb_blk B.hx B.hb (lv' := [(0, .ref q), (1, .int f0), (2, .int g0), (3, .ref out)]) (st' := [.long ((nI N)).toInt64, .int 0, .ref out]) hl bkL_both_8_9 rfl (fun ls hl => ?_)
    refine z_last B ho3 (show vp_in (nI 0) 1 from vp_in_nI (by decide) (by decide)) dL_both_9 (fun H2 w2 z2 o2 => ?_)
    have hO2 : OutL G H2 out (nI N).toInt64 := ⟨_, w2, updV_at⟩
    have hM2 : Mv (Fw q ta out) s.heap (Fw q ta out) H2 := hmv.st fw_m (Or.inr (Or.inr rfl)) z2 o2
    have hH2 := hH1.mvA (Mv.put z2 o2 hAo) (o2 q (Ne.symm hoq)) (o2 ta (Ne.symm hot))
    have hlo : ∀ z ∈ ([] ++ L) ++ [(⟨out, 0⟩ : Loc)], Fw q ta out z.base := fun z hz => (List.mem_append.mp hz).elim (fun h => fw_m _ (hL z h)) (fun h => by rw [List.mem_singleton.mp h]; exact Or.inr (Or.inr rfl))
    refine pb_blk B.hx B.hb (lv' := [(0, .ref q), (1, .int f0), (2, .int g0), (3, .ref out)]) (st' := [.int 0]) hl bkL_both_10_26 rfl (fun ls hl => ?_)
    exact x_iret B dL_both_26 hM2 (by exact ⟨0, rfl, Or.inl ⟨rfl, t, hR, hH2, hO2⟩⟩) hlo (Nat.le_of_ble_eq_true rfl) (Nat.le_of_ble_eq_true rfl)
  · obtain ⟨cc, hm, hR⟩ := hpx
    simp only [X123, List.mem_cons, Prod.mk.injEq, List.not_mem_nil, or_false] at hm
    have hH1 := hH.ex hxe
    have hO1 := hO.kept (hxe.2 out hOl)
    have hM1 : Mv (Fw q ta out) s.heap (Fw q ta out) H1 := hxe.mv _
    have hlo : ∀ z ∈ [] ++ L, Fw q ta out z.base := fun z hz => (List.mem_append.mp hz).elim (fun h => nomatch h) (fun h => fw_m _ (hL z h))
    rcases hm with ⟨rfl, rfl⟩ | ⟨rfl, rfl⟩ | ⟨rfl, rfl⟩
    · refine h_hand B hKT (pre := []) (x := (0, 10, 13, 24)) (suf := [(0, 10, 17, 26), (0, 10, 21, 15)]) htab (fun _ h => nomatch h) ⟨by decide, by decide⟩ (by decide) wx_24 (by decide) hce hcv hcl ?_
      refine pb_blk B.hx B.hb (lv' := [(4, .ref qx), (0, .ref q), (1, .int f0), (2, .int g0), (3, .ref out)]) (st' := [.int 1]) hl bkL_both_13_16 rfl (fun ls hl => ?_)
      exact x_iret B dL_both_16 hM1 (by exact ⟨1, rfl, Or.inr ⟨by decide, by decide, hR, hH1, _, hO1⟩⟩) hlo (Nat.le_of_ble_eq_true rfl) (Nat.le_of_ble_eq_true rfl)
    · refine h_hand B hKT (pre := [(0, 10, 13, 24)]) (x := (0, 10, 17, 26)) (suf := [(0, 10, 21, 15)]) htab (List.forall_mem_cons.mpr ⟨⟨by decide, _, wx_24, by decide⟩, (fun _ h => nomatch h)⟩) ⟨by decide, by decide⟩ (by decide) wx_26 (by decide) hce hcv hcl ?_
      refine pb_blk B.hx B.hb (lv' := [(4, .ref qx), (0, .ref q), (1, .int f0), (2, .int g0), (3, .ref out)]) (st' := [.int 2]) hl bkL_both_17_20 rfl (fun ls hl => ?_)
      exact x_iret B dL_both_20 hM1 (by exact ⟨2, rfl, Or.inr ⟨by decide, by decide, hR, hH1, _, hO1⟩⟩) hlo (Nat.le_of_ble_eq_true rfl) (Nat.le_of_ble_eq_true rfl)
    · refine h_hand B hKT (pre := [(0, 10, 13, 24), (0, 10, 17, 26)]) (x := (0, 10, 21, 15)) (suf := []) htab (List.forall_mem_cons.mpr ⟨⟨by decide, _, wx_24, by decide⟩, (List.forall_mem_cons.mpr ⟨⟨by decide, _, wx_26, by decide⟩, (fun _ h => nomatch h)⟩)⟩) ⟨by decide, by decide⟩ (by decide) wx_15 (by decide) hce hcv hcl ?_
      refine pb_blk B.hx B.hb (lv' := [(4, .ref qx), (0, .ref q), (1, .int f0), (2, .int g0), (3, .ref out)]) (st' := [.int 3]) hl bkL_both_21_24 rfl (fun ls hl => ?_)
      exact x_iret B dL_both_24 hM1 (by exact ⟨3, rfl, Or.inr ⟨by decide, by decide, hR, hH1, _, hO1⟩⟩) hlo (Nat.le_of_ble_eq_true rfl) (Nat.le_of_ble_eq_true rfl)

def po_L_either (G : Gm) (A : Nat → Prop) (q ta out N : Nat) (th : Nat → Th) (as : St3) (f0 g0 : Int32) : Option Value → Heap → Prop := WmK G A q ta out N th as (R_join false N th f0 g0)
theorem bkL_either_0_5 : pb_chk cL_either 0 [.aload_n 3, .iconst 0, .aload_n 0, .iload_n 1, .iload_n 2] = some 5 := by decide +kernel
theorem dL_either_5 : decode cL_either 5 = .ok (.invokevirtual 53, 3) := by decide +kernel
theorem bkL_either_8_9 : pb_chk cL_either 8 [.i2l] = some 9 := by decide +kernel
theorem dL_either_9 : decode cL_either 9 = .ok (.lastore, 1) := by decide +kernel
theorem bkL_either_10_26 : pb_chk cL_either 10 [.goto 15, .iconst 0] = some 26 := by decide +kernel
theorem dL_either_26 : decode cL_either 26 = .ok (.ireturn, 1) := by decide +kernel
theorem bkL_either_13_16 : pb_chk cL_either 13 [.astore 4, .iconst 1] = some 16 := by decide +kernel
theorem dL_either_16 : decode cL_either 16 = .ok (.ireturn, 1) := by decide +kernel
theorem bkL_either_17_20 : pb_chk cL_either 17 [.astore 4, .iconst 2] = some 20 := by decide +kernel
theorem dL_either_20 : decode cL_either 20 = .ok (.ireturn, 1) := by decide +kernel
theorem bkL_either_21_24 : pb_chk cL_either 21 [.astore 4, .iconst 3] = some 24 := by decide +kernel
theorem dL_either_24 : decode cL_either 24 = .ok (.ireturn, 1) := by decide +kernel
abbrev hh_L_either : List (Nat × Nat × Nat × Nat) := [(0, 10, 13, 24), (0, 10, 17, 26), (0, 10, 21, 15)]
set_option maxHeartbeats 4000000 in
set_option maxRecDepth 100000 in
theorem c_L_either (l : Launch) (hst : l.stackTraces = false) (G : Gm) (A : Nat → Prop) (q ta out N : Nat) (th : Nat → Th) (as : St3) (f0 g0 : Int32) (hB : Bds N th as) (hAo : A out) (hoq : out ≠ q) (hot : out ≠ ta) : Mh l yL_either cL_either 5 (some .int) hh_L_either (⟨9, 300, 10000, 190⟩ : Room) G A (Fw q ta out) [.ref q, .int f0, .int g0, .ref out] (fun H => House G A H q ta N th as ∧ ∃ y, OutL G H out y) (po_L_either G A q ta out N th as f0 g0) := by
  refine of_metH (by decide) (Nat.le_of_ble_eq_true rfl) ?_
  intro p e s m below meth c ls B hKT htab hA hP hl
  obtain ⟨hH, y0, hO⟩ := hP
  have hOl := hO.lt
  obtain ⟨fs, hob⟩ := hH.ob
  have hqA : A q ∧ A ta ∧ q < s.heap.size ∧ ta < s.heap.size := ⟨hH.Aq, hH.At, hA q hH.Aq, hA ta hH.At⟩
  refine pb_blk B.hx B.hb (lv' := [(0, .ref q), (1, .int f0), (2, .int g0), (3, .ref out)]) (st' := [.int g0, .int f0, .ref q, .int 0, .ref out]) hl bkL_either_0_5 rfl (fun ls hl => ?_)
  refine h_callV B hKT (c_X5_either l hst G A q ta N th as f0 g0 hB) cy_X5_either im_X5_either se_X5_either wd_M_L_53 rfl hob hA hH Ex.rf rfl hl.1 rfl (Nat.le_of_ble_eq_true rfl) ⟨by decide, by decide⟩ ⟨by decide, by decide⟩ dL_either_5 (fun v H1 L hL hmv hv => ?_) (fun E qx H1 L ce hpx hL hxe hce hcv hcl => ?_)
  · obtain ⟨rfl, t, hR, hH1⟩ := hv
    obtain ⟨fo, ho1, ho2⟩ := hO
    have ho3 : H1[out]? = some (arrV (G.2 1) 1 fo) := ((hmv.2 out hOl (fun h => h.elim hoq hot)).2).trans ho1
    refine pb_blk B.hx B.hb (lv' := [(0, .ref q), (1, .int f0), (2, .int g0), (3, .ref out)]) (st' := [.long ((nI N)).toInt64, .int 0, .ref out]) hl bkL_either_8_9 rfl (fun ls hl => ?_)
    refine z_last B ho3 (show vp_in (nI 0) 1 from vp_in_nI (by decide) (by decide)) dL_either_9 (fun H2 w2 z2 o2 => ?_)
    have hO2 : OutL G H2 out (nI N).toInt64 := ⟨_, w2, updV_at⟩
    have hM2 : Mv (Fw q ta out) s.heap (Fw q ta out) H2 := hmv.st fw_m (Or.inr (Or.inr rfl)) z2 o2
    have hH2 := hH1.mvA (Mv.put z2 o2 hAo) (o2 q (Ne.symm hoq)) (o2 ta (Ne.symm hot))
    have hlo : ∀ z ∈ ([] ++ L) ++ [(⟨out, 0⟩ : Loc)], Fw q ta out z.base := fun z hz => (List.mem_append.mp hz).elim (fun h => fw_m _ (hL z h)) (fun h => by rw [List.mem_singleton.mp h]; exact Or.inr (Or.inr rfl))
    refine pb_blk B.hx B.hb (lv' := [(0, .ref q), (1, .int f0), (2, .int g0), (3, .ref out)]) (st' := [.int 0]) hl bkL_either_10_26 rfl (fun ls hl => ?_)
    exact x_iret B dL_either_26 hM2 (by exact ⟨0, rfl, Or.inl ⟨rfl, t, hR, hH2, hO2⟩⟩) hlo (Nat.le_of_ble_eq_true rfl) (Nat.le_of_ble_eq_true rfl)
  · obtain ⟨cc, hm, hR⟩ := hpx
    simp only [X123, List.mem_cons, Prod.mk.injEq, List.not_mem_nil, or_false] at hm
    have hH1 := hH.ex hxe
    have hO1 := hO.kept (hxe.2 out hOl)
    have hM1 : Mv (Fw q ta out) s.heap (Fw q ta out) H1 := hxe.mv _
    have hlo : ∀ z ∈ [] ++ L, Fw q ta out z.base := fun z hz => (List.mem_append.mp hz).elim (fun h => nomatch h) (fun h => fw_m _ (hL z h))
    rcases hm with ⟨rfl, rfl⟩ | ⟨rfl, rfl⟩ | ⟨rfl, rfl⟩
    · refine h_hand B hKT (pre := []) (x := (0, 10, 13, 24)) (suf := [(0, 10, 17, 26), (0, 10, 21, 15)]) htab (fun _ h => nomatch h) ⟨by decide, by decide⟩ (by decide) wx_24 (by decide) hce hcv hcl ?_
      refine pb_blk B.hx B.hb (lv' := [(4, .ref qx), (0, .ref q), (1, .int f0), (2, .int g0), (3, .ref out)]) (st' := [.int 1]) hl bkL_either_13_16 rfl (fun ls hl => ?_)
      exact x_iret B dL_either_16 hM1 (by exact ⟨1, rfl, Or.inr ⟨by decide, by decide, hR, hH1, _, hO1⟩⟩) hlo (Nat.le_of_ble_eq_true rfl) (Nat.le_of_ble_eq_true rfl)
    · refine h_hand B hKT (pre := [(0, 10, 13, 24)]) (x := (0, 10, 17, 26)) (suf := [(0, 10, 21, 15)]) htab (List.forall_mem_cons.mpr ⟨⟨by decide, _, wx_24, by decide⟩, (fun _ h => nomatch h)⟩) ⟨by decide, by decide⟩ (by decide) wx_26 (by decide) hce hcv hcl ?_
      refine pb_blk B.hx B.hb (lv' := [(4, .ref qx), (0, .ref q), (1, .int f0), (2, .int g0), (3, .ref out)]) (st' := [.int 2]) hl bkL_either_17_20 rfl (fun ls hl => ?_)
      exact x_iret B dL_either_20 hM1 (by exact ⟨2, rfl, Or.inr ⟨by decide, by decide, hR, hH1, _, hO1⟩⟩) hlo (Nat.le_of_ble_eq_true rfl) (Nat.le_of_ble_eq_true rfl)
    · refine h_hand B hKT (pre := [(0, 10, 13, 24), (0, 10, 17, 26)]) (x := (0, 10, 21, 15)) (suf := []) htab (List.forall_mem_cons.mpr ⟨⟨by decide, _, wx_24, by decide⟩, (List.forall_mem_cons.mpr ⟨⟨by decide, _, wx_26, by decide⟩, (fun _ h => nomatch h)⟩)⟩) ⟨by decide, by decide⟩ (by decide) wx_15 (by decide) hce hcv hcl ?_
      refine pb_blk B.hx B.hb (lv' := [(4, .ref qx), (0, .ref q), (1, .int f0), (2, .int g0), (3, .ref out)]) (st' := [.int 3]) hl bkL_either_21_24 rfl (fun ls hl => ?_)
      exact x_iret B dL_either_24 hM1 (by exact ⟨3, rfl, Or.inr ⟨by decide, by decide, hR, hH1, _, hO1⟩⟩) hlo (Nat.le_of_ble_eq_true rfl) (Nat.le_of_ble_eq_true rfl)

def po_L_other (G : Gm) (A : Nat → Prop) (q ta out N : Nat) (th : Nat → Th) (as : St3) (f0 : Int32) : Option Value → Heap → Prop := WmK G A q ta out N th as (R_other N th f0)
theorem bkL_other_0_4 : pb_chk cL_other 0 [.aload_n 2, .iconst 0, .aload_n 0, .iload_n 1] = some 4 := by decide +kernel
theorem dL_other_4 : decode cL_other 4 = .ok (.invokevirtual 56, 3) := by decide +kernel
theorem bkL_other_7_8 : pb_chk cL_other 7 [.i2l] = some 8 := by decide +kernel
theorem dL_other_8 : decode cL_other 8 = .ok (.lastore, 1) := by decide +kernel
theorem bkL_other_9_22 : pb_chk cL_other 9 [.goto 12, .iconst 0] = some 22 := by decide +kernel
theorem dL_other_22 : decode cL_other 22 = .ok (.ireturn, 1) := by decide +kernel
theorem bkL_other_12_14 : pb_chk cL_other 12 [.astore_n 3, .iconst 1] = some 14 := by decide +kernel
theorem dL_other_14 : decode cL_other 14 = .ok (.ireturn, 1) := by decide +kernel
theorem bkL_other_15_17 : pb_chk cL_other 15 [.astore_n 3, .iconst 2] = some 17 := by decide +kernel
theorem dL_other_17 : decode cL_other 17 = .ok (.ireturn, 1) := by decide +kernel
theorem bkL_other_18_20 : pb_chk cL_other 18 [.astore_n 3, .iconst 3] = some 20 := by decide +kernel
theorem dL_other_20 : decode cL_other 20 = .ok (.ireturn, 1) := by decide +kernel
abbrev hh_L_other : List (Nat × Nat × Nat × Nat) := [(0, 9, 12, 24), (0, 9, 15, 26), (0, 9, 18, 15)]
set_option maxHeartbeats 4000000 in
set_option maxRecDepth 100000 in
theorem c_L_other (l : Launch) (hst : l.stackTraces = false) (G : Gm) (A : Nat → Prop) (q ta out N : Nat) (th : Nat → Th) (as : St3) (f0 : Int32) (hB : Bds N th as) (hAo : A out) (hoq : out ≠ q) (hot : out ≠ ta) : Mh l yL_other cL_other 4 (some .int) hh_L_other (⟨9, 300, 10000, 190⟩ : Room) G A (Fw q ta out) [.ref q, .int f0, .ref out] (fun H => House G A H q ta N th as ∧ ∃ y, OutL G H out y) (po_L_other G A q ta out N th as f0) := by
  refine of_metH (by decide) (Nat.le_of_ble_eq_true rfl) ?_
  intro p e s m below meth c ls B hKT htab hA hP hl
  obtain ⟨hH, y0, hO⟩ := hP
  have hOl := hO.lt
  obtain ⟨fs, hob⟩ := hH.ob
  have hqA : A q ∧ A ta ∧ q < s.heap.size ∧ ta < s.heap.size := ⟨hH.Aq, hH.At, hA q hH.Aq, hA ta hH.At⟩
  refine pb_blk B.hx B.hb (lv' := [(0, .ref q), (1, .int f0), (2, .ref out)]) (st' := [.int f0, .ref q, .int 0, .ref out]) hl bkL_other_0_4 rfl (fun ls hl => ?_)
  refine h_callV B hKT (c_X5_other l hst G A q ta N th as f0 hB) cy_X5_other im_X5_other se_X5_other wd_M_L_56 rfl hob hA hH Ex.rf rfl hl.1 rfl (Nat.le_of_ble_eq_true rfl) ⟨by decide, by decide⟩ ⟨by decide, by decide⟩ dL_other_4 (fun v H1 L hL hmv hv => ?_) (fun E qx H1 L ce hpx hL hxe hce hcv hcl => ?_)
  · obtain ⟨rfl, t, hR, hH1⟩ := hv
    obtain ⟨fo, ho1, ho2⟩ := hO
    have ho3 : H1[out]? = some (arrV (G.2 1) 1 fo) := ((hmv.2 out hOl (fun h => h.elim hoq hot)).2).trans ho1
    refine pb_blk B.hx B.hb (lv' := [(0, .ref q), (1, .int f0), (2, .ref out)]) (st' := [.long ((nI N)).toInt64, .int 0, .ref out]) hl bkL_other_7_8 rfl (fun ls hl => ?_)
    refine z_last B ho3 (show vp_in (nI 0) 1 from vp_in_nI (by decide) (by decide)) dL_other_8 (fun H2 w2 z2 o2 => ?_)
    have hO2 : OutL G H2 out (nI N).toInt64 := ⟨_, w2, updV_at⟩
    have hM2 : Mv (Fw q ta out) s.heap (Fw q ta out) H2 := hmv.st fw_m (Or.inr (Or.inr rfl)) z2 o2
    have hH2 := hH1.mvA (Mv.put z2 o2 hAo) (o2 q (Ne.symm hoq)) (o2 ta (Ne.symm hot))
    have hlo : ∀ z ∈ ([] ++ L) ++ [(⟨out, 0⟩ : Loc)], Fw q ta out z.base := fun z hz => (List.mem_append.mp hz).elim (fun h => fw_m _ (hL z h)) (fun h => by rw [List.mem_singleton.mp h]; exact Or.inr (Or.inr rfl))
    refine pb_blk B.hx B.hb (lv' := [(0, .ref q), (1, .int f0), (2, .ref out)]) (st' := [.int 0]) hl bkL_other_9_22 rfl (fun ls hl => ?_)
    exact x_iret B dL_other_22 hM2 (by exact ⟨0, rfl, Or.inl ⟨rfl, t, hR, hH2, hO2⟩⟩) hlo (Nat.le_of_ble_eq_true rfl) (Nat.le_of_ble_eq_true rfl)
  · obtain ⟨cc, hm, hR⟩ := hpx
    simp only [X123, List.mem_cons, Prod.mk.injEq, List.not_mem_nil, or_false] at hm
    have hH1 := hH.ex hxe
    have hO1 := hO.kept (hxe.2 out hOl)
    have hM1 : Mv (Fw q ta out) s.heap (Fw q ta out) H1 := hxe.mv _
    have hlo : ∀ z ∈ [] ++ L, Fw q ta out z.base := fun z hz => (List.mem_append.mp hz).elim (fun h => nomatch h) (fun h => fw_m _ (hL z h))
    rcases hm with ⟨rfl, rfl⟩ | ⟨rfl, rfl⟩ | ⟨rfl, rfl⟩
    · refine h_hand B hKT (pre := []) (x := (0, 9, 12, 24)) (suf := [(0, 9, 15, 26), (0, 9, 18, 15)]) htab (fun _ h => nomatch h) ⟨by decide, by decide⟩ (by decide) wx_24 (by decide) hce hcv hcl ?_
      refine pb_blk B.hx B.hb (lv' := [(3, .ref qx), (0, .ref q), (1, .int f0), (2, .ref out)]) (st' := [.int 1]) hl bkL_other_12_14 rfl (fun ls hl => ?_)
      exact x_iret B dL_other_14 hM1 (by exact ⟨1, rfl, Or.inr ⟨by decide, by decide, hR, hH1, _, hO1⟩⟩) hlo (Nat.le_of_ble_eq_true rfl) (Nat.le_of_ble_eq_true rfl)
    · refine h_hand B hKT (pre := [(0, 9, 12, 24)]) (x := (0, 9, 15, 26)) (suf := [(0, 9, 18, 15)]) htab (List.forall_mem_cons.mpr ⟨⟨by decide, _, wx_24, by decide⟩, (fun _ h => nomatch h)⟩) ⟨by decide, by decide⟩ (by decide) wx_26 (by decide) hce hcv hcl ?_
      refine pb_blk B.hx B.hb (lv' := [(3, .ref qx), (0, .ref q), (1, .int f0), (2, .ref out)]) (st' := [.int 2]) hl bkL_other_15_17 rfl (fun ls hl => ?_)
      exact x_iret B dL_other_17 hM1 (by exact ⟨2, rfl, Or.inr ⟨by decide, by decide, hR, hH1, _, hO1⟩⟩) hlo (Nat.le_of_ble_eq_true rfl) (Nat.le_of_ble_eq_true rfl)
    · refine h_hand B hKT (pre := [(0, 9, 12, 24), (0, 9, 15, 26)]) (x := (0, 9, 18, 15)) (suf := []) htab (List.forall_mem_cons.mpr ⟨⟨by decide, _, wx_24, by decide⟩, (List.forall_mem_cons.mpr ⟨⟨by decide, _, wx_26, by decide⟩, (fun _ h => nomatch h)⟩)⟩) ⟨by decide, by decide⟩ (by decide) wx_15 (by decide) hce hcv hcl ?_
      refine pb_blk B.hx B.hb (lv' := [(3, .ref qx), (0, .ref q), (1, .int f0), (2, .ref out)]) (st' := [.int 3]) hl bkL_other_18_20 rfl (fun ls hl => ?_)
      exact x_iret B dL_other_20 hM1 (by exact ⟨3, rfl, Or.inr ⟨by decide, by decide, hR, hH1, _, hO1⟩⟩) hlo (Nat.le_of_ble_eq_true rfl) (Nat.le_of_ble_eq_true rfl)

def po_L_kind (G : Gm) (A : Nat → Prop) (q ta out N : Nat) (th : Nat → Th) (as : St3) (f0 : Int32) : Option Value → Heap → Prop := WrK G A q ta out N th as (R_kind N th f0) o64
theorem bkL_kind_0_4 : pb_chk cL_kind 0 [.aload_n 2, .iconst 0, .aload_n 0, .iload_n 1] = some 4 := by decide +kernel
theorem dL_kind_4 : decode cL_kind 4 = .ok (.invokevirtual 59, 3) := by decide +kernel
theorem bkL_kind_7_8 : pb_chk cL_kind 7 [.i2l] = some 8 := by decide +kernel
theorem dL_kind_8 : decode cL_kind 8 = .ok (.lastore, 1) := by decide +kernel
theorem bkL_kind_9_16 : pb_chk cL_kind 9 [.goto 6, .iconst 0] = some 16 := by decide +kernel
theorem dL_kind_16 : decode cL_kind 16 = .ok (.ireturn, 1) := by decide +kernel
theorem bkL_kind_12_14 : pb_chk cL_kind 12 [.astore_n 3, .iconst 1] = some 14 := by decide +kernel
theorem dL_kind_14 : decode cL_kind 14 = .ok (.ireturn, 1) := by decide +kernel
abbrev hh_L_kind : List (Nat × Nat × Nat × Nat) := [(0, 9, 12, 24)]
set_option maxHeartbeats 4000000 in
set_option maxRecDepth 100000 in
theorem c_L_kind (l : Launch) (hst : l.stackTraces = false) (G : Gm) (A : Nat → Prop) (q ta out N : Nat) (th : Nat → Th) (as : St3) (f0 : Int32) (hB : Bds N th as) (hAo : A out) (hoq : out ≠ q) (hot : out ≠ ta) : Mh l yL_kind cL_kind 4 (some .int) hh_L_kind (⟨9, 300, 10000, 190⟩ : Room) G A (Fw q ta out) [.ref q, .int f0, .ref out] (fun H => House G A H q ta N th as ∧ ∃ y, OutL G H out y) (po_L_kind G A q ta out N th as f0) := by
  refine of_metH (by decide) (Nat.le_of_ble_eq_true rfl) ?_
  intro p e s m below meth c ls B hKT htab hA hP hl
  obtain ⟨hH, y0, hO⟩ := hP
  have hOl := hO.lt
  obtain ⟨fs, hob⟩ := hH.ob
  have hqA : A q ∧ A ta ∧ q < s.heap.size ∧ ta < s.heap.size := ⟨hH.Aq, hH.At, hA q hH.Aq, hA ta hH.At⟩
  refine pb_blk B.hx B.hb (lv' := [(0, .ref q), (1, .int f0), (2, .ref out)]) (st' := [.int f0, .ref q, .int 0, .ref out]) hl bkL_kind_0_4 rfl (fun ls hl => ?_)
  refine h_callV B hKT (c_X5_kind l hst G A q ta N th as f0 hB) cy_X5_kind im_X5_kind se_X5_kind wd_M_L_59 rfl hob hA hH Ex.rf rfl hl.1 rfl (Nat.le_of_ble_eq_true rfl) ⟨by decide, by decide⟩ ⟨by decide, by decide⟩ dL_kind_4 (fun v H1 L hL hmv hv => ?_) (fun E qx H1 L ce hpx hL hxe hce hcv hcl => ?_)
  · obtain ⟨r, rfl, hR⟩ := hv
    have hH1 := hH.ex hmv.toEx
    obtain ⟨fo, ho1, ho2⟩ := hO
    have ho3 : H1[out]? = some (arrV (G.2 1) 1 fo) := ((hmv.2 out hOl (fun h => h)).2).trans ho1
    refine pb_blk B.hx B.hb (lv' := [(0, .ref q), (1, .int f0), (2, .ref out)]) (st' := [.long r.toInt64, .int 0, .ref out]) hl bkL_kind_7_8 rfl (fun ls hl => ?_)
    refine z_last B ho3 (show vp_in (nI 0) 1 from vp_in_nI (by decide) (by decide)) dL_kind_8 (fun H2 w2 z2 o2 => ?_)
    have hO2 : OutL G H2 out (o64 r) := ⟨_, w2, updV_at⟩
    have hM2 : Mv (Fw q ta out) s.heap (Fw q ta out) H2 := hmv.st fw_f (Or.inr (Or.inr rfl)) z2 o2
    have hH2 := hH1.mvA (Mv.put z2 o2 hAo) (o2 q (Ne.symm hoq)) (o2 ta (Ne.symm hot))
    have hlo : ∀ z ∈ ([] ++ L) ++ [(⟨out, 0⟩ : Loc)], Fw q ta out z.base := fun z hz => (List.mem_append.mp hz).elim (fun h => fw_f _ (hL z h)) (fun h => by rw [List.mem_singleton.mp h]; exact Or.inr (Or.inr rfl))
    refine pb_blk B.hx B.hb (lv' := [(0, .ref q), (1, .int f0), (2, .ref out)]) (st' := [.int 0]) hl bkL_kind_9_16 rfl (fun ls hl => ?_)
    exact x_iret B dL_kind_16 hM2 (by exact ⟨0, rfl, hH2, Or.inl ⟨rfl, r, hR, hO2⟩⟩) hlo (Nat.le_of_ble_eq_true rfl) (Nat.le_of_ble_eq_true rfl)
  · obtain ⟨cc, hm, hR⟩ := hpx
    simp only [X1, List.mem_cons, Prod.mk.injEq, List.not_mem_nil, or_false] at hm
    have hH1 := hH.ex hxe
    have hO1 := hO.kept (hxe.2 out hOl)
    have hM1 : Mv (Fw q ta out) s.heap (Fw q ta out) H1 := hxe.mv _
    have hlo : ∀ z ∈ [] ++ L, Fw q ta out z.base := fun z hz => (List.mem_append.mp hz).elim (fun h => nomatch h) (fun h => fw_f _ (hL z h))
    rcases hm with ⟨rfl, rfl⟩
    refine h_hand B hKT (pre := []) (x := (0, 9, 12, 24)) (suf := []) htab (fun _ h => nomatch h) ⟨by decide, by decide⟩ (by decide) wx_24 (by decide) hce hcv hcl ?_
    refine pb_blk B.hx B.hb (lv' := [(3, .ref qx), (0, .ref q), (1, .int f0), (2, .ref out)]) (st' := [.int 1]) hl bkL_kind_12_14 rfl (fun ls hl => ?_)
    exact x_iret B dL_kind_14 hM1 (by exact ⟨1, rfl, hH1, Or.inr ⟨by decide, by decide, hR, _, hO1⟩⟩) hlo (Nat.le_of_ble_eq_true rfl) (Nat.le_of_ble_eq_true rfl)

def po_L_degree (G : Gm) (A : Nat → Prop) (q ta out N : Nat) (th : Nat → Th) (as : St3) (f0 : Int32) : Option Value → Heap → Prop := WrK G A q ta out N th as (R_degree N th f0) o64
theorem bkL_degree_0_4 : pb_chk cL_degree 0 [.aload_n 2, .iconst 0, .aload_n 0, .iload_n 1] = some 4 := by decide +kernel
theorem dL_degree_4 : decode cL_degree 4 = .ok (.invokevirtual 62, 3) := by decide +kernel
theorem bkL_degree_7_8 : pb_chk cL_degree 7 [.i2l] = some 8 := by decide +kernel
theorem dL_degree_8 : decode cL_degree 8 = .ok (.lastore, 1) := by decide +kernel
theorem bkL_degree_9_19 : pb_chk cL_degree 9 [.goto 9, .iconst 0] = some 19 := by decide +kernel
theorem dL_degree_19 : decode cL_degree 19 = .ok (.ireturn, 1) := by decide +kernel
theorem bkL_degree_12_14 : pb_chk cL_degree 12 [.astore_n 3, .iconst 1] = some 14 := by decide +kernel
theorem dL_degree_14 : decode cL_degree 14 = .ok (.ireturn, 1) := by decide +kernel
theorem bkL_degree_15_17 : pb_chk cL_degree 15 [.astore_n 3, .iconst 2] = some 17 := by decide +kernel
theorem dL_degree_17 : decode cL_degree 17 = .ok (.ireturn, 1) := by decide +kernel
abbrev hh_L_degree : List (Nat × Nat × Nat × Nat) := [(0, 9, 12, 24), (0, 9, 15, 26)]
set_option maxHeartbeats 4000000 in
set_option maxRecDepth 100000 in
theorem c_L_degree (l : Launch) (hst : l.stackTraces = false) (G : Gm) (A : Nat → Prop) (q ta out N : Nat) (th : Nat → Th) (as : St3) (f0 : Int32) (hB : Bds N th as) (hAo : A out) (hoq : out ≠ q) (hot : out ≠ ta) : Mh l yL_degree cL_degree 4 (some .int) hh_L_degree (⟨9, 300, 10000, 190⟩ : Room) G A (Fw q ta out) [.ref q, .int f0, .ref out] (fun H => House G A H q ta N th as ∧ ∃ y, OutL G H out y) (po_L_degree G A q ta out N th as f0) := by
  refine of_metH (by decide) (Nat.le_of_ble_eq_true rfl) ?_
  intro p e s m below meth c ls B hKT htab hA hP hl
  obtain ⟨hH, y0, hO⟩ := hP
  have hOl := hO.lt
  obtain ⟨fs, hob⟩ := hH.ob
  have hqA : A q ∧ A ta ∧ q < s.heap.size ∧ ta < s.heap.size := ⟨hH.Aq, hH.At, hA q hH.Aq, hA ta hH.At⟩
  refine pb_blk B.hx B.hb (lv' := [(0, .ref q), (1, .int f0), (2, .ref out)]) (st' := [.int f0, .ref q, .int 0, .ref out]) hl bkL_degree_0_4 rfl (fun ls hl => ?_)
  refine h_callV B hKT (c_X5_degree l hst G A q ta N th as f0 hB) cy_X5_degree im_X5_degree se_X5_degree wd_M_L_62 rfl hob hA hH Ex.rf rfl hl.1 rfl (Nat.le_of_ble_eq_true rfl) ⟨by decide, by decide⟩ ⟨by decide, by decide⟩ dL_degree_4 (fun v H1 L hL hmv hv => ?_) (fun E qx H1 L ce hpx hL hxe hce hcv hcl => ?_)
  · obtain ⟨r, rfl, hR⟩ := hv
    have hH1 := hH.ex hmv.toEx
    obtain ⟨fo, ho1, ho2⟩ := hO
    have ho3 : H1[out]? = some (arrV (G.2 1) 1 fo) := ((hmv.2 out hOl (fun h => h)).2).trans ho1
    refine pb_blk B.hx B.hb (lv' := [(0, .ref q), (1, .int f0), (2, .ref out)]) (st' := [.long r.toInt64, .int 0, .ref out]) hl bkL_degree_7_8 rfl (fun ls hl => ?_)
    refine z_last B ho3 (show vp_in (nI 0) 1 from vp_in_nI (by decide) (by decide)) dL_degree_8 (fun H2 w2 z2 o2 => ?_)
    have hO2 : OutL G H2 out (o64 r) := ⟨_, w2, updV_at⟩
    have hM2 : Mv (Fw q ta out) s.heap (Fw q ta out) H2 := hmv.st fw_f (Or.inr (Or.inr rfl)) z2 o2
    have hH2 := hH1.mvA (Mv.put z2 o2 hAo) (o2 q (Ne.symm hoq)) (o2 ta (Ne.symm hot))
    have hlo : ∀ z ∈ ([] ++ L) ++ [(⟨out, 0⟩ : Loc)], Fw q ta out z.base := fun z hz => (List.mem_append.mp hz).elim (fun h => fw_f _ (hL z h)) (fun h => by rw [List.mem_singleton.mp h]; exact Or.inr (Or.inr rfl))
    refine pb_blk B.hx B.hb (lv' := [(0, .ref q), (1, .int f0), (2, .ref out)]) (st' := [.int 0]) hl bkL_degree_9_19 rfl (fun ls hl => ?_)
    exact x_iret B dL_degree_19 hM2 (by exact ⟨0, rfl, hH2, Or.inl ⟨rfl, r, hR, hO2⟩⟩) hlo (Nat.le_of_ble_eq_true rfl) (Nat.le_of_ble_eq_true rfl)
  · obtain ⟨cc, hm, hR⟩ := hpx
    simp only [X12, List.mem_cons, Prod.mk.injEq, List.not_mem_nil, or_false] at hm
    have hH1 := hH.ex hxe
    have hO1 := hO.kept (hxe.2 out hOl)
    have hM1 : Mv (Fw q ta out) s.heap (Fw q ta out) H1 := hxe.mv _
    have hlo : ∀ z ∈ [] ++ L, Fw q ta out z.base := fun z hz => (List.mem_append.mp hz).elim (fun h => nomatch h) (fun h => fw_f _ (hL z h))
    rcases hm with ⟨rfl, rfl⟩ | ⟨rfl, rfl⟩
    · refine h_hand B hKT (pre := []) (x := (0, 9, 12, 24)) (suf := [(0, 9, 15, 26)]) htab (fun _ h => nomatch h) ⟨by decide, by decide⟩ (by decide) wx_24 (by decide) hce hcv hcl ?_
      refine pb_blk B.hx B.hb (lv' := [(3, .ref qx), (0, .ref q), (1, .int f0), (2, .ref out)]) (st' := [.int 1]) hl bkL_degree_12_14 rfl (fun ls hl => ?_)
      exact x_iret B dL_degree_14 hM1 (by exact ⟨1, rfl, hH1, Or.inr ⟨by decide, by decide, hR, _, hO1⟩⟩) hlo (Nat.le_of_ble_eq_true rfl) (Nat.le_of_ble_eq_true rfl)
    · refine h_hand B hKT (pre := [(0, 9, 12, 24)]) (x := (0, 9, 15, 26)) (suf := []) htab (List.forall_mem_cons.mpr ⟨⟨by decide, _, wx_24, by decide⟩, (fun _ h => nomatch h)⟩) ⟨by decide, by decide⟩ (by decide) wx_26 (by decide) hce hcv hcl ?_
      refine pb_blk B.hx B.hb (lv' := [(3, .ref qx), (0, .ref q), (1, .int f0), (2, .ref out)]) (st' := [.int 2]) hl bkL_degree_15_17 rfl (fun ls hl => ?_)
      exact x_iret B dL_degree_17 hM1 (by exact ⟨2, rfl, hH1, Or.inr ⟨by decide, by decide, hR, _, hO1⟩⟩) hlo (Nat.le_of_ble_eq_true rfl) (Nat.le_of_ble_eq_true rfl)

def po_L_at (G : Gm) (A : Nat → Prop) (q ta out N : Nat) (th : Nat → Th) (as : St3) (f0 g0 k0 : Int32) : Option Value → Heap → Prop := WrK G A q ta out N th as (R_at N th f0 g0 k0) o64
theorem bkL_at_0_7 : pb_chk cL_at 0 [.aload 4, .iconst 0, .aload_n 0, .iload_n 1, .iload_n 2, .iload_n 3] = some 7 := by decide +kernel
theorem dL_at_7 : decode cL_at 7 = .ok (.invokevirtual 65, 3) := by decide +kernel
theorem bkL_at_10_11 : pb_chk cL_at 10 [.i2l] = some 11 := by decide +kernel
theorem dL_at_11 : decode cL_at 11 = .ok (.lastore, 1) := by decide +kernel
theorem bkL_at_12_24 : pb_chk cL_at 12 [.goto 11, .iconst 0] = some 24 := by decide +kernel
theorem dL_at_24 : decode cL_at 24 = .ok (.ireturn, 1) := by decide +kernel
theorem bkL_at_15_18 : pb_chk cL_at 15 [.astore 5, .iconst 1] = some 18 := by decide +kernel
theorem dL_at_18 : decode cL_at 18 = .ok (.ireturn, 1) := by decide +kernel
theorem bkL_at_19_22 : pb_chk cL_at 19 [.astore 5, .iconst 2] = some 22 := by decide +kernel
theorem dL_at_22 : decode cL_at 22 = .ok (.ireturn, 1) := by decide +kernel
abbrev hh_L_at : List (Nat × Nat × Nat × Nat) := [(0, 12, 15, 24), (0, 12, 19, 26)]
set_option maxHeartbeats 4000000 in
set_option maxRecDepth 100000 in
theorem c_L_at (l : Launch) (hst : l.stackTraces = false) (G : Gm) (A : Nat → Prop) (q ta out N : Nat) (th : Nat → Th) (as : St3) (f0 g0 k0 : Int32) (hB : Bds N th as) (hAo : A out) (hoq : out ≠ q) (hot : out ≠ ta) : Mh l yL_at cL_at 6 (some .int) hh_L_at (⟨9, 300, 10000, 190⟩ : Room) G A (Fw q ta out) [.ref q, .int f0, .int g0, .int k0, .ref out] (fun H => House G A H q ta N th as ∧ ∃ y, OutL G H out y) (po_L_at G A q ta out N th as f0 g0 k0) := by
  refine of_metH (by decide) (Nat.le_of_ble_eq_true rfl) ?_
  intro p e s m below meth c ls B hKT htab hA hP hl
  obtain ⟨hH, y0, hO⟩ := hP
  have hOl := hO.lt
  obtain ⟨fs, hob⟩ := hH.ob
  have hqA : A q ∧ A ta ∧ q < s.heap.size ∧ ta < s.heap.size := ⟨hH.Aq, hH.At, hA q hH.Aq, hA ta hH.At⟩
  refine pb_blk B.hx B.hb (lv' := [(0, .ref q), (1, .int f0), (2, .int g0), (3, .int k0), (4, .ref out)]) (st' := [.int k0, .int g0, .int f0, .ref q, .int 0, .ref out]) hl bkL_at_0_7 rfl (fun ls hl => ?_)
  refine h_callV B hKT (c_X5_at l hst G A q ta N th as f0 g0 k0 hB) cy_X5_at im_X5_at se_X5_at wd_M_L_65 rfl hob hA hH Ex.rf rfl hl.1 rfl (Nat.le_of_ble_eq_true rfl) ⟨by decide, by decide⟩ ⟨by decide, by decide⟩ dL_at_7 (fun v H1 L hL hmv hv => ?_) (fun E qx H1 L ce hpx hL hxe hce hcv hcl => ?_)
  · obtain ⟨r, rfl, hR⟩ := hv
    have hH1 := hH.ex hmv.toEx
    obtain ⟨fo, ho1, ho2⟩ := hO
    have ho3 : H1[out]? = some (arrV (G.2 1) 1 fo) := ((hmv.2 out hOl (fun h => h)).2).trans ho1
    refine pb_blk B.hx B.hb (lv' := [(0, .ref q), (1, .int f0), (2, .int g0), (3, .int k0), (4, .ref out)]) (st' := [.long r.toInt64, .int 0, .ref out]) hl bkL_at_10_11 rfl (fun ls hl => ?_)
    refine z_last B ho3 (show vp_in (nI 0) 1 from vp_in_nI (by decide) (by decide)) dL_at_11 (fun H2 w2 z2 o2 => ?_)
    have hO2 : OutL G H2 out (o64 r) := ⟨_, w2, updV_at⟩
    have hM2 : Mv (Fw q ta out) s.heap (Fw q ta out) H2 := hmv.st fw_f (Or.inr (Or.inr rfl)) z2 o2
    have hH2 := hH1.mvA (Mv.put z2 o2 hAo) (o2 q (Ne.symm hoq)) (o2 ta (Ne.symm hot))
    have hlo : ∀ z ∈ ([] ++ L) ++ [(⟨out, 0⟩ : Loc)], Fw q ta out z.base := fun z hz => (List.mem_append.mp hz).elim (fun h => fw_f _ (hL z h)) (fun h => by rw [List.mem_singleton.mp h]; exact Or.inr (Or.inr rfl))
    refine pb_blk B.hx B.hb (lv' := [(0, .ref q), (1, .int f0), (2, .int g0), (3, .int k0), (4, .ref out)]) (st' := [.int 0]) hl bkL_at_12_24 rfl (fun ls hl => ?_)
    exact x_iret B dL_at_24 hM2 (by exact ⟨0, rfl, hH2, Or.inl ⟨rfl, r, hR, hO2⟩⟩) hlo (Nat.le_of_ble_eq_true rfl) (Nat.le_of_ble_eq_true rfl)
  · obtain ⟨cc, hm, hR⟩ := hpx
    simp only [X12, List.mem_cons, Prod.mk.injEq, List.not_mem_nil, or_false] at hm
    have hH1 := hH.ex hxe
    have hO1 := hO.kept (hxe.2 out hOl)
    have hM1 : Mv (Fw q ta out) s.heap (Fw q ta out) H1 := hxe.mv _
    have hlo : ∀ z ∈ [] ++ L, Fw q ta out z.base := fun z hz => (List.mem_append.mp hz).elim (fun h => nomatch h) (fun h => fw_f _ (hL z h))
    rcases hm with ⟨rfl, rfl⟩ | ⟨rfl, rfl⟩
    · refine h_hand B hKT (pre := []) (x := (0, 12, 15, 24)) (suf := [(0, 12, 19, 26)]) htab (fun _ h => nomatch h) ⟨by decide, by decide⟩ (by decide) wx_24 (by decide) hce hcv hcl ?_
      refine pb_blk B.hx B.hb (lv' := [(5, .ref qx), (0, .ref q), (1, .int f0), (2, .int g0), (3, .int k0), (4, .ref out)]) (st' := [.int 1]) hl bkL_at_15_18 rfl (fun ls hl => ?_)
      exact x_iret B dL_at_18 hM1 (by exact ⟨1, rfl, hH1, Or.inr ⟨by decide, by decide, hR, _, hO1⟩⟩) hlo (Nat.le_of_ble_eq_true rfl) (Nat.le_of_ble_eq_true rfl)
    · refine h_hand B hKT (pre := [(0, 12, 15, 24)]) (x := (0, 12, 19, 26)) (suf := []) htab (List.forall_mem_cons.mpr ⟨⟨by decide, _, wx_24, by decide⟩, (fun _ h => nomatch h)⟩) ⟨by decide, by decide⟩ (by decide) wx_26 (by decide) hce hcv hcl ?_
      refine pb_blk B.hx B.hb (lv' := [(5, .ref qx), (0, .ref q), (1, .int f0), (2, .int g0), (3, .int k0), (4, .ref out)]) (st' := [.int 2]) hl bkL_at_19_22 rfl (fun ls hl => ?_)
      exact x_iret B dL_at_22 hM1 (by exact ⟨2, rfl, hH1, Or.inr ⟨by decide, by decide, hR, _, hO1⟩⟩) hlo (Nat.le_of_ble_eq_true rfl) (Nat.le_of_ble_eq_true rfl)

def po_L_pieces (G : Gm) (A : Nat → Prop) (q ta out N : Nat) (th : Nat → Th) (as : St3) (f0 : Int32) : Option Value → Heap → Prop := WrK G A q ta out N th as (R_pieces N th f0) o64
theorem bkL_pieces_0_4 : pb_chk cL_pieces 0 [.aload_n 2, .iconst 0, .aload_n 0, .iload_n 1] = some 4 := by decide +kernel
theorem dL_pieces_4 : decode cL_pieces 4 = .ok (.invokevirtual 69, 3) := by decide +kernel
theorem bkL_pieces_7_8 : pb_chk cL_pieces 7 [.i2l] = some 8 := by decide +kernel
theorem dL_pieces_8 : decode cL_pieces 8 = .ok (.lastore, 1) := by decide +kernel
theorem bkL_pieces_9_19 : pb_chk cL_pieces 9 [.goto 9, .iconst 0] = some 19 := by decide +kernel
theorem dL_pieces_19 : decode cL_pieces 19 = .ok (.ireturn, 1) := by decide +kernel
theorem bkL_pieces_12_14 : pb_chk cL_pieces 12 [.astore_n 3, .iconst 1] = some 14 := by decide +kernel
theorem dL_pieces_14 : decode cL_pieces 14 = .ok (.ireturn, 1) := by decide +kernel
theorem bkL_pieces_15_17 : pb_chk cL_pieces 15 [.astore_n 3, .iconst 2] = some 17 := by decide +kernel
theorem dL_pieces_17 : decode cL_pieces 17 = .ok (.ireturn, 1) := by decide +kernel
abbrev hh_L_pieces : List (Nat × Nat × Nat × Nat) := [(0, 9, 12, 24), (0, 9, 15, 26)]
set_option maxHeartbeats 4000000 in
set_option maxRecDepth 100000 in
theorem c_L_pieces (l : Launch) (hst : l.stackTraces = false) (G : Gm) (A : Nat → Prop) (q ta out N : Nat) (th : Nat → Th) (as : St3) (f0 : Int32) (hB : Bds N th as) (hAo : A out) (hoq : out ≠ q) (hot : out ≠ ta) : Mh l yL_pieces cL_pieces 4 (some .int) hh_L_pieces (⟨9, 300, 10000, 190⟩ : Room) G A (Fw q ta out) [.ref q, .int f0, .ref out] (fun H => House G A H q ta N th as ∧ ∃ y, OutL G H out y) (po_L_pieces G A q ta out N th as f0) := by
  refine of_metH (by decide) (Nat.le_of_ble_eq_true rfl) ?_
  intro p e s m below meth c ls B hKT htab hA hP hl
  obtain ⟨hH, y0, hO⟩ := hP
  have hOl := hO.lt
  obtain ⟨fs, hob⟩ := hH.ob
  have hqA : A q ∧ A ta ∧ q < s.heap.size ∧ ta < s.heap.size := ⟨hH.Aq, hH.At, hA q hH.Aq, hA ta hH.At⟩
  refine pb_blk B.hx B.hb (lv' := [(0, .ref q), (1, .int f0), (2, .ref out)]) (st' := [.int f0, .ref q, .int 0, .ref out]) hl bkL_pieces_0_4 rfl (fun ls hl => ?_)
  refine h_callV B hKT (c_X5_pieces l hst G A q ta N th as f0 hB) cy_X5_pieces im_X5_pieces se_X5_pieces wd_M_L_69 rfl hob hA hH Ex.rf rfl hl.1 rfl (Nat.le_of_ble_eq_true rfl) ⟨by decide, by decide⟩ ⟨by decide, by decide⟩ dL_pieces_4 (fun v H1 L hL hmv hv => ?_) (fun E qx H1 L ce hpx hL hxe hce hcv hcl => ?_)
  · obtain ⟨r, rfl, hR⟩ := hv
    have hH1 := hH.ex hmv.toEx
    obtain ⟨fo, ho1, ho2⟩ := hO
    have ho3 : H1[out]? = some (arrV (G.2 1) 1 fo) := ((hmv.2 out hOl (fun h => h)).2).trans ho1
    refine pb_blk B.hx B.hb (lv' := [(0, .ref q), (1, .int f0), (2, .ref out)]) (st' := [.long r.toInt64, .int 0, .ref out]) hl bkL_pieces_7_8 rfl (fun ls hl => ?_)
    refine z_last B ho3 (show vp_in (nI 0) 1 from vp_in_nI (by decide) (by decide)) dL_pieces_8 (fun H2 w2 z2 o2 => ?_)
    have hO2 : OutL G H2 out (o64 r) := ⟨_, w2, updV_at⟩
    have hM2 : Mv (Fw q ta out) s.heap (Fw q ta out) H2 := hmv.st fw_f (Or.inr (Or.inr rfl)) z2 o2
    have hH2 := hH1.mvA (Mv.put z2 o2 hAo) (o2 q (Ne.symm hoq)) (o2 ta (Ne.symm hot))
    have hlo : ∀ z ∈ ([] ++ L) ++ [(⟨out, 0⟩ : Loc)], Fw q ta out z.base := fun z hz => (List.mem_append.mp hz).elim (fun h => fw_f _ (hL z h)) (fun h => by rw [List.mem_singleton.mp h]; exact Or.inr (Or.inr rfl))
    refine pb_blk B.hx B.hb (lv' := [(0, .ref q), (1, .int f0), (2, .ref out)]) (st' := [.int 0]) hl bkL_pieces_9_19 rfl (fun ls hl => ?_)
    exact x_iret B dL_pieces_19 hM2 (by exact ⟨0, rfl, hH2, Or.inl ⟨rfl, r, hR, hO2⟩⟩) hlo (Nat.le_of_ble_eq_true rfl) (Nat.le_of_ble_eq_true rfl)
  · obtain ⟨cc, hm, hR⟩ := hpx
    simp only [X12, List.mem_cons, Prod.mk.injEq, List.not_mem_nil, or_false] at hm
    have hH1 := hH.ex hxe
    have hO1 := hO.kept (hxe.2 out hOl)
    have hM1 : Mv (Fw q ta out) s.heap (Fw q ta out) H1 := hxe.mv _
    have hlo : ∀ z ∈ [] ++ L, Fw q ta out z.base := fun z hz => (List.mem_append.mp hz).elim (fun h => nomatch h) (fun h => fw_f _ (hL z h))
    rcases hm with ⟨rfl, rfl⟩ | ⟨rfl, rfl⟩
    · refine h_hand B hKT (pre := []) (x := (0, 9, 12, 24)) (suf := [(0, 9, 15, 26)]) htab (fun _ h => nomatch h) ⟨by decide, by decide⟩ (by decide) wx_24 (by decide) hce hcv hcl ?_
      refine pb_blk B.hx B.hb (lv' := [(3, .ref qx), (0, .ref q), (1, .int f0), (2, .ref out)]) (st' := [.int 1]) hl bkL_pieces_12_14 rfl (fun ls hl => ?_)
      exact x_iret B dL_pieces_14 hM1 (by exact ⟨1, rfl, hH1, Or.inr ⟨by decide, by decide, hR, _, hO1⟩⟩) hlo (Nat.le_of_ble_eq_true rfl) (Nat.le_of_ble_eq_true rfl)
    · refine h_hand B hKT (pre := [(0, 9, 12, 24)]) (x := (0, 9, 15, 26)) (suf := []) htab (List.forall_mem_cons.mpr ⟨⟨by decide, _, wx_24, by decide⟩, (fun _ h => nomatch h)⟩) ⟨by decide, by decide⟩ (by decide) wx_26 (by decide) hce hcv hcl ?_
      refine pb_blk B.hx B.hb (lv' := [(3, .ref qx), (0, .ref q), (1, .int f0), (2, .ref out)]) (st' := [.int 2]) hl bkL_pieces_15_17 rfl (fun ls hl => ?_)
      exact x_iret B dL_pieces_17 hM1 (by exact ⟨2, rfl, hH1, Or.inr ⟨by decide, by decide, hR, _, hO1⟩⟩) hlo (Nat.le_of_ble_eq_true rfl) (Nat.le_of_ble_eq_true rfl)

def po_L_end (G : Gm) (A : Nat → Prop) (q ta out N : Nat) (th : Nat → Th) (as : St3) (f0 g0 k0 s0 : Int32) : Option Value → Heap → Prop := WrK G A q ta out N th as (R_end N th f0 g0 k0 s0) o64
theorem bkL_end_0_9 : pb_chk cL_end 0 [.aload 5, .iconst 0, .aload_n 0, .iload_n 1, .iload_n 2, .iload_n 3, .iload 4] = some 9 := by decide +kernel
theorem dL_end_9 : decode cL_end 9 = .ok (.invokevirtual 72, 3) := by decide +kernel
theorem bkL_end_12_13 : pb_chk cL_end 12 [.i2l] = some 13 := by decide +kernel
theorem dL_end_13 : decode cL_end 13 = .ok (.lastore, 1) := by decide +kernel
theorem bkL_end_14_26 : pb_chk cL_end 14 [.goto 11, .iconst 0] = some 26 := by decide +kernel
theorem dL_end_26 : decode cL_end 26 = .ok (.ireturn, 1) := by decide +kernel
theorem bkL_end_17_20 : pb_chk cL_end 17 [.astore 6, .iconst 1] = some 20 := by decide +kernel
theorem dL_end_20 : decode cL_end 20 = .ok (.ireturn, 1) := by decide +kernel
theorem bkL_end_21_24 : pb_chk cL_end 21 [.astore 6, .iconst 2] = some 24 := by decide +kernel
theorem dL_end_24 : decode cL_end 24 = .ok (.ireturn, 1) := by decide +kernel
abbrev hh_L_end : List (Nat × Nat × Nat × Nat) := [(0, 14, 17, 24), (0, 14, 21, 26)]
set_option maxHeartbeats 4000000 in
set_option maxRecDepth 100000 in
theorem c_L_end (l : Launch) (hst : l.stackTraces = false) (G : Gm) (A : Nat → Prop) (q ta out N : Nat) (th : Nat → Th) (as : St3) (f0 g0 k0 s0 : Int32) (hB : Bds N th as) (hAo : A out) (hoq : out ≠ q) (hot : out ≠ ta) : Mh l yL_end cL_end 7 (some .int) hh_L_end (⟨9, 300, 10000, 190⟩ : Room) G A (Fw q ta out) [.ref q, .int f0, .int g0, .int k0, .int s0, .ref out] (fun H => House G A H q ta N th as ∧ ∃ y, OutL G H out y) (po_L_end G A q ta out N th as f0 g0 k0 s0) := by
  refine of_metH (by decide) (Nat.le_of_ble_eq_true rfl) ?_
  intro p e s m below meth c ls B hKT htab hA hP hl
  obtain ⟨hH, y0, hO⟩ := hP
  have hOl := hO.lt
  obtain ⟨fs, hob⟩ := hH.ob
  have hqA : A q ∧ A ta ∧ q < s.heap.size ∧ ta < s.heap.size := ⟨hH.Aq, hH.At, hA q hH.Aq, hA ta hH.At⟩
  refine pb_blk B.hx B.hb (lv' := [(0, .ref q), (1, .int f0), (2, .int g0), (3, .int k0), (4, .int s0), (5, .ref out)]) (st' := [.int s0, .int k0, .int g0, .int f0, .ref q, .int 0, .ref out]) hl bkL_end_0_9 rfl (fun ls hl => ?_)
  refine h_callV B hKT (c_X5_end l hst G A q ta N th as f0 g0 k0 s0 hB) cy_X5_end im_X5_end se_X5_end wd_M_L_72 rfl hob hA hH Ex.rf rfl hl.1 rfl (Nat.le_of_ble_eq_true rfl) ⟨by decide, by decide⟩ ⟨by decide, by decide⟩ dL_end_9 (fun v H1 L hL hmv hv => ?_) (fun E qx H1 L ce hpx hL hxe hce hcv hcl => ?_)
  · obtain ⟨r, rfl, hR⟩ := hv
    have hH1 := hH.ex hmv.toEx
    obtain ⟨fo, ho1, ho2⟩ := hO
    have ho3 : H1[out]? = some (arrV (G.2 1) 1 fo) := ((hmv.2 out hOl (fun h => h)).2).trans ho1
    refine pb_blk B.hx B.hb (lv' := [(0, .ref q), (1, .int f0), (2, .int g0), (3, .int k0), (4, .int s0), (5, .ref out)]) (st' := [.long r.toInt64, .int 0, .ref out]) hl bkL_end_12_13 rfl (fun ls hl => ?_)
    refine z_last B ho3 (show vp_in (nI 0) 1 from vp_in_nI (by decide) (by decide)) dL_end_13 (fun H2 w2 z2 o2 => ?_)
    have hO2 : OutL G H2 out (o64 r) := ⟨_, w2, updV_at⟩
    have hM2 : Mv (Fw q ta out) s.heap (Fw q ta out) H2 := hmv.st fw_f (Or.inr (Or.inr rfl)) z2 o2
    have hH2 := hH1.mvA (Mv.put z2 o2 hAo) (o2 q (Ne.symm hoq)) (o2 ta (Ne.symm hot))
    have hlo : ∀ z ∈ ([] ++ L) ++ [(⟨out, 0⟩ : Loc)], Fw q ta out z.base := fun z hz => (List.mem_append.mp hz).elim (fun h => fw_f _ (hL z h)) (fun h => by rw [List.mem_singleton.mp h]; exact Or.inr (Or.inr rfl))
    refine pb_blk B.hx B.hb (lv' := [(0, .ref q), (1, .int f0), (2, .int g0), (3, .int k0), (4, .int s0), (5, .ref out)]) (st' := [.int 0]) hl bkL_end_14_26 rfl (fun ls hl => ?_)
    exact x_iret B dL_end_26 hM2 (by exact ⟨0, rfl, hH2, Or.inl ⟨rfl, r, hR, hO2⟩⟩) hlo (Nat.le_of_ble_eq_true rfl) (Nat.le_of_ble_eq_true rfl)
  · obtain ⟨cc, hm, hR⟩ := hpx
    simp only [X12, List.mem_cons, Prod.mk.injEq, List.not_mem_nil, or_false] at hm
    have hH1 := hH.ex hxe
    have hO1 := hO.kept (hxe.2 out hOl)
    have hM1 : Mv (Fw q ta out) s.heap (Fw q ta out) H1 := hxe.mv _
    have hlo : ∀ z ∈ [] ++ L, Fw q ta out z.base := fun z hz => (List.mem_append.mp hz).elim (fun h => nomatch h) (fun h => fw_f _ (hL z h))
    rcases hm with ⟨rfl, rfl⟩ | ⟨rfl, rfl⟩
    · refine h_hand B hKT (pre := []) (x := (0, 14, 17, 24)) (suf := [(0, 14, 21, 26)]) htab (fun _ h => nomatch h) ⟨by decide, by decide⟩ (by decide) wx_24 (by decide) hce hcv hcl ?_
      refine pb_blk B.hx B.hb (lv' := [(6, .ref qx), (0, .ref q), (1, .int f0), (2, .int g0), (3, .int k0), (4, .int s0), (5, .ref out)]) (st' := [.int 1]) hl bkL_end_17_20 rfl (fun ls hl => ?_)
      exact x_iret B dL_end_20 hM1 (by exact ⟨1, rfl, hH1, Or.inr ⟨by decide, by decide, hR, _, hO1⟩⟩) hlo (Nat.le_of_ble_eq_true rfl) (Nat.le_of_ble_eq_true rfl)
    · refine h_hand B hKT (pre := [(0, 14, 17, 24)]) (x := (0, 14, 21, 26)) (suf := []) htab (List.forall_mem_cons.mpr ⟨⟨by decide, _, wx_24, by decide⟩, (fun _ h => nomatch h)⟩) ⟨by decide, by decide⟩ (by decide) wx_26 (by decide) hce hcv hcl ?_
      refine pb_blk B.hx B.hb (lv' := [(6, .ref qx), (0, .ref q), (1, .int f0), (2, .int g0), (3, .int k0), (4, .int s0), (5, .ref out)]) (st' := [.int 2]) hl bkL_end_21_24 rfl (fun ls hl => ?_)
      exact x_iret B dL_end_24 hM1 (by exact ⟨2, rfl, hH1, Or.inr ⟨by decide, by decide, hR, _, hO1⟩⟩) hlo (Nat.le_of_ble_eq_true rfl) (Nat.le_of_ble_eq_true rfl)

def po_L_sign (G : Gm) (A : Nat → Prop) (q ta out N : Nat) (th : Nat → Th) (as : St3) (f0 : Int32) : Option Value → Heap → Prop := WrK G A q ta out N th as (R_sign N th as f0) o64
theorem bkL_sign_0_4 : pb_chk cL_sign 0 [.aload_n 2, .iconst 0, .aload_n 0, .iload_n 1] = some 4 := by decide +kernel
theorem dL_sign_4 : decode cL_sign 4 = .ok (.invokevirtual 84, 3) := by decide +kernel
theorem bkL_sign_7_8 : pb_chk cL_sign 7 [.i2l] = some 8 := by decide +kernel
theorem dL_sign_8 : decode cL_sign 8 = .ok (.lastore, 1) := by decide +kernel
theorem bkL_sign_9_22 : pb_chk cL_sign 9 [.goto 12, .iconst 0] = some 22 := by decide +kernel
theorem dL_sign_22 : decode cL_sign 22 = .ok (.ireturn, 1) := by decide +kernel
theorem bkL_sign_12_14 : pb_chk cL_sign 12 [.astore_n 3, .iconst 1] = some 14 := by decide +kernel
theorem dL_sign_14 : decode cL_sign 14 = .ok (.ireturn, 1) := by decide +kernel
theorem bkL_sign_15_17 : pb_chk cL_sign 15 [.astore_n 3, .iconst 2] = some 17 := by decide +kernel
theorem dL_sign_17 : decode cL_sign 17 = .ok (.ireturn, 1) := by decide +kernel
theorem bkL_sign_18_20 : pb_chk cL_sign 18 [.astore_n 3, .iconst 3] = some 20 := by decide +kernel
theorem dL_sign_20 : decode cL_sign 20 = .ok (.ireturn, 1) := by decide +kernel
abbrev hh_L_sign : List (Nat × Nat × Nat × Nat) := [(0, 9, 12, 24), (0, 9, 15, 26), (0, 9, 18, 15)]
set_option maxHeartbeats 4000000 in
set_option maxRecDepth 100000 in
theorem c_L_sign (l : Launch) (hst : l.stackTraces = false) (G : Gm) (A : Nat → Prop) (q ta out N : Nat) (th : Nat → Th) (as : St3) (f0 : Int32) (hB : Bds N th as) (hAo : A out) (hoq : out ≠ q) (hot : out ≠ ta) : Mh l yL_sign cL_sign 4 (some .int) hh_L_sign (⟨9, 300, 10000, 190⟩ : Room) G A (Fw q ta out) [.ref q, .int f0, .ref out] (fun H => House G A H q ta N th as ∧ ∃ y, OutL G H out y) (po_L_sign G A q ta out N th as f0) := by
  refine of_metH (by decide) (Nat.le_of_ble_eq_true rfl) ?_
  intro p e s m below meth c ls B hKT htab hA hP hl
  obtain ⟨hH, y0, hO⟩ := hP
  have hOl := hO.lt
  obtain ⟨fs, hob⟩ := hH.ob
  have hqA : A q ∧ A ta ∧ q < s.heap.size ∧ ta < s.heap.size := ⟨hH.Aq, hH.At, hA q hH.Aq, hA ta hH.At⟩
  refine pb_blk B.hx B.hb (lv' := [(0, .ref q), (1, .int f0), (2, .ref out)]) (st' := [.int f0, .ref q, .int 0, .ref out]) hl bkL_sign_0_4 rfl (fun ls hl => ?_)
  refine h_callV B hKT (c_X5_sign l hst G A q ta N th as f0 hB) cy_X5_sign im_X5_sign se_X5_sign wd_M_L_84 rfl hob hA hH Ex.rf rfl hl.1 rfl (Nat.le_of_ble_eq_true rfl) ⟨by decide, by decide⟩ ⟨by decide, by decide⟩ dL_sign_4 (fun v H1 L hL hmv hv => ?_) (fun E qx H1 L ce hpx hL hxe hce hcv hcl => ?_)
  · obtain ⟨r, rfl, hR⟩ := hv
    have hH1 := hH.ex hmv.toEx
    obtain ⟨fo, ho1, ho2⟩ := hO
    have ho3 : H1[out]? = some (arrV (G.2 1) 1 fo) := ((hmv.2 out hOl (fun h => h)).2).trans ho1
    refine pb_blk B.hx B.hb (lv' := [(0, .ref q), (1, .int f0), (2, .ref out)]) (st' := [.long r.toInt64, .int 0, .ref out]) hl bkL_sign_7_8 rfl (fun ls hl => ?_)
    refine z_last B ho3 (show vp_in (nI 0) 1 from vp_in_nI (by decide) (by decide)) dL_sign_8 (fun H2 w2 z2 o2 => ?_)
    have hO2 : OutL G H2 out (o64 r) := ⟨_, w2, updV_at⟩
    have hM2 : Mv (Fw q ta out) s.heap (Fw q ta out) H2 := hmv.st fw_f (Or.inr (Or.inr rfl)) z2 o2
    have hH2 := hH1.mvA (Mv.put z2 o2 hAo) (o2 q (Ne.symm hoq)) (o2 ta (Ne.symm hot))
    have hlo : ∀ z ∈ ([] ++ L) ++ [(⟨out, 0⟩ : Loc)], Fw q ta out z.base := fun z hz => (List.mem_append.mp hz).elim (fun h => fw_f _ (hL z h)) (fun h => by rw [List.mem_singleton.mp h]; exact Or.inr (Or.inr rfl))
    refine pb_blk B.hx B.hb (lv' := [(0, .ref q), (1, .int f0), (2, .ref out)]) (st' := [.int 0]) hl bkL_sign_9_22 rfl (fun ls hl => ?_)
    exact x_iret B dL_sign_22 hM2 (by exact ⟨0, rfl, hH2, Or.inl ⟨rfl, r, hR, hO2⟩⟩) hlo (Nat.le_of_ble_eq_true rfl) (Nat.le_of_ble_eq_true rfl)
  · obtain ⟨cc, hm, hR⟩ := hpx
    simp only [X123, List.mem_cons, Prod.mk.injEq, List.not_mem_nil, or_false] at hm
    have hH1 := hH.ex hxe
    have hO1 := hO.kept (hxe.2 out hOl)
    have hM1 : Mv (Fw q ta out) s.heap (Fw q ta out) H1 := hxe.mv _
    have hlo : ∀ z ∈ [] ++ L, Fw q ta out z.base := fun z hz => (List.mem_append.mp hz).elim (fun h => nomatch h) (fun h => fw_f _ (hL z h))
    rcases hm with ⟨rfl, rfl⟩ | ⟨rfl, rfl⟩ | ⟨rfl, rfl⟩
    · refine h_hand B hKT (pre := []) (x := (0, 9, 12, 24)) (suf := [(0, 9, 15, 26), (0, 9, 18, 15)]) htab (fun _ h => nomatch h) ⟨by decide, by decide⟩ (by decide) wx_24 (by decide) hce hcv hcl ?_
      refine pb_blk B.hx B.hb (lv' := [(3, .ref qx), (0, .ref q), (1, .int f0), (2, .ref out)]) (st' := [.int 1]) hl bkL_sign_12_14 rfl (fun ls hl => ?_)
      exact x_iret B dL_sign_14 hM1 (by exact ⟨1, rfl, hH1, Or.inr ⟨by decide, by decide, hR, _, hO1⟩⟩) hlo (Nat.le_of_ble_eq_true rfl) (Nat.le_of_ble_eq_true rfl)
    · refine h_hand B hKT (pre := [(0, 9, 12, 24)]) (x := (0, 9, 15, 26)) (suf := [(0, 9, 18, 15)]) htab (List.forall_mem_cons.mpr ⟨⟨by decide, _, wx_24, by decide⟩, (fun _ h => nomatch h)⟩) ⟨by decide, by decide⟩ (by decide) wx_26 (by decide) hce hcv hcl ?_
      refine pb_blk B.hx B.hb (lv' := [(3, .ref qx), (0, .ref q), (1, .int f0), (2, .ref out)]) (st' := [.int 2]) hl bkL_sign_15_17 rfl (fun ls hl => ?_)
      exact x_iret B dL_sign_17 hM1 (by exact ⟨2, rfl, hH1, Or.inr ⟨by decide, by decide, hR, _, hO1⟩⟩) hlo (Nat.le_of_ble_eq_true rfl) (Nat.le_of_ble_eq_true rfl)
    · refine h_hand B hKT (pre := [(0, 9, 12, 24), (0, 9, 15, 26)]) (x := (0, 9, 18, 15)) (suf := []) htab (List.forall_mem_cons.mpr ⟨⟨by decide, _, wx_24, by decide⟩, (List.forall_mem_cons.mpr ⟨⟨by decide, _, wx_26, by decide⟩, (fun _ h => nomatch h)⟩)⟩) ⟨by decide, by decide⟩ (by decide) wx_15 (by decide) hce hcv hcl ?_
      refine pb_blk B.hx B.hb (lv' := [(3, .ref qx), (0, .ref q), (1, .int f0), (2, .ref out)]) (st' := [.int 3]) hl bkL_sign_18_20 rfl (fun ls hl => ?_)
      exact x_iret B dL_sign_20 hM1 (by exact ⟨3, rfl, hH1, Or.inr ⟨by decide, by decide, hR, _, hO1⟩⟩) hlo (Nat.le_of_ble_eq_true rfl) (Nat.le_of_ble_eq_true rfl)

def po_L_holds (G : Gm) (A : Nat → Prop) (q ta out N : Nat) (th : Nat → Th) (as : St3) (f0 g0 : Int32) : Option Value → Heap → Prop := WrK G A q ta out N th as (R_holds N th f0 g0) o01
theorem bkL_holds_0_5 : pb_chk cL_holds 0 [.aload_n 3, .iconst 0, .aload_n 0, .iload_n 1, .iload_n 2] = some 5 := by decide +kernel
theorem dL_holds_5 : decode cL_holds 5 = .ok (.invokevirtual 76, 3) := by decide +kernel
theorem dL_holds_8 : decode cL_holds 8 = .ok (.ifCond .eq 7, 3) := by decide +kernel
theorem bkL_holds_15_16 : pb_chk cL_holds 15 [.lconst 0] = some 16 := by decide +kernel
theorem dL_holds_16 : decode cL_holds 16 = .ok (.lastore, 1) := by decide +kernel
theorem bkL_holds_17_29 : pb_chk cL_holds 17 [.goto 11, .iconst 0] = some 29 := by decide +kernel
theorem dL_holds_29 : decode cL_holds 29 = .ok (.ireturn, 1) := by decide +kernel
theorem bkL_holds_11_16 : pb_chk cL_holds 11 [.lconst 1, .goto 4] = some 16 := by decide +kernel
theorem bkL_holds_20_23 : pb_chk cL_holds 20 [.astore 4, .iconst 1] = some 23 := by decide +kernel
theorem dL_holds_23 : decode cL_holds 23 = .ok (.ireturn, 1) := by decide +kernel
theorem bkL_holds_24_27 : pb_chk cL_holds 24 [.astore 4, .iconst 2] = some 27 := by decide +kernel
theorem dL_holds_27 : decode cL_holds 27 = .ok (.ireturn, 1) := by decide +kernel
abbrev hh_L_holds : List (Nat × Nat × Nat × Nat) := [(0, 17, 20, 24), (0, 17, 24, 26)]
set_option maxHeartbeats 4000000 in
set_option maxRecDepth 100000 in
theorem c_L_holds (l : Launch) (hst : l.stackTraces = false) (G : Gm) (A : Nat → Prop) (q ta out N : Nat) (th : Nat → Th) (as : St3) (f0 g0 : Int32) (hB : Bds N th as) (hAo : A out) (hoq : out ≠ q) (hot : out ≠ ta) : Mh l yL_holds cL_holds 5 (some .int) hh_L_holds (⟨9, 300, 10000, 190⟩ : Room) G A (Fw q ta out) [.ref q, .int f0, .int g0, .ref out] (fun H => House G A H q ta N th as ∧ ∃ y, OutL G H out y) (po_L_holds G A q ta out N th as f0 g0) := by
  refine of_metH (by decide) (Nat.le_of_ble_eq_true rfl) ?_
  intro p e s m below meth c ls B hKT htab hA hP hl
  obtain ⟨hH, y0, hO⟩ := hP
  have hOl := hO.lt
  obtain ⟨fs, hob⟩ := hH.ob
  have hqA : A q ∧ A ta ∧ q < s.heap.size ∧ ta < s.heap.size := ⟨hH.Aq, hH.At, hA q hH.Aq, hA ta hH.At⟩
  refine pb_blk B.hx B.hb (lv' := [(0, .ref q), (1, .int f0), (2, .int g0), (3, .ref out)]) (st' := [.int g0, .int f0, .ref q, .int 0, .ref out]) hl bkL_holds_0_5 rfl (fun ls hl => ?_)
  refine h_callV B hKT (c_X5_holds l hst G A q ta N th as f0 g0 hB) cy_X5_holds im_X5_holds se_X5_holds wd_M_L_76 rfl hob hA hH Ex.rf rfl hl.1 rfl (Nat.le_of_ble_eq_true rfl) ⟨by decide, by decide⟩ ⟨by decide, by decide⟩ dL_holds_5 (fun v H1 L hL hmv hv => ?_) (fun E qx H1 L ce hpx hL hxe hce hcv hcl => ?_)
  · obtain ⟨r, rfl, hR⟩ := hv
    have hH1 := hH.ex hmv.toEx
    obtain ⟨fo, ho1, ho2⟩ := hO
    have ho3 : H1[out]? = some (arrV (G.2 1) 1 fo) := ((hmv.2 out hOl (fun h => h)).2).trans ho1
    refine lv_if_eq (tgt := 15) B.hx B.hb dL_holds_8 (by decide) (fun h1 => ?_) (fun h1 => ?_)
    · have eo : o01 r = 0 := if_pos h1
      refine pb_blk B.hx B.hb (lv' := [(0, .ref q), (1, .int f0), (2, .int g0), (3, .ref out)]) (st' := [.long 0, .int 0, .ref out]) hl bkL_holds_15_16 rfl (fun ls hl => ?_)
      rw [← eo]
      refine z_last B ho3 (show vp_in (nI 0) 1 from vp_in_nI (by decide) (by decide)) dL_holds_16 (fun H2 w2 z2 o2 => ?_)
      have hO2 : OutL G H2 out (o01 r) := ⟨_, w2, updV_at⟩
      have hM2 : Mv (Fw q ta out) s.heap (Fw q ta out) H2 := hmv.st fw_f (Or.inr (Or.inr rfl)) z2 o2
      have hH2 := hH1.mvA (Mv.put z2 o2 hAo) (o2 q (Ne.symm hoq)) (o2 ta (Ne.symm hot))
      have hlo : ∀ z ∈ ([] ++ L) ++ [(⟨out, 0⟩ : Loc)], Fw q ta out z.base := fun z hz => (List.mem_append.mp hz).elim (fun h => fw_f _ (hL z h)) (fun h => by rw [List.mem_singleton.mp h]; exact Or.inr (Or.inr rfl))
      refine pb_blk B.hx B.hb (lv' := [(0, .ref q), (1, .int f0), (2, .int g0), (3, .ref out)]) (st' := [.int 0]) hl bkL_holds_17_29 rfl (fun ls hl => ?_)
      exact x_iret B dL_holds_29 hM2 (by exact ⟨0, rfl, hH2, Or.inl ⟨rfl, r, hR, hO2⟩⟩) hlo (Nat.le_of_ble_eq_true rfl) (Nat.le_of_ble_eq_true rfl)
    · have eo : o01 r = 1 := if_neg h1
      refine pb_blk B.hx B.hb (lv' := [(0, .ref q), (1, .int f0), (2, .int g0), (3, .ref out)]) (st' := [.long 1, .int 0, .ref out]) hl bkL_holds_11_16 rfl (fun ls hl => ?_)
      rw [← eo]
      refine z_last B ho3 (show vp_in (nI 0) 1 from vp_in_nI (by decide) (by decide)) dL_holds_16 (fun H2 w2 z2 o2 => ?_)
      have hO2 : OutL G H2 out (o01 r) := ⟨_, w2, updV_at⟩
      have hM2 : Mv (Fw q ta out) s.heap (Fw q ta out) H2 := hmv.st fw_f (Or.inr (Or.inr rfl)) z2 o2
      have hH2 := hH1.mvA (Mv.put z2 o2 hAo) (o2 q (Ne.symm hoq)) (o2 ta (Ne.symm hot))
      have hlo : ∀ z ∈ ([] ++ L) ++ [(⟨out, 0⟩ : Loc)], Fw q ta out z.base := fun z hz => (List.mem_append.mp hz).elim (fun h => fw_f _ (hL z h)) (fun h => by rw [List.mem_singleton.mp h]; exact Or.inr (Or.inr rfl))
      refine pb_blk B.hx B.hb (lv' := [(0, .ref q), (1, .int f0), (2, .int g0), (3, .ref out)]) (st' := [.int 0]) hl bkL_holds_17_29 rfl (fun ls hl => ?_)
      exact x_iret B dL_holds_29 hM2 (by exact ⟨0, rfl, hH2, Or.inl ⟨rfl, r, hR, hO2⟩⟩) hlo (Nat.le_of_ble_eq_true rfl) (Nat.le_of_ble_eq_true rfl)
  · obtain ⟨cc, hm, hR⟩ := hpx
    simp only [X12, List.mem_cons, Prod.mk.injEq, List.not_mem_nil, or_false] at hm
    have hH1 := hH.ex hxe
    have hO1 := hO.kept (hxe.2 out hOl)
    have hM1 : Mv (Fw q ta out) s.heap (Fw q ta out) H1 := hxe.mv _
    have hlo : ∀ z ∈ [] ++ L, Fw q ta out z.base := fun z hz => (List.mem_append.mp hz).elim (fun h => nomatch h) (fun h => fw_f _ (hL z h))
    rcases hm with ⟨rfl, rfl⟩ | ⟨rfl, rfl⟩
    · refine h_hand B hKT (pre := []) (x := (0, 17, 20, 24)) (suf := [(0, 17, 24, 26)]) htab (fun _ h => nomatch h) ⟨by decide, by decide⟩ (by decide) wx_24 (by decide) hce hcv hcl ?_
      refine pb_blk B.hx B.hb (lv' := [(4, .ref qx), (0, .ref q), (1, .int f0), (2, .int g0), (3, .ref out)]) (st' := [.int 1]) hl bkL_holds_20_23 rfl (fun ls hl => ?_)
      exact x_iret B dL_holds_23 hM1 (by exact ⟨1, rfl, hH1, Or.inr ⟨by decide, by decide, hR, _, hO1⟩⟩) hlo (Nat.le_of_ble_eq_true rfl) (Nat.le_of_ble_eq_true rfl)
    · refine h_hand B hKT (pre := [(0, 17, 20, 24)]) (x := (0, 17, 24, 26)) (suf := []) htab (List.forall_mem_cons.mpr ⟨⟨by decide, _, wx_24, by decide⟩, (fun _ h => nomatch h)⟩) ⟨by decide, by decide⟩ (by decide) wx_26 (by decide) hce hcv hcl ?_
      refine pb_blk B.hx B.hb (lv' := [(4, .ref qx), (0, .ref q), (1, .int f0), (2, .int g0), (3, .ref out)]) (st' := [.int 2]) hl bkL_holds_24_27 rfl (fun ls hl => ?_)
      exact x_iret B dL_holds_27 hM1 (by exact ⟨2, rfl, hH1, Or.inr ⟨by decide, by decide, hR, _, hO1⟩⟩) hlo (Nat.le_of_ble_eq_true rfl) (Nat.le_of_ble_eq_true rfl)

def po_L_same (G : Gm) (A : Nat → Prop) (q ta out N : Nat) (th : Nat → Th) (as : St3) (f0 g0 : Int32) : Option Value → Heap → Prop := WrK G A q ta out N th as (R_same N th f0 g0) o01
theorem bkL_same_0_5 : pb_chk cL_same 0 [.aload_n 3, .iconst 0, .aload_n 0, .iload_n 1, .iload_n 2] = some 5 := by decide +kernel
theorem dL_same_5 : decode cL_same 5 = .ok (.invokevirtual 87, 3) := by decide +kernel
theorem dL_same_8 : decode cL_same 8 = .ok (.ifCond .eq 7, 3) := by decide +kernel
theorem bkL_same_15_16 : pb_chk cL_same 15 [.lconst 0] = some 16 := by decide +kernel
theorem dL_same_16 : decode cL_same 16 = .ok (.lastore, 1) := by decide +kernel
theorem bkL_same_17_25 : pb_chk cL_same 17 [.goto 7, .iconst 0] = some 25 := by decide +kernel
theorem dL_same_25 : decode cL_same 25 = .ok (.ireturn, 1) := by decide +kernel
theorem bkL_same_11_16 : pb_chk cL_same 11 [.lconst 1, .goto 4] = some 16 := by decide +kernel
theorem bkL_same_20_23 : pb_chk cL_same 20 [.astore 4, .iconst 1] = some 23 := by decide +kernel
theorem dL_same_23 : decode cL_same 23 = .ok (.ireturn, 1) := by decide +kernel
abbrev hh_L_same : List (Nat × Nat × Nat × Nat) := [(0, 17, 20, 24)]
set_option maxHeartbeats 4000000 in
set_option maxRecDepth 100000 in
theorem c_L_same (l : Launch) (hst : l.stackTraces = false) (G : Gm) (A : Nat → Prop) (q ta out N : Nat) (th : Nat → Th) (as : St3) (f0 g0 : Int32) (hB : Bds N th as) (hAo : A out) (hoq : out ≠ q) (hot : out ≠ ta) : Mh l yL_same cL_same 5 (some .int) hh_L_same (⟨9, 300, 10000, 190⟩ : Room) G A (Fw q ta out) [.ref q, .int f0, .int g0, .ref out] (fun H => House G A H q ta N th as ∧ ∃ y, OutL G H out y) (po_L_same G A q ta out N th as f0 g0) := by
  refine of_metH (by decide) (Nat.le_of_ble_eq_true rfl) ?_
  intro p e s m below meth c ls B hKT htab hA hP hl
  obtain ⟨hH, y0, hO⟩ := hP
  have hOl := hO.lt
  obtain ⟨fs, hob⟩ := hH.ob
  have hqA : A q ∧ A ta ∧ q < s.heap.size ∧ ta < s.heap.size := ⟨hH.Aq, hH.At, hA q hH.Aq, hA ta hH.At⟩
  refine pb_blk B.hx B.hb (lv' := [(0, .ref q), (1, .int f0), (2, .int g0), (3, .ref out)]) (st' := [.int g0, .int f0, .ref q, .int 0, .ref out]) hl bkL_same_0_5 rfl (fun ls hl => ?_)
  refine h_callV B hKT (c_X5_same l hst G A q ta N th as f0 g0 hB) cy_X5_same im_X5_same se_X5_same wd_M_L_87 rfl hob hA hH Ex.rf rfl hl.1 rfl (Nat.le_of_ble_eq_true rfl) ⟨by decide, by decide⟩ ⟨by decide, by decide⟩ dL_same_5 (fun v H1 L hL hmv hv => ?_) (fun E qx H1 L ce hpx hL hxe hce hcv hcl => ?_)
  · obtain ⟨r, rfl, hR⟩ := hv
    have hH1 := hH.ex hmv.toEx
    obtain ⟨fo, ho1, ho2⟩ := hO
    have ho3 : H1[out]? = some (arrV (G.2 1) 1 fo) := ((hmv.2 out hOl (fun h => h)).2).trans ho1
    refine lv_if_eq (tgt := 15) B.hx B.hb dL_same_8 (by decide) (fun h1 => ?_) (fun h1 => ?_)
    · have eo : o01 r = 0 := if_pos h1
      refine pb_blk B.hx B.hb (lv' := [(0, .ref q), (1, .int f0), (2, .int g0), (3, .ref out)]) (st' := [.long 0, .int 0, .ref out]) hl bkL_same_15_16 rfl (fun ls hl => ?_)
      rw [← eo]
      refine z_last B ho3 (show vp_in (nI 0) 1 from vp_in_nI (by decide) (by decide)) dL_same_16 (fun H2 w2 z2 o2 => ?_)
      have hO2 : OutL G H2 out (o01 r) := ⟨_, w2, updV_at⟩
      have hM2 : Mv (Fw q ta out) s.heap (Fw q ta out) H2 := hmv.st fw_f (Or.inr (Or.inr rfl)) z2 o2
      have hH2 := hH1.mvA (Mv.put z2 o2 hAo) (o2 q (Ne.symm hoq)) (o2 ta (Ne.symm hot))
      have hlo : ∀ z ∈ ([] ++ L) ++ [(⟨out, 0⟩ : Loc)], Fw q ta out z.base := fun z hz => (List.mem_append.mp hz).elim (fun h => fw_f _ (hL z h)) (fun h => by rw [List.mem_singleton.mp h]; exact Or.inr (Or.inr rfl))
      refine pb_blk B.hx B.hb (lv' := [(0, .ref q), (1, .int f0), (2, .int g0), (3, .ref out)]) (st' := [.int 0]) hl bkL_same_17_25 rfl (fun ls hl => ?_)
      exact x_iret B dL_same_25 hM2 (by exact ⟨0, rfl, hH2, Or.inl ⟨rfl, r, hR, hO2⟩⟩) hlo (Nat.le_of_ble_eq_true rfl) (Nat.le_of_ble_eq_true rfl)
    · have eo : o01 r = 1 := if_neg h1
      refine pb_blk B.hx B.hb (lv' := [(0, .ref q), (1, .int f0), (2, .int g0), (3, .ref out)]) (st' := [.long 1, .int 0, .ref out]) hl bkL_same_11_16 rfl (fun ls hl => ?_)
      rw [← eo]
      refine z_last B ho3 (show vp_in (nI 0) 1 from vp_in_nI (by decide) (by decide)) dL_same_16 (fun H2 w2 z2 o2 => ?_)
      have hO2 : OutL G H2 out (o01 r) := ⟨_, w2, updV_at⟩
      have hM2 : Mv (Fw q ta out) s.heap (Fw q ta out) H2 := hmv.st fw_f (Or.inr (Or.inr rfl)) z2 o2
      have hH2 := hH1.mvA (Mv.put z2 o2 hAo) (o2 q (Ne.symm hoq)) (o2 ta (Ne.symm hot))
      have hlo : ∀ z ∈ ([] ++ L) ++ [(⟨out, 0⟩ : Loc)], Fw q ta out z.base := fun z hz => (List.mem_append.mp hz).elim (fun h => fw_f _ (hL z h)) (fun h => by rw [List.mem_singleton.mp h]; exact Or.inr (Or.inr rfl))
      refine pb_blk B.hx B.hb (lv' := [(0, .ref q), (1, .int f0), (2, .int g0), (3, .ref out)]) (st' := [.int 0]) hl bkL_same_17_25 rfl (fun ls hl => ?_)
      exact x_iret B dL_same_25 hM2 (by exact ⟨0, rfl, hH2, Or.inl ⟨rfl, r, hR, hO2⟩⟩) hlo (Nat.le_of_ble_eq_true rfl) (Nat.le_of_ble_eq_true rfl)
  · obtain ⟨cc, hm, hR⟩ := hpx
    simp only [X1, List.mem_cons, Prod.mk.injEq, List.not_mem_nil, or_false] at hm
    have hH1 := hH.ex hxe
    have hO1 := hO.kept (hxe.2 out hOl)
    have hM1 : Mv (Fw q ta out) s.heap (Fw q ta out) H1 := hxe.mv _
    have hlo : ∀ z ∈ [] ++ L, Fw q ta out z.base := fun z hz => (List.mem_append.mp hz).elim (fun h => nomatch h) (fun h => fw_f _ (hL z h))
    rcases hm with ⟨rfl, rfl⟩
    refine h_hand B hKT (pre := []) (x := (0, 17, 20, 24)) (suf := []) htab (fun _ h => nomatch h) ⟨by decide, by decide⟩ (by decide) wx_24 (by decide) hce hcv hcl ?_
    refine pb_blk B.hx B.hb (lv' := [(4, .ref qx), (0, .ref q), (1, .int f0), (2, .int g0), (3, .ref out)]) (st' := [.int 1]) hl bkL_same_20_23 rfl (fun ls hl => ?_)
    exact x_iret B dL_same_23 hM1 (by exact ⟨1, rfl, hH1, Or.inr ⟨by decide, by decide, hR, _, hO1⟩⟩) hlo (Nat.le_of_ble_eq_true rfl) (Nat.le_of_ble_eq_true rfl)

def po_L_assume (G : Gm) (A : Nat → Prop) (q ta out N : Nat) (th : Nat → Th) (as : St3) (f0 : Int32) : Option Value → Heap → Prop := WaK G A q ta out N th as (R_assume N th as f0) o01
theorem bkL_assume_0_4 : pb_chk cL_assume 0 [.aload_n 2, .iconst 0, .aload_n 0, .iload_n 1] = some 4 := by decide +kernel
theorem dL_assume_4 : decode cL_assume 4 = .ok (.invokevirtual 80, 3) := by decide +kernel
theorem dL_assume_7 : decode cL_assume 7 = .ok (.ifCond .eq 7, 3) := by decide +kernel
theorem bkL_assume_14_15 : pb_chk cL_assume 14 [.lconst 0] = some 15 := by decide +kernel
theorem dL_assume_15 : decode cL_assume 15 = .ok (.lastore, 1) := by decide +kernel
theorem bkL_assume_16_26 : pb_chk cL_assume 16 [.goto 9, .iconst 0] = some 26 := by decide +kernel
theorem dL_assume_26 : decode cL_assume 26 = .ok (.ireturn, 1) := by decide +kernel
theorem bkL_assume_10_15 : pb_chk cL_assume 10 [.lconst 1, .goto 4] = some 15 := by decide +kernel
theorem bkL_assume_19_21 : pb_chk cL_assume 19 [.astore_n 3, .iconst 1] = some 21 := by decide +kernel
theorem dL_assume_21 : decode cL_assume 21 = .ok (.ireturn, 1) := by decide +kernel
theorem bkL_assume_22_24 : pb_chk cL_assume 22 [.astore_n 3, .iconst 2] = some 24 := by decide +kernel
theorem dL_assume_24 : decode cL_assume 24 = .ok (.ireturn, 1) := by decide +kernel
abbrev hh_L_assume : List (Nat × Nat × Nat × Nat) := [(0, 16, 19, 24), (0, 16, 22, 26)]
set_option maxHeartbeats 4000000 in
set_option maxRecDepth 100000 in
theorem c_L_assume (l : Launch) (hst : l.stackTraces = false) (G : Gm) (A : Nat → Prop) (q ta out N : Nat) (th : Nat → Th) (as : St3) (f0 : Int32) (hB : Bds N th as) (hAo : A out) (hoq : out ≠ q) (hot : out ≠ ta) : Mh l yL_assume cL_assume 4 (some .int) hh_L_assume (⟨9, 300, 10000, 190⟩ : Room) G A (Fw q ta out) [.ref q, .int f0, .ref out] (fun H => House G A H q ta N th as ∧ ∃ y, OutL G H out y) (po_L_assume G A q ta out N th as f0) := by
  refine of_metH (by decide) (Nat.le_of_ble_eq_true rfl) ?_
  intro p e s m below meth c ls B hKT htab hA hP hl
  obtain ⟨hH, y0, hO⟩ := hP
  have hOl := hO.lt
  obtain ⟨fs, hob⟩ := hH.ob
  have hqA : A q ∧ A ta ∧ q < s.heap.size ∧ ta < s.heap.size := ⟨hH.Aq, hH.At, hA q hH.Aq, hA ta hH.At⟩
  refine pb_blk B.hx B.hb (lv' := [(0, .ref q), (1, .int f0), (2, .ref out)]) (st' := [.int f0, .ref q, .int 0, .ref out]) hl bkL_assume_0_4 rfl (fun ls hl => ?_)
  refine h_callV B hKT (c_X5_assume l hst G A q ta N th as f0 hB) cy_X5_assume im_X5_assume se_X5_assume wd_M_L_80 rfl hob hA hH Ex.rf rfl hl.1 rfl (Nat.le_of_ble_eq_true rfl) ⟨by decide, by decide⟩ ⟨by decide, by decide⟩ dL_assume_4 (fun v H1 L hL hmv hv => ?_) (fun E qx H1 L ce hpx hL hxe hce hcv hcl => ?_)
  · obtain ⟨r, as2, rfl, hR, hH1⟩ := hv
    obtain ⟨fo, ho1, ho2⟩ := hO
    have ho3 : H1[out]? = some (arrV (G.2 1) 1 fo) := ((hmv.2 out hOl hoq).2).trans ho1
    refine lv_if_eq (tgt := 14) B.hx B.hb dL_assume_7 (by decide) (fun h1 => ?_) (fun h1 => ?_)
    · have eo : o01 r = 0 := if_pos h1
      refine pb_blk B.hx B.hb (lv' := [(0, .ref q), (1, .int f0), (2, .ref out)]) (st' := [.long 0, .int 0, .ref out]) hl bkL_assume_14_15 rfl (fun ls hl => ?_)
      rw [← eo]
      refine z_last B ho3 (show vp_in (nI 0) 1 from vp_in_nI (by decide) (by decide)) dL_assume_15 (fun H2 w2 z2 o2 => ?_)
      have hO2 : OutL G H2 out (o01 r) := ⟨_, w2, updV_at⟩
      have hM2 : Mv (Fw q ta out) s.heap (Fw q ta out) H2 := hmv.st fw_a (Or.inr (Or.inr rfl)) z2 o2
      have hH2 := hH1.mvA (Mv.put z2 o2 hAo) (o2 q (Ne.symm hoq)) (o2 ta (Ne.symm hot))
      have hlo : ∀ z ∈ ([] ++ L) ++ [(⟨out, 0⟩ : Loc)], Fw q ta out z.base := fun z hz => (List.mem_append.mp hz).elim (fun h => fw_a _ (hL z h)) (fun h => by rw [List.mem_singleton.mp h]; exact Or.inr (Or.inr rfl))
      refine pb_blk B.hx B.hb (lv' := [(0, .ref q), (1, .int f0), (2, .ref out)]) (st' := [.int 0]) hl bkL_assume_16_26 rfl (fun ls hl => ?_)
      exact x_iret B dL_assume_26 hM2 (by exact ⟨0, rfl, Or.inl ⟨rfl, r, as2, hR, hH2, hO2⟩⟩) hlo (Nat.le_of_ble_eq_true rfl) (Nat.le_of_ble_eq_true rfl)
    · have eo : o01 r = 1 := if_neg h1
      refine pb_blk B.hx B.hb (lv' := [(0, .ref q), (1, .int f0), (2, .ref out)]) (st' := [.long 1, .int 0, .ref out]) hl bkL_assume_10_15 rfl (fun ls hl => ?_)
      rw [← eo]
      refine z_last B ho3 (show vp_in (nI 0) 1 from vp_in_nI (by decide) (by decide)) dL_assume_15 (fun H2 w2 z2 o2 => ?_)
      have hO2 : OutL G H2 out (o01 r) := ⟨_, w2, updV_at⟩
      have hM2 : Mv (Fw q ta out) s.heap (Fw q ta out) H2 := hmv.st fw_a (Or.inr (Or.inr rfl)) z2 o2
      have hH2 := hH1.mvA (Mv.put z2 o2 hAo) (o2 q (Ne.symm hoq)) (o2 ta (Ne.symm hot))
      have hlo : ∀ z ∈ ([] ++ L) ++ [(⟨out, 0⟩ : Loc)], Fw q ta out z.base := fun z hz => (List.mem_append.mp hz).elim (fun h => fw_a _ (hL z h)) (fun h => by rw [List.mem_singleton.mp h]; exact Or.inr (Or.inr rfl))
      refine pb_blk B.hx B.hb (lv' := [(0, .ref q), (1, .int f0), (2, .ref out)]) (st' := [.int 0]) hl bkL_assume_16_26 rfl (fun ls hl => ?_)
      exact x_iret B dL_assume_26 hM2 (by exact ⟨0, rfl, Or.inl ⟨rfl, r, as2, hR, hH2, hO2⟩⟩) hlo (Nat.le_of_ble_eq_true rfl) (Nat.le_of_ble_eq_true rfl)
  · obtain ⟨cc, hm, hR⟩ := hpx
    simp only [X12, List.mem_cons, Prod.mk.injEq, List.not_mem_nil, or_false] at hm
    have hH1 := hH.ex hxe
    have hO1 := hO.kept (hxe.2 out hOl)
    have hM1 : Mv (Fw q ta out) s.heap (Fw q ta out) H1 := hxe.mv _
    have hlo : ∀ z ∈ [] ++ L, Fw q ta out z.base := fun z hz => (List.mem_append.mp hz).elim (fun h => nomatch h) (fun h => fw_a _ (hL z h))
    rcases hm with ⟨rfl, rfl⟩ | ⟨rfl, rfl⟩
    · refine h_hand B hKT (pre := []) (x := (0, 16, 19, 24)) (suf := [(0, 16, 22, 26)]) htab (fun _ h => nomatch h) ⟨by decide, by decide⟩ (by decide) wx_24 (by decide) hce hcv hcl ?_
      refine pb_blk B.hx B.hb (lv' := [(3, .ref qx), (0, .ref q), (1, .int f0), (2, .ref out)]) (st' := [.int 1]) hl bkL_assume_19_21 rfl (fun ls hl => ?_)
      exact x_iret B dL_assume_21 hM1 (by exact ⟨1, rfl, Or.inr ⟨by decide, by decide, hR, hH1, _, hO1⟩⟩) hlo (Nat.le_of_ble_eq_true rfl) (Nat.le_of_ble_eq_true rfl)
    · refine h_hand B hKT (pre := [(0, 16, 19, 24)]) (x := (0, 16, 22, 26)) (suf := []) htab (List.forall_mem_cons.mpr ⟨⟨by decide, _, wx_24, by decide⟩, (fun _ h => nomatch h)⟩) ⟨by decide, by decide⟩ (by decide) wx_26 (by decide) hce hcv hcl ?_
      refine pb_blk B.hx B.hb (lv' := [(3, .ref qx), (0, .ref q), (1, .int f0), (2, .ref out)]) (st' := [.int 2]) hl bkL_assume_22_24 rfl (fun ls hl => ?_)
      exact x_iret B dL_assume_24 hM1 (by exact ⟨2, rfl, Or.inr ⟨by decide, by decide, hR, hH1, _, hO1⟩⟩) hlo (Nat.le_of_ble_eq_true rfl) (Nat.le_of_ble_eq_true rfl)

