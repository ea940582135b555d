/-! constructors that make cells of their own -/
def Qc (q : Nat) (post : Heap → Heap → Prop) : Array Value → State → Outcome → State → Prop := fun _ st o t => o = .returned none ∧ st.heap.size ≤ t.heap.size ∧ (∀ x, x < st.heap.size → x ≠ q → t.heap[x]? = st.heap[x]?) ∧ post st.heap t.heap
def Mc (l : Launch) (y : MethodName) (cc : ByteArray) (n : Nat) (rm : Room) (G : Gm) (A : Nat → Prop) (q : Nat) (av : List Value) (P : Heap → Prop) (post : Heap → Heap → Prop) : Prop := Met l y (mws y cc n none) rm (Pz G A av P) (Qc q post) rm.cells rm.slots (fun x => x = q)
section ROWSC
variable {p : Program} {l : Launch} {e : Env} {R : Room} {s : State} {m : MethodId} {args : Array Value} {below : List Frame} {meth : Method} {c : Code} {H : Heap} {locs : List Loc} {cells slots : Nat} {Q : State → Prop} {cc : ByteArray} {pc nL : Nat} {ls : Array Slot} {rest st : List Value} {G : Gm} {A : Nat → Prop} {y : MethodName} {ret : Option FieldType} {mc ms : Nat}
theorem c_ret {q : Nat} {pk : Heap → Heap → Prop} (B : Bd p s m args meth c G y cc nL none) (hd : decode cc pc = .ok (.return_, 1)) (hz : s.heap.size ≤ H.size) (hq : ∀ x, x < s.heap.size → x ≠ q → H[x]? = s.heap[x]?) (hp : pk s.heap H) (hl : ∀ z ∈ locs, z.base = q) (hc : cells ≤ mc) (hs : slots ≤ ms) : W p l e R s m args below meth c H locs cells slots (MQ below (Qc q pk) args s mc ms (fun x => x = q)) (F0 m pc ls []) :=
  W.widen hc hs (W.vret B.hx B.hb B.hr (fun t ht _ => ⟨rfl, by rw [ht]; exact hz, by rw [ht]; exact hq, by rw [ht]; exact hp⟩) hl hd B.hlk)
theorem c_after {rm : Room} {a : Array Value} {g : JFrame} {b : Nat} {ps : Heap → Heap → Prop} (hr : CallRun p l e R s m args below meth c H locs cells slots rm.cells rm.slots g rest (Qc b ps a) (fun x => x = b)) (hb : s.heap.size ≤ b)
    (kk : ∀ H1 : Heap, H.size ≤ H1.size → (∀ x, x < H.size → x ≠ b → H1[x]? = H[x]?) → ps H H1 → W p l e R s m args below meth c H1 locs (cells + rm.cells) (slots + rm.slots) Q { g with pc := g.pc + 3, stack := rest }) : W p l e R s m args below meth c H locs cells slots Q g := by
  refine W.callX hr (fun x h => by rw [h]; exact hb) fun v st0 t h0 hq => ?_
  obtain ⟨e, hz, hx, hp⟩ := hq
  cases e
  subst h0
  exact kk t.heap hz hx hp
theorem c_ctor {y' : MethodName} {bytes : ByteArray} {maxL np index b : Nat} {rm : Room} {A' : Nat → Prop} {As : List Value} {P : Heap → Prop} {ps : Heap → Heap → Prop} (B : Bd p s m args meth c G y cc nL ret) (hM : Mc l y' bytes maxL rm G A' b (.ref b :: As) P ps) (K : CY y' bytes maxL none np) (hi : Cond.instanceMethod y' ∈ WS) (hin : y'.name = "<init>") (hl : Cond.methodLink y.cls index y' ∈ WS)
    (hb : s.heap.size ≤ b) (hA : ∀ q, A' q → q < H.size) (hP : P H) (hn : As.length = np) (hls : ls.size = nL) (hst : st = As.reverse ++ .ref b :: rest) (hw : (rest.map fun v => v.category).sum ≤ 8) (hR : rm.frames + 1 ≤ R.frames ∧ 8 + (maxL + 11) + rm.locals ≤ R.locals) (hf : cells + rm.cells ≤ R.cells ∧ slots + rm.slots ≤ R.slots) (hd : decode cc pc = .ok (.invokespecial index, 3))
    (kk : ∀ H1 : Heap, H.size ≤ H1.size → (∀ x, x < H.size → x ≠ b → H1[x]? = H[x]?) → ps H H1 → W p l e R s m args below meth c H1 locs (cells + rm.cells) (slots + rm.slots) Q (F0 m (pc + 3) ls rest)) : W p l e R s m args below meth c H locs cells slots Q (F0 m pc ls st) := by
  subst hst
  exact c_after (W.runI (Ts := WS) ⟨B.hx, B.hb, B.hml, B.hown, B.hts⟩ hM ⟨z_cb B K hl hR, hin, B.hts _ hi⟩ ⟨Pz.blind, fun U hU hW => ⟨rfl, B.hK.warm hW, by rw [hU]; exact hA, by rw [hU]; exact hP⟩⟩ rfl hn hls rfl (lv_room hw) hd hf) hb kk
/-- the model's rows, one behind another -/
def dfA : Nat → Value := fun a => match tyA a with
  | 1 => .long 0
  | _ => .int 0
def Ini (G : Gm) (q : Nat) (H0 H : Heap) (locs : List Loc) (a : Nat) (fs : List Value) : Prop := H.size = q + 1 + a ∧ H0.size = q + 1 ∧ va_at G.1 vwCl (q, .inr (5, fs)) H ∧ (∀ b, 1 ≤ b → b ≤ a → H[q + b]? = some (arrV (G.2 (tyA b)) (lenA b) (fun _ => dfA b))) ∧ (∀ x, x < q → H[x]? = H0[x]?) ∧ ∀ z ∈ locs, z.base = q
theorem ini_step {q a index N : Nat} {fs : List Value} {atype : ArrayType} {ty : FieldType} {n : Int32} (B : Bd p s m args meth c G yX6_init cX6_init nL ret) (hI : Ini G q s.heap H locs a fs) (t0 : Nat) (hty : newarray.typeOf atype = ty) (ht : (tyl G)[t0]? = some (G.2 t0, ty)) (hp : va_RA s (G.2 t0) ty → s.vm.findClass ("[" ++ ty.toString) = some (G.2 t0)) (harr : Cond.arrayClass ty ∈ WS) (hn : ¬ n < 0) (hN : n.toNatClampNeg = N) (hby : N * componentBytes ty ≤ 536870912)
    (hT : tyA (a + 1) = t0) (hL : lenA (a + 1) = N) (hdf : defaultValue ty = dfA (a + 1)) (k : Nat) (hk : k < 24) (hl : Cond.fieldLink yX6_init.cls index (TX6 k).1 (TX6 k).2.1 (TX6 k).2.2.1 ∈ WS) (hfin : (TX6 k).2.2.2 = true ∧ (TX6 k).1 = yX6_init.cls) (hna : ∀ x, narrow (tyX6 k) (.ref x) = .ref x) (hfi : ∀ x, fits (tyX6 k) (.ref x) = true) (hlen : k < fs.length) (hc : cells + 1 ≤ R.cells) (hs : slots + N ≤ R.slots) (hd1 : decode cX6_init pc = .ok (.newarray atype, 2)) (hd2 : decode cX6_init (pc + 2) = .ok (.putfield index, 3))
    (kk : ∀ (H1 : Heap) (locs1 : List Loc), Ini G q s.heap H1 locs1 (a + 1) (fs.set k (.ref (q + (a + 1)))) → W p l e R s m args below meth c H1 locs1 (cells + 1) (slots + N) Q (F0 m (pc + 5) ls rest)) : W p l e R s m args below meth c H locs cells slots Q (F0 m pc ls (.int n :: .ref q :: rest)) := by
  obtain ⟨i1, i2, i3, i4, i5, i6⟩ := hI
  have es : H.size = q + (a + 1) := by omega
  refine z_newa B t0 hty ht hp harr hn hN hby hc hs hd1 (fun H1 e1 z1 o1 => ?_)
  refine z_put0 B ciX6 k hk (i3.kept (q := (q, _)) (o1 q (by omega))) hl (Or.inr ⟨hfin.1, rfl, hfin.2⟩) (hna _) (hfi _) hlen hd2 (fun H2 i ob z o => ?_)
  rw [es] at ob e1
  refine kk H2 _ ⟨by omega, i2, ob, fun b h1 h2 => ?_, fun x hx => ?_, fun z hz => ?_⟩
  · rcases Nat.lt_or_ge b (a + 1) with g | g
    · rw [o _ (by omega), o1 _ (by omega)]; exact i4 b h1 (by omega)
    · have eb : b = a + 1 := by omega
      subst eb
      rw [o _ (by omega), e1, hT, hL, hdf]
  · rw [o _ (by omega), o1 _ (by omega)]; exact i5 x hx
  · exact (List.mem_append.mp hz).elim (i6 z) (fun h => by rw [List.mem_singleton.mp h])
end ROWSC
def S00 : Sc := fun k => if k = 13 ∨ k = 14 then .long 0 else .int 0
def ct00 : Ct := va_up (fun a _ => dfA a) 7 (updV (fun _ => .int 0) 25680 (.int 1))
def as0 : St3 := (0, fun _ => 0, fun _ => true)
theorem pst0 (th : Nat → Th) : Pst 0 th as0 S00 ct00 := by
  refine ⟨by decide, rfl, fun k hk => absurd hk (Nat.not_lt_zero _), by decide, rfl, fun i hi => absurd hi (Nat.not_lt_zero _), fun j hj => ?_⟩
  have hj : j < 2 * 0 + 1 := hj
  rw [show j = 0 by omega]
  show updV (fun _ => .int 0) 25680 (.int 1) 25680 = .int 1
  exact updV_at
theorem hfs_X6 : ∀ j, j < 24 → defaultValue (tyX6 j) = vp_V [.int 0, .int 0, .null, .null, .null, .null, .null, .null, .null, .null, .null, .null, .null, .long 0, .long 0, .int 0, .null, .null, .int 0, .null, .null, .int 0, .null, .null] j := by decide
theorem hfs_X5 : ∀ j, j < 3 → defaultValue (tyX5 j) = vp_V [.null, .int 0, .null] j := fun j hj => by rcases (show j = 0 ∨ j = 1 ∨ j = 2 by omega) with rfl | rfl | rfl <;> rfl

def po_X6_init (G : Gm) (A : Nat → Prop) (q : Nat) : Heap → Heap → Prop := fun _ H => MS G H q S00 ct00
theorem bkX6_init_0_1 : pb_chk cX6_init 0 [.aload_n 0] = some 1 := by decide +kernel
theorem dX6_init_1 : decode cX6_init 1 = .ok (.invokespecial 1, 3) := by decide +kernel
theorem bkX6_init_4_7 : pb_chk cX6_init 4 [.aload_n 0, .bipush 80] = some 7 := by decide +kernel
theorem dX6_init_7 : decode cX6_init 7 = .ok (.newarray .int, 2) := by decide +kernel
theorem dX6_init_9 : decode cX6_init 9 = .ok (.putfield 7, 3) := by decide +kernel
theorem bkX6_init_12_16 : pb_chk cX6_init 12 [.aload_n 0, .sipush 320] = some 16 := by decide +kernel
theorem dX6_init_16 : decode cX6_init 16 = .ok (.newarray .long, 2) := by decide +kernel
theorem dX6_init_18 : decode cX6_init 18 = .ok (.putfield 13, 3) := by decide +kernel
theorem bkX6_init_21_25 : pb_chk cX6_init 21 [.aload_n 0, .sipush 320] = some 25 := by decide +kernel
theorem dX6_init_25 : decode cX6_init 25 = .ok (.newarray .long, 2) := by decide +kernel
theorem dX6_init_27 : decode cX6_init 27 = .ok (.putfield 17, 3) := by decide +kernel
theorem bkX6_init_30_33 : pb_chk cX6_init 30 [.aload_n 0, .bipush 82] = some 33 := by decide +kernel
theorem dX6_init_33 : decode cX6_init 33 = .ok (.newarray .int, 2) := by decide +kernel
theorem dX6_init_35 : decode cX6_init 35 = .ok (.putfield 20, 3) := by decide +kernel
theorem bkX6_init_38_42 : pb_chk cX6_init 38 [.aload_n 0, .sipush 13120] = some 42 := by decide +kernel
theorem dX6_init_42 : decode cX6_init 42 = .ok (.newarray .long, 2) := by decide +kernel
theorem dX6_init_44 : decode cX6_init 44 = .ok (.putfield 23, 3) := by decide +kernel
theorem bkX6_init_47_51 : pb_chk cX6_init 47 [.aload_n 0, .sipush 13120] = some 51 := by decide +kernel
theorem dX6_init_51 : decode cX6_init 51 = .ok (.newarray .long, 2) := by decide +kernel
theorem dX6_init_53 : decode cX6_init 53 = .ok (.putfield 26, 3) := by decide +kernel
theorem bkX6_init_56_60 : pb_chk cX6_init 56 [.aload_n 0, .sipush 26322] = some 60 := by decide +kernel
theorem dX6_init_60 : decode cX6_init 60 = .ok (.newarray .boolean, 2) := by decide +kernel
theorem dX6_init_62 : decode cX6_init 62 = .ok (.putfield 29, 3) := by decide +kernel
theorem bkX6_init_65_68 : pb_chk cX6_init 65 [.aload_n 0, .bipush 10] = some 68 := by decide +kernel
theorem dX6_init_68 : decode cX6_init 68 = .ok (.newarray .long, 2) := by decide +kernel
theorem dX6_init_70 : decode cX6_init 70 = .ok (.putfield 33, 3) := by decide +kernel
theorem bkX6_init_73_76 : pb_chk cX6_init 73 [.aload_n 0, .bipush 10] = some 76 := by decide +kernel
theorem dX6_init_76 : decode cX6_init 76 = .ok (.newarray .long, 2) := by decide +kernel
theorem dX6_init_78 : decode cX6_init 78 = .ok (.putfield 36, 3) := by decide +kernel
theorem bkX6_init_81_84 : pb_chk cX6_init 81 [.aload_n 0, .bipush 10] = some 84 := by decide +kernel
theorem dX6_init_84 : decode cX6_init 84 = .ok (.newarray .long, 2) := by decide +kernel
theorem dX6_init_86 : decode cX6_init 86 = .ok (.putfield 39, 3) := by decide +kernel
theorem bkX6_init_89_92 : pb_chk cX6_init 89 [.aload_n 0, .bipush 10] = some 92 := by decide +kernel
theorem dX6_init_92 : decode cX6_init 92 = .ok (.newarray .long, 2) := by decide +kernel
theorem dX6_init_94 : decode cX6_init 94 = .ok (.putfield 42, 3) := by decide +kernel
theorem bkX6_init_97_99 : pb_chk cX6_init 97 [.aload_n 0, .iconst 2] = some 99 := by decide +kernel
theorem dX6_init_99 : decode cX6_init 99 = .ok (.newarray .long, 2) := by decide +kernel
theorem dX6_init_101 : decode cX6_init 101 = .ok (.putfield 45, 3) := by decide +kernel
theorem bkX6_init_104_106 : pb_chk cX6_init 104 [.aload_n 0, .iconst 2] = some 106 := by decide +kernel
theorem dX6_init_106 : decode cX6_init 106 = .ok (.newarray .long, 2) := by decide +kernel
theorem dX6_init_108 : decode cX6_init 108 = .ok (.putfield 48, 3) := by decide +kernel
theorem bkX6_init_111_114 : pb_chk cX6_init 111 [.aload_n 0, .bipush 10] = some 114 := by decide +kernel
theorem dX6_init_114 : decode cX6_init 114 = .ok (.newarray .long, 2) := by decide +kernel
theorem dX6_init_116 : decode cX6_init 116 = .ok (.putfield 51, 3) := by decide +kernel
theorem bkX6_init_119_122 : pb_chk cX6_init 119 [.aload_n 0, .bipush 10] = some 122 := by decide +kernel
theorem dX6_init_122 : decode cX6_init 122 = .ok (.newarray .long, 2) := by decide +kernel
theorem dX6_init_124 : decode cX6_init 124 = .ok (.putfield 54, 3) := by decide +kernel
theorem bkX6_init_127_131 : pb_chk cX6_init 127 [.aload_n 0, .sipush 161] = some 131 := by decide +kernel
theorem dX6_init_131 : decode cX6_init 131 = .ok (.newarray .int, 2) := by decide +kernel
theorem dX6_init_133 : decode cX6_init 133 = .ok (.putfield 57, 3) := by decide +kernel
theorem bkX6_init_136_140 : pb_chk cX6_init 136 [.aload_n 0, .sipush 161] = some 140 := by decide +kernel
theorem dX6_init_140 : decode cX6_init 140 = .ok (.newarray .int, 2) := by decide +kernel
theorem dX6_init_142 : decode cX6_init 142 = .ok (.putfield 60, 3) := by decide +kernel
theorem bkX6_init_145_146 : pb_chk cX6_init 145 [.aload_n 0] = some 146 := by decide +kernel
theorem dX6_init_146 : decode cX6_init 146 = .ok (.getfield 29, 3) := by decide +kernel
theorem bkX6_init_149_153 : pb_chk cX6_init 149 [.sipush 25680, .iconst 1] = some 153 := by decide +kernel
theorem dX6_init_153 : decode cX6_init 153 = .ok (.bastore, 1) := by decide +kernel
theorem dX6_init_154 : decode cX6_init 154 = .ok (.return_, 1) := by decide +kernel
set_option maxHeartbeats 4000000 in
set_option maxRecDepth 100000 in
theorem c_X6_init (l : Launch) (G : Gm) (A : Nat → Prop) (q : Nat) : Mc l yX6_init cX6_init 1 (⟨1, 17, 53750, 12⟩ : Room) G A q [.ref q] (fun H => va_at G.1 vwCl (q, .inr (5, [.int 0, .int 0, .null, .null, .null, .null, .null, .null, .null, .null, .null, .null, .null, .long 0, .long 0, .int 0, .null, .null, .int 0, .null, .null, .int 0, .null, .null])) H ∧ H.size = q + 1) (po_X6_init G A q) := by
  refine of_met (by decide) (Nat.le_of_ble_eq_true rfl) ?_
  intro p e s m below meth c ls B hA hP hl
  refine pb_blk B.hx B.hb (lv' := [(0, .ref q)]) (st' := [.ref q]) hl bkX6_init_0_1 rfl (fun ls hl => ?_)
  refine z_objInit B wd_M_X6_1 hl.1 ⟨by decide, by decide⟩ dX6_init_1 ?_
  have hI : Ini G q s.heap s.heap [] 0 [.int 0, .int 0, .null, .null, .null, .null, .null, .null, .null, .null, .null, .null, .null, .long 0, .long 0, .int 0, .null, .null, .int 0, .null, .null, .int 0, .null, .null] := ⟨hP.2, hP.2, hP.1, fun b h1 h2 => by omega, fun _ _ => rfl, fun _ h => nomatch h⟩
  refine pb_blk B.hx B.hb (lv' := [(0, .ref q)]) (st' := [.int 80, .ref q]) hl bkX6_init_4_7 rfl (fun ls hl => ?_)
  refine ini_step (atype := .int) (ty := .int) B hI 0 rfl rfl id wa_I (by decide) (N := 80) (by decide) (by decide) rfl rfl rfl 2 (by decide) wd_F_X6_7 ⟨rfl, rfl⟩ (fun _ => rfl) (fun _ => rfl) (Nat.le_of_ble_eq_true rfl) (Nat.le_of_ble_eq_true rfl) (Nat.le_of_ble_eq_true rfl) dX6_init_7 dX6_init_9 (fun H locs hI => ?_)
  have hI : Ini G q s.heap H locs 1 [.int 0, .int 0, .ref (q + 1), .null, .null, .null, .null, .null, .null, .null, .null, .null, .null, .long 0, .long 0, .int 0, .null, .null, .int 0, .null, .null, .int 0, .null, .null] := hI
  refine pb_blk B.hx B.hb (lv' := [(0, .ref q)]) (st' := [.int 320, .ref q]) hl bkX6_init_12_16 rfl (fun ls hl => ?_)
  refine ini_step (atype := .long) (ty := .long) B hI 1 rfl rfl id wa_J (by decide) (N := 320) (by decide) (by decide) rfl rfl rfl 3 (by decide) wd_F_X6_13 ⟨rfl, rfl⟩ (fun _ => rfl) (fun _ => rfl) (Nat.le_of_ble_eq_true rfl) (Nat.le_of_ble_eq_true rfl) (Nat.le_of_ble_eq_true rfl) dX6_init_16 dX6_init_18 (fun H locs hI => ?_)
  have hI : Ini G q s.heap H locs 2 [.int 0, .int 0, .ref (q + 1), .ref (q + 2), .null, .null, .null, .null, .null, .null, .null, .null, .null, .long 0, .long 0, .int 0, .null, .null, .int 0, .null, .null, .int 0, .null, .null] := hI
  refine pb_blk B.hx B.hb (lv' := [(0, .ref q)]) (st' := [.int 320, .ref q]) hl bkX6_init_21_25 rfl (fun ls hl => ?_)
  refine ini_step (atype := .long) (ty := .long) B hI 1 rfl rfl id wa_J (by decide) (N := 320) (by decide) (by decide) rfl rfl rfl 4 (by decide) wd_F_X6_17 ⟨rfl, rfl⟩ (fun _ => rfl) (fun _ => rfl) (Nat.le_of_ble_eq_true rfl) (Nat.le_of_ble_eq_true rfl) (Nat.le_of_ble_eq_true rfl) dX6_init_25 dX6_init_27 (fun H locs hI => ?_)
  have hI : Ini G q s.heap H locs 3 [.int 0, .int 0, .ref (q + 1), .ref (q + 2), .ref (q + 3), .null, .null, .null, .null, .null, .null, .null, .null, .long 0, .long 0, .int 0, .null, .null, .int 0, .null, .null, .int 0, .null, .null] := hI
  refine pb_blk B.hx B.hb (lv' := [(0, .ref q)]) (st' := [.int 82, .ref q]) hl bkX6_init_30_33 rfl (fun ls hl => ?_)
  refine ini_step (atype := .int) (ty := .int) B hI 0 rfl rfl id wa_I (by decide) (N := 82) (by decide) (by decide) rfl rfl rfl 5 (by decide) wd_F_X6_20 ⟨rfl, rfl⟩ (fun _ => rfl) (fun _ => rfl) (Nat.le_of_ble_eq_true rfl) (Nat.le_of_ble_eq_true rfl) (Nat.le_of_ble_eq_true rfl) dX6_init_33 dX6_init_35 (fun H locs hI => ?_)
  have hI : Ini G q s.heap H locs 4 [.int 0, .int 0, .ref (q + 1), .ref (q + 2), .ref (q + 3), .ref (q + 4), .null, .null, .null, .null, .null, .null, .null, .long 0, .long 0, .int 0, .null, .null, .int 0, .null, .null, .int 0, .null, .null] := hI
  refine pb_blk B.hx B.hb (lv' := [(0, .ref q)]) (st' := [.int 13120, .ref q]) hl bkX6_init_38_42 rfl (fun ls hl => ?_)
  refine ini_step (atype := .long) (ty := .long) B hI 1 rfl rfl id wa_J (by decide) (N := 13120) (by decide) (by decide) rfl rfl rfl 6 (by decide) wd_F_X6_23 ⟨rfl, rfl⟩ (fun _ => rfl) (fun _ => rfl) (Nat.le_of_ble_eq_true rfl) (Nat.le_of_ble_eq_true rfl) (Nat.le_of_ble_eq_true rfl) dX6_init_42 dX6_init_44 (fun H locs hI => ?_)
  have hI : Ini G q s.heap H locs 5 [.int 0, .int 0, .ref (q + 1), .ref (q + 2), .ref (q + 3), .ref (q + 4), .ref (q + 5), .null, .null, .null, .null, .null, .null, .long 0, .long 0, .int 0, .null, .null, .int 0, .null, .null, .int 0, .null, .null] := hI
  refine pb_blk B.hx B.hb (lv' := [(0, .ref q)]) (st' := [.int 13120, .ref q]) hl bkX6_init_47_51 rfl (fun ls hl => ?_)
  refine ini_step (atype := .long) (ty := .long) B hI 1 rfl rfl id wa_J (by decide) (N := 13120) (by decide) (by decide) rfl rfl rfl 7 (by decide) wd_F_X6_26 ⟨rfl, rfl⟩ (fun _ => rfl) (fun _ => rfl) (Nat.le_of_ble_eq_true rfl) (Nat.le_of_ble_eq_true rfl) (Nat.le_of_ble_eq_true rfl) dX6_init_51 dX6_init_53 (fun H locs hI => ?_)
  have hI : Ini G q s.heap H locs 6 [.int 0, .int 0, .ref (q + 1), .ref (q + 2), .ref (q + 3), .ref (q + 4), .ref (q + 5), .ref (q + 6), .null, .null, .null, .null, .null, .long 0, .long 0, .int 0, .null, .null, .int 0, .null, .null, .int 0, .null, .null] := hI
  refine pb_blk B.hx B.hb (lv' := [(0, .ref q)]) (st' := [.int 26322, .ref q]) hl bkX6_init_56_60 rfl (fun ls hl => ?_)
  refine ini_step (atype := .boolean) (ty := .boolean) B hI 2 rfl rfl id wa_Z (by decide) (N := 26322) (by decide) (by decide) rfl rfl rfl 8 (by decide) wd_F_X6_29 ⟨rfl, rfl⟩ (fun _ => rfl) (fun _ => rfl) (Nat.le_of_ble_eq_true rfl) (Nat.le_of_ble_eq_true rfl) (Nat.le_of_ble_eq_true rfl) dX6_init_60 dX6_init_62 (fun H locs hI => ?_)
  have hI : Ini G q s.heap H locs 7 [.int 0, .int 0, .ref (q + 1), .ref (q + 2), .ref (q + 3), .ref (q + 4), .ref (q + 5), .ref (q + 6), .ref (q + 7), .null, .null, .null, .null, .long 0, .long 0, .int 0, .null, .null, .int 0, .null, .null, .int 0, .null, .null] := hI
  refine pb_blk B.hx B.hb (lv' := [(0, .ref q)]) (st' := [.int 10, .ref q]) hl bkX6_init_65_68 rfl (fun ls hl => ?_)
  refine ini_step (atype := .long) (ty := .long) B hI 1 rfl rfl id wa_J (by decide) (N := 10) (by decide) (by decide) rfl rfl rfl 9 (by decide) wd_F_X6_33 ⟨rfl, rfl⟩ (fun _ => rfl) (fun _ => rfl) (Nat.le_of_ble_eq_true rfl) (Nat.le_of_ble_eq_true rfl) (Nat.le_of_ble_eq_true rfl) dX6_init_68 dX6_init_70 (fun H locs hI => ?_)
  have hI : Ini G q s.heap H locs 8 [.int 0, .int 0, .ref (q + 1), .ref (q + 2), .ref (q + 3), .ref (q + 4), .ref (q + 5), .ref (q + 6), .ref (q + 7), .ref (q + 8), .null, .null, .null, .long 0, .long 0, .int 0, .null, .null, .int 0, .null, .null, .int 0, .null, .null] := hI
  refine pb_blk B.hx B.hb (lv' := [(0, .ref q)]) (st' := [.int 10, .ref q]) hl bkX6_init_73_76 rfl (fun ls hl => ?_)
  refine ini_step (atype := .long) (ty := .long) B hI 1 rfl rfl id wa_J (by decide) (N := 10) (by decide) (by decide) rfl rfl rfl 10 (by decide) wd_F_X6_36 ⟨rfl, rfl⟩ (fun _ => rfl) (fun _ => rfl) (Nat.le_of_ble_eq_true rfl) (Nat.le_of_ble_eq_true rfl) (Nat.le_of_ble_eq_true rfl) dX6_init_76 dX6_init_78 (fun H locs hI => ?_)
  have hI : Ini G q s.heap H locs 9 [.int 0, .int 0, .ref (q + 1), .ref (q + 2), .ref (q + 3), .ref (q + 4), .ref (q + 5), .ref (q + 6), .ref (q + 7), .ref (q + 8), .ref (q + 9), .null, .null, .long 0, .long 0, .int 0, .null, .null, .int 0, .null, .null, .int 0, .null, .null] := hI
  refine pb_blk B.hx B.hb (lv' := [(0, .ref q)]) (st' := [.int 10, .ref q]) hl bkX6_init_81_84 rfl (fun ls hl => ?_)
  refine ini_step (atype := .long) (ty := .long) B hI 1 rfl rfl id wa_J (by decide) (N := 10) (by decide) (by decide) rfl rfl rfl 11 (by decide) wd_F_X6_39 ⟨rfl, rfl⟩ (fun _ => rfl) (fun _ => rfl) (Nat.le_of_ble_eq_true rfl) (Nat.le_of_ble_eq_true rfl) (Nat.le_of_ble_eq_true rfl) dX6_init_84 dX6_init_86 (fun H locs hI => ?_)
  have hI : Ini G q s.heap H locs 10 [.int 0, .int 0, .ref (q + 1), .ref (q + 2), .ref (q + 3), .ref (q + 4), .ref (q + 5), .ref (q + 6), .ref (q + 7), .ref (q + 8), .ref (q + 9), .ref (q + 10), .null, .long 0, .long 0, .int 0, .null, .null, .int 0, .null, .null, .int 0, .null, .null] := hI
  refine pb_blk B.hx B.hb (lv' := [(0, .ref q)]) (st' := [.int 10, .ref q]) hl bkX6_init_89_92 rfl (fun ls hl => ?_)
  refine ini_step (atype := .long) (ty := .long) B hI 1 rfl rfl id wa_J (by decide) (N := 10) (by decide) (by decide) rfl rfl rfl 12 (by decide) wd_F_X6_42 ⟨rfl, rfl⟩ (fun _ => rfl) (fun _ => rfl) (Nat.le_of_ble_eq_true rfl) (Nat.le_of_ble_eq_true rfl) (Nat.le_of_ble_eq_true rfl) dX6_init_92 dX6_init_94 (fun H locs hI => ?_)
  have hI : Ini G q s.heap H locs 11 [.int 0, .int 0, .ref (q + 1), .ref (q + 2), .ref (q + 3), .ref (q + 4), .ref (q + 5), .ref (q + 6), .ref (q + 7), .ref (q + 8), .ref (q + 9), .ref (q + 10), .ref (q + 11), .long 0, .long 0, .int 0, .null, .null, .int 0, .null, .null, .int 0, .null, .null] := hI
  refine pb_blk B.hx B.hb (lv' := [(0, .ref q)]) (st' := [.int 2, .ref q]) hl bkX6_init_97_99 rfl (fun ls hl => ?_)
  refine ini_step (atype := .long) (ty := .long) B hI 1 rfl rfl id wa_J (by decide) (N := 2) (by decide) (by decide) rfl rfl rfl 16 (by decide) wd_F_X6_45 ⟨rfl, rfl⟩ (fun _ => rfl) (fun _ => rfl) (Nat.le_of_ble_eq_true rfl) (Nat.le_of_ble_eq_true rfl) (Nat.le_of_ble_eq_true rfl) dX6_init_99 dX6_init_101 (fun H locs hI => ?_)
  have hI : Ini G q s.heap H locs 12 [.int 0, .int 0, .ref (q + 1), .ref (q + 2), .ref (q + 3), .ref (q + 4), .ref (q + 5), .ref (q + 6), .ref (q + 7), .ref (q + 8), .ref (q + 9), .ref (q + 10), .ref (q + 11), .long 0, .long 0, .int 0, .ref (q + 12), .null, .int 0, .null, .null, .int 0, .null, .null] := hI
  refine pb_blk B.hx B.hb (lv' := [(0, .ref q)]) (st' := [.int 2, .ref q]) hl bkX6_init_104_106 rfl (fun ls hl => ?_)
  refine ini_step (atype := .long) (ty := .long) B hI 1 rfl rfl id wa_J (by decide) (N := 2) (by decide) (by decide) rfl rfl rfl 17 (by decide) wd_F_X6_48 ⟨rfl, rfl⟩ (fun _ => rfl) (fun _ => rfl) (Nat.le_of_ble_eq_true rfl) (Nat.le_of_ble_eq_true rfl) (Nat.le_of_ble_eq_true rfl) dX6_init_106 dX6_init_108 (fun H locs hI => ?_)
  have hI : Ini G q s.heap H locs 13 [.int 0, .int 0, .ref (q + 1), .ref (q + 2), .ref (q + 3), .ref (q + 4), .ref (q + 5), .ref (q + 6), .ref (q + 7), .ref (q + 8), .ref (q + 9), .ref (q + 10), .ref (q + 11), .long 0, .long 0, .int 0, .ref (q + 12), .ref (q + 13), .int 0, .null, .null, .int 0, .null, .null] := hI
  refine pb_blk B.hx B.hb (lv' := [(0, .ref q)]) (st' := [.int 10, .ref q]) hl bkX6_init_111_114 rfl (fun ls hl => ?_)
  refine ini_step (atype := .long) (ty := .long) B hI 1 rfl rfl id wa_J (by decide) (N := 10) (by decide) (by decide) rfl rfl rfl 19 (by decide) wd_F_X6_51 ⟨rfl, rfl⟩ (fun _ => rfl) (fun _ => rfl) (Nat.le_of_ble_eq_true rfl) (Nat.le_of_ble_eq_true rfl) (Nat.le_of_ble_eq_true rfl) dX6_init_114 dX6_init_116 (fun H locs hI => ?_)
  have hI : Ini G q s.heap H locs 14 [.int 0, .int 0, .ref (q + 1), .ref (q + 2), .ref (q + 3), .ref (q + 4), .ref (q + 5), .ref (q + 6), .ref (q + 7), .ref (q + 8), .ref (q + 9), .ref (q + 10), .ref (q + 11), .long 0, .long 0, .int 0, .ref (q + 12), .ref (q + 13), .int 0, .ref (q + 14), .null, .int 0, .null, .null] := hI
  refine pb_blk B.hx B.hb (lv' := [(0, .ref q)]) (st' := [.int 10, .ref q]) hl bkX6_init_119_122 rfl (fun ls hl => ?_)
  refine ini_step (atype := .long) (ty := .long) B hI 1 rfl rfl id wa_J (by decide) (N := 10) (by decide) (by decide) rfl rfl rfl 20 (by decide) wd_F_X6_54 ⟨rfl, rfl⟩ (fun _ => rfl) (fun _ => rfl) (Nat.le_of_ble_eq_true rfl) (Nat.le_of_ble_eq_true rfl) (Nat.le_of_ble_eq_true rfl) dX6_init_122 dX6_init_124 (fun H locs hI => ?_)
  have hI : Ini G q s.heap H locs 15 [.int 0, .int 0, .ref (q + 1), .ref (q + 2), .ref (q + 3), .ref (q + 4), .ref (q + 5), .ref (q + 6), .ref (q + 7), .ref (q + 8), .ref (q + 9), .ref (q + 10), .ref (q + 11), .long 0, .long 0, .int 0, .ref (q + 12), .ref (q + 13), .int 0, .ref (q + 14), .ref (q + 15), .int 0, .null, .null] := hI
  refine pb_blk B.hx B.hb (lv' := [(0, .ref q)]) (st' := [.int 161, .ref q]) hl bkX6_init_127_131 rfl (fun ls hl => ?_)
  refine ini_step (atype := .int) (ty := .int) B hI 0 rfl rfl id wa_I (by decide) (N := 161) (by decide) (by decide) rfl rfl rfl 22 (by decide) wd_F_X6_57 ⟨rfl, rfl⟩ (fun _ => rfl) (fun _ => rfl) (Nat.le_of_ble_eq_true rfl) (Nat.le_of_ble_eq_true rfl) (Nat.le_of_ble_eq_true rfl) dX6_init_131 dX6_init_133 (fun H locs hI => ?_)
  have hI : Ini G q s.heap H locs 16 [.int 0, .int 0, .ref (q + 1), .ref (q + 2), .ref (q + 3), .ref (q + 4), .ref (q + 5), .ref (q + 6), .ref (q + 7), .ref (q + 8), .ref (q + 9), .ref (q + 10), .ref (q + 11), .long 0, .long 0, .int 0, .ref (q + 12), .ref (q + 13), .int 0, .ref (q + 14), .ref (q + 15), .int 0, .ref (q + 16), .null] := hI
  refine pb_blk B.hx B.hb (lv' := [(0, .ref q)]) (st' := [.int 161, .ref q]) hl bkX6_init_136_140 rfl (fun ls hl => ?_)
  refine ini_step (atype := .int) (ty := .int) B hI 0 rfl rfl id wa_I (by decide) (N := 161) (by decide) (by decide) rfl rfl rfl 23 (by decide) wd_F_X6_60 ⟨rfl, rfl⟩ (fun _ => rfl) (fun _ => rfl) (Nat.le_of_ble_eq_true rfl) (Nat.le_of_ble_eq_true rfl) (Nat.le_of_ble_eq_true rfl) dX6_init_140 dX6_init_142 (fun H locs hI => ?_)
  have hI : Ini G q s.heap H locs 17 [.int 0, .int 0, .ref (q + 1), .ref (q + 2), .ref (q + 3), .ref (q + 4), .ref (q + 5), .ref (q + 6), .ref (q + 7), .ref (q + 8), .ref (q + 9), .ref (q + 10), .ref (q + 11), .long 0, .long 0, .int 0, .ref (q + 12), .ref (q + 13), .int 0, .ref (q + 14), .ref (q + 15), .int 0, .ref (q + 16), .ref (q + 17)] := hI
  obtain ⟨i1, i2, i3, i4, i5, i6⟩ := hI
  refine pb_blk B.hx B.hb (lv' := [(0, .ref q)]) (st' := [.ref q]) hl bkX6_init_145_146 rfl (fun ls hl => ?_)
  refine z_get B ciX6 8 (by decide) (obF i3) wd_F_X6_29 rfl dX6_init_146 ?_
  refine pb_blk B.hx B.hb (lv' := [(0, .ref q)]) (st' := [.int 1, .int 25680, .ref (q + 7)]) hl bkX6_init_149_153 rfl (fun ls hl => ?_)
  refine z_zast B (i4 7 (by decide) (by decide)) (show vp_in (nI 25680) 26322 from vp_in_nI (by decide) (by decide)) rfl dX6_init_153 (fun H1 w1 z o => z_forget (by show s.heap.size ≤ q + 7; omega) ?_)
  refine c_ret B dX6_init_154 (by omega) (fun x h1 h2 => by rw [o x (by omega)]; exact i5 x (by omega)) ?_ i6 (Nat.le_of_ble_eq_true rfl) (Nat.le_of_ble_eq_true rfl)
  refine ⟨i3.kept (q := (q, _)) (o q (by omega)), fun a h1 h2 => ?_⟩
  by_cases e9 : a = 7
  · subst e9; rw [w1]; rfl
  · rw [o _ (by omega)]; rw [i4 a h1 h2]; show _ = some (arrV _ _ (va_up (fun a _ => dfA a) 7 _ a)); rw [va_up_ne _ _ e9]

theorem Ls.out {G : Gm} {A : Nat → Prop} {H : Heap} {q n : Nat} {pt : Nat → Rat} {b : Nat → Bool} (h : Ls G A H q n pt b) : ¬ A q := by
  obtain ⟨pa, ca, h1, -⟩ := h
  exact h1.1

def po_X5_init (G : Gm) (A : Nat → Prop) (q : Nat) : Heap → Heap → Prop := fun H0 H => House G (Aq (Aq A q) H0.size) H q H0.size 0 (fun _ => .inl (fun _ => 0)) as0 ∧ H0.size < H.size
theorem bkX5_init_0_1 : pb_chk cX5_init 0 [.aload_n 0] = some 1 := by decide +kernel
theorem dX5_init_1 : decode cX5_init 1 = .ok (.invokespecial 1, 3) := by decide +kernel
theorem bkX5_init_4_7 : pb_chk cX5_init 4 [.aload_n 0, .bipush 80] = some 7 := by decide +kernel
theorem dX5_init_7 : decode cX5_init 7 = .ok (.anewarray 9, 3) := by decide +kernel
theorem dX5_init_10 : decode cX5_init 10 = .ok (.putfield 11, 3) := by decide +kernel
theorem bkX5_init_13_15 : pb_chk cX5_init 13 [.aload_n 0, .iconst 0] = some 15 := by decide +kernel
theorem dX5_init_15 : decode cX5_init 15 = .ok (.putfield 15, 3) := by decide +kernel
theorem bkX5_init_18_20 : pb_chk cX5_init 18 [.aload_n 0, .iconst 1] = some 20 := by decide +kernel
theorem dX5_init_20 : decode cX5_init 20 = .ok (.invokestatic 19, 3) := by decide +kernel
theorem dX5_init_23 : decode cX5_init 23 = .ok (.putfield 25, 3) := by decide +kernel
theorem dX5_init_26 : decode cX5_init 26 = .ok (.return_, 1) := by decide +kernel
set_option maxHeartbeats 4000000 in
set_option maxRecDepth 100000 in
theorem c_X5_init (l : Launch) (G : Gm) (A : Nat → Prop) (q : Nat) : Mc l yX5_init cX5_init 1 (⟨4, 4, 83, 74⟩ : Room) G A q [.ref q] (fun H => va_at G.1 vwCl (q, .inr (4, [.null, .int 0, .null])) H ∧ H.size = q + 1 ∧ ¬ A q) (po_X5_init G A q) := by
  refine of_met (by decide) (Nat.le_of_ble_eq_true rfl) ?_
  intro p e s m below meth c ls B hA hP hl
  refine pb_blk B.hx B.hb (lv' := [(0, .ref q)]) (st' := [.ref q]) hl bkX5_init_0_1 rfl (fun ls hl => ?_)
  refine z_objInit B wd_M_X5_1 hl.1 ⟨by decide, by decide⟩ dX5_init_1 ?_
  obtain ⟨hob, hsz, hnq⟩ := hP
  refine pb_blk B.hx B.hb (lv' := [(0, .ref q)]) (st' := [.int 80, .ref q]) hl bkX5_init_4_7 rfl (fun ls hl => ?_)
  refine z_newq B 4 rfl wd_C_X5_9 B.hK.2.ao4 (by decide) (N := 80) (by decide) (by decide) (Nat.le_of_ble_eq_true rfl) (Nat.le_of_ble_eq_true rfl) dX5_init_7 (fun H1 w1 z1 o1 => ?_)
  refine z_put0 B ciX5 0 (by decide) (hob.kept (q := (q, _)) (o1 q (by omega))) wd_F_X5_11 (Or.inr ⟨rfl, rfl, rfl⟩) rfl rfl (by decide) dX5_init_10 (fun H2 i2 ob2 z2 o2 => ?_)
  refine pb_blk B.hx B.hb (lv' := [(0, .ref q)]) (st' := [.int 0, .ref q]) hl bkX5_init_13_15 rfl (fun ls hl => ?_)
  refine z_put0 B ciX5 1 (by decide) ob2 wd_F_X5_15 (Or.inl rfl) rfl rfl (Nat.le_of_ble_eq_true rfl) dX5_init_15 (fun H3 i3 ob3 z3 o3 => ?_)
  refine pb_blk B.hx B.hb (lv' := [(0, .ref q)]) (st' := [.int 1, .ref q]) hl bkX5_init_18_20 rfl (fun ls hl => ?_)
  rw [show (1 : Int32) = b2i true from rfl]
  have hA3 : ∀ x, Aq (Aq A q) s.heap.size x → x < H3.size := fun x hx => by rcases hx with (h | h) | h; have := hA x h; omega; omega; omega
  refine z_callS B (c_X2_wholeOrNone l G (Aq (Aq A q) s.heap.size) true) cy_X2_wholeOrNone st_X2_wholeOrNone wd_M_X5_19 hA3 trivial rfl hl.1 rfl (Nat.le_of_ble_eq_true rfl) ⟨by decide, by decide⟩ ⟨by decide, by decide⟩ dX5_init_20 (fun v H4 hE hv => ?_)
  obtain ⟨aa, rfl, hls⟩ := hv
  have hno := Ls.out hls
  refine z_put0 B ciX5 2 (by decide) (ob3.kept (q := (q, _)) (hE.2 q (by omega))) wd_F_X5_25 (Or.inl rfl) rfl rfl (Nat.le_of_ble_eq_true rfl) dX5_init_23 (fun H5 i5 ob5 z5 o5 => ?_)
  have hz4 := hE.1
  refine c_ret B dX5_init_26 (by omega) (fun x h1 h2 => by rw [o5 x h2, hE.2 x (by omega), o3 x h2, o2 x h2, o1 x h1]) ?_ (fun z hz => ?_) (Nat.le_of_ble_eq_true rfl) (Nat.le_of_ble_eq_true rfl)
  · refine ⟨⟨aa, ob5, Or.inl (Or.inr rfl), Or.inr rfl, by omega, by decide, ⟨fun _ => .null, ?_, fun k hk => absurd hk (Nat.not_lt_zero _)⟩, ?_⟩, by omega⟩
    · rw [o5 _ (by omega), hE.2 _ (by omega), o3 _ (by omega), o2 _ (by omega)]; exact w1
    · exact hls.mv (Mv.put z5 o5 (Or.inl (Or.inr rfl)))
  · rcases List.mem_append.mp hz with hz | hz
    · rcases List.mem_append.mp hz with hz | hz
      · rcases List.mem_append.mp hz with hz | hz
        · exact nomatch hz
        · rw [List.mem_singleton.mp hz]
      · rw [List.mem_singleton.mp hz]
    · rw [List.mem_singleton.mp hz]

