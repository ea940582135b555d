section ROWSX0
variable {p : Program} {l : Launch} {e : Env} {R : Room} {s : State} {m : MethodId} {args : Array Value} {below : List Frame} {meth : Method} {c : Code} {H : Heap} {locs : List Loc} {cells slots : Nat} {cc : ByteArray} {pc nL : Nat} {ls : Array Slot} {rest st : List Value} {G : Gm} {F : Nat → Prop} {y : MethodName} {ret : Option FieldType} {mc ms : Nat} {px : String → Prop} {Qc : Array Value → State → Outcome → State → Prop}
theorem x_callV0 {y' : MethodName} {bytes : ByteArray} {maxL np index b ci N : Nat} {r' : Option FieldType} {rm : Room} {A' : Nat → Prop} {As : List Value} {P : Heap → Prop} {post' : Option Value → Heap → Prop} {px' : String → Prop} {C : String} {T : u_T} {fs : List Value} (B : Bd p s m args meth c G y cc nL ret) (hKT : KT s) (htb : ∀ x ∈ c.exceptionTable.toList, False) (hM : Mx l y' bytes maxL r' rm G A' (fun _ => False) (.ref b :: As) P post' px') (K : CY y' bytes maxL r' np) (hi : Cond.instanceMethod y' ∈ WS) (hse : Cond.selects C y' y' ∈ WS) (hl : Cond.methodLink y.cls index y' ∈ WS)
    (hci : vwCl[ci]? = some (C, T, N)) (ob : va_at G.1 vwCl (b, .inr (ci, fs)) H) (hA : ∀ q, A' q → q < H.size) (hP : P H) (hE : Ex s.heap H) (hn : As.length = np) (hls : ls.size = nL) (hst : st = As.reverse ++ .ref b :: rest) (hw : (rest.map fun v => v.category).sum ≤ 8) (hR : rm.frames + 1 ≤ R.frames ∧ 8 + (maxL + 11) + rm.locals ≤ R.locals) (hf : cells + rm.cells ≤ R.cells ∧ slots + rm.slots ≤ R.slots) (hd : decode cc pc = .ok (.invokevirtual index, 3))
    (hlo : ∀ z ∈ locs, F z.base) (hm : cells + rm.cells ≤ mc ∧ slots + rm.slots ≤ ms) (hx : ∀ E, px' E → px E)
    (kk : ∀ (v : Option Value) (H1 : Heap), Ex H H1 → post' v H1 → W p l e R s m args below meth c H1 locs (cells + rm.cells) (slots + rm.slots) (vx_MQ below Qc (XE px) args s mc ms F) (F0 m (pc + 3) ls (v.toList ++ rest))) : W p l e R s m args below meth c H locs cells slots (vx_MQ below Qc (XE px) args s mc ms F) (F0 m pc ls st) :=
  x_callV B hKT htb hM K hi hse hl hci ob hA hP hE hn hls hst hw hR hf hd hlo (fun _ h => h.elim) hm hx (fun v H1 L hL hMv hv => by
    have e9 : L = [] := List.eq_nil_iff_forall_not_mem.mpr (fun z h => hL z h)
    subst e9
    rw [List.append_nil]
    exact kk v H1 hMv.toEx hv)
theorem x_callS0 {y' : MethodName} {bytes : ByteArray} {maxL np index : Nat} {r' : Option FieldType} {rm : Room} {A' : Nat → Prop} {As : List Value} {P : Heap → Prop} {post' : Option Value → Heap → Prop} {px' : String → Prop} (B : Bd p s m args meth c G y cc nL ret) (hKT : KT s) (htb : ∀ x ∈ c.exceptionTable.toList, False) (hM : Mx l y' bytes maxL r' rm G A' (fun _ => False) As P post' px') (K : CY y' bytes maxL r' np) (hi : Cond.static y' ∈ WS) (hl : Cond.methodLink y.cls index y' ∈ WS)
    (hA : ∀ q, A' q → q < H.size) (hP : P H) (hE : Ex s.heap H) (hn : As.length = np) (hls : ls.size = nL) (hst : st = As.reverse ++ rest) (hw : (rest.map fun v => v.category).sum ≤ 8) (hR : rm.frames + 1 ≤ R.frames ∧ 8 + (maxL + 11) + rm.locals ≤ R.locals) (hf : cells + rm.cells ≤ R.cells ∧ slots + rm.slots ≤ R.slots) (hd : decode cc pc = .ok (.invokestatic index, 3))
    (hlo : ∀ z ∈ locs, F z.base) (hm : cells + rm.cells ≤ mc ∧ slots + rm.slots ≤ ms) (hx : ∀ E, px' E → px E)
    (kk : ∀ (v : Option Value) (H1 : Heap), Ex H H1 → post' v H1 → W p l e R s m args below meth c H1 locs (cells + rm.cells) (slots + rm.slots) (vx_MQ below Qc (XE px) args s mc ms F) (F0 m (pc + 3) ls (v.toList ++ rest))) : W p l e R s m args below meth c H locs cells slots (vx_MQ below Qc (XE px) args s mc ms F) (F0 m pc ls st) :=
  x_callS B hKT htb hM K hi hl hA hP hE hn hls hst hw hR hf hd hlo (fun _ h => h.elim) hm hx (fun v H1 L hL hMv hv => by
    have e9 : L = [] := List.eq_nil_iff_forall_not_mem.mpr (fun z h => hL z h)
    subst e9
    rw [List.append_nil]
    exact kk v H1 hMv.toEx hv)
end ROWSX0

def po_X5_add (G : Gm) (A : Nat → Prop) (q ta N : Nat) (th : Nat → Th) (as : St3) (f0 g0 : Int32) : Option Value → Heap → Prop := fun v H => v = some (.int (nI N)) ∧ ∃ t, R_add N th f0 g0 0 t ∧ House G A H q ta (N + 1) (upT th N t) as
def px_X5_add (q ta N : Nat) (th : Nat → Th) (as : St3) (f0 g0 : Int32) : String → Prop := fun E => ∃ c, (E, c) ∈ X123 ∧ ∀ t, R_add N th f0 g0 c t
theorem bkX5_add_0_2 : pb_chk cX5_add 0 [.aload_n 0, .iload_n 1] = some 2 := by decide +kernel
theorem dX5_add_2 : decode cX5_add 2 = .ok (.invokevirtual 59, 3) := by decide +kernel
theorem bkX5_add_5_8 : pb_chk cX5_add 5 [.astore_n 3, .aload_n 0, .iload_n 2] = some 8 := by decide +kernel
theorem dX5_add_8 : decode cX5_add 8 = .ok (.invokevirtual 59, 3) := by decide +kernel
theorem bkX5_add_11_15 : pb_chk cX5_add 11 [.astore 4, .aload_n 0, .aload_n 3] = some 15 := by decide +kernel
theorem dX5_add_15 : decode cX5_add 15 = .ok (.invokestatic 63, 3) := by decide +kernel
theorem bkX5_add_18_20 : pb_chk cX5_add 18 [.aload 4] = some 20 := by decide +kernel
theorem dX5_add_20 : decode cX5_add 20 = .ok (.invokestatic 63, 3) := by decide +kernel
theorem dX5_add_23 : decode cX5_add 23 = .ok (.invokevirtual 67, 3) := by decide +kernel
theorem dX5_add_26 : decode cX5_add 26 = .ok (.invokevirtual 48, 3) := by decide +kernel
theorem dX5_add_29 : decode cX5_add 29 = .ok (.ireturn, 1) := by decide +kernel
set_option maxHeartbeats 4000000 in
set_option maxRecDepth 100000 in
theorem c_X5_add (l : Launch) (hst : l.stackTraces = false) (G : Gm) (A : Nat → Prop) (q ta N : Nat) (th : Nat → Th) (as : St3) (f0 g0 : Int32) (hB : Bds N th as) : Mx l yX5_add cX5_add 5 (some .int) (⟨8, 300, 10000, 160⟩ : Room) G A (F2 q ta) [.ref q, .int f0, .int g0] (fun H => House G A H q ta N th as) (po_X5_add G A q ta N th as f0 g0) (px_X5_add q ta N th as f0 g0) := by
  refine of_metX (by decide) (Nat.le_of_ble_eq_true rfl) ?_
  intro p e s m below meth c ls B hT htb hA hh hl
  obtain ⟨fs9, ho⟩ := hh.ob
  refine pb_blk B.hx B.hb (lv' := [(0, .ref q), (1, .int f0), (2, .int g0)]) (st' := [.int f0, .ref q]) hl bkX5_add_0_2 rfl (fun ls hl => ?_)
  refine x_callV0 B hT htb (c_X5_found l hst G A q ta N th as f0) cy_X5_found im_X5_found se_X5_found wd_M_X5_59 rfl ho (hA_up hA (Ex.rf).1) hh (Ex.rf) rfl hl.1 rfl (Nat.le_of_ble_eq_true rfl) ⟨by decide, by decide⟩ ⟨by decide, by decide⟩ dX5_add_2 (fun _ h => nomatch h) ⟨by decide, by decide⟩ (fun E h => ⟨1, by rw [h.1]; decide, fun t => Or.inl ⟨rfl, fun h9 => h.2 h9.1⟩⟩) (fun v H1 hE hv => ?_)
  obtain ⟨i, x1, hi, ei, rfl, hx1⟩ := hv
  have eH1 := (Ex.rf).trans hE
  have hh := hh.ex hE
  obtain ⟨fs9, ho⟩ := hh.ob
  refine pb_blk B.hx B.hb (lv' := [(3, .ref x1), (0, .ref q), (1, .int f0), (2, .int g0)]) (st' := [.int g0, .ref q]) hl bkX5_add_5_8 rfl (fun ls hl => ?_)
  refine x_callV0 B hT htb (c_X5_found l hst G A q ta N th as g0) cy_X5_found im_X5_found se_X5_found wd_M_X5_59 rfl ho (hA_up hA (eH1).1) hh (eH1) rfl hl.1 rfl (Nat.le_of_ble_eq_true rfl) ⟨by decide, by decide⟩ ⟨by decide, by decide⟩ dX5_add_8 (fun _ h => nomatch h) ⟨by decide, by decide⟩ (fun E h => ⟨1, by rw [h.1]; decide, fun t => Or.inl ⟨rfl, fun h9 => h.2 h9.2⟩⟩) (fun v H2 hE hv => ?_)
  obtain ⟨j, x2, hj, ej, rfl, hx2⟩ := hv
  have eH2 := (eH1).trans hE
  have hx1 := hx1.mv (hE.mv A)
  have hh := hh.ex hE
  refine pb_blk B.hx B.hb (lv' := [(4, .ref x2), (3, .ref x1), (0, .ref q), (1, .int f0), (2, .int g0)]) (st' := [.ref x1, .ref q]) hl bkX5_add_11_15 rfl (fun ls hl => ?_)
  refine x_callS0 B hT htb (c_X5_asFormula l hst G A x1 (th i)) cy_X5_asFormula st_X5_asFormula wd_M_X5_63 (hA_up hA (eH2).1) hx1 (eH2) rfl hl.1 rfl (Nat.le_of_ble_eq_true rfl) ⟨by decide, by decide⟩ ⟨by decide, by decide⟩ dX5_add_15 (fun _ h => nomatch h) ⟨by decide, by decide⟩ (fun E h => ⟨2, by rw [h.1]; decide, fun t => Or.inr ⟨i, j, hi, hj, ei, ej, Or.inl ⟨rfl, fun h9 => h.2 h9.1⟩⟩⟩) (fun v H3 hE hv => ?_)
  obtain ⟨rfl, u, ti⟩ := hv
  have eH3 := (eH2).trans hE
  have hx1 := hx1.mv (hE.mv A)
  have hx2 := hx2.mv (hE.mv A)
  have hh := hh.ex hE
  have fx1 : Fo G A H3 x1 u := by rw [ti] at hx1; exact hx1
  refine pb_blk B.hx B.hb (lv' := [(4, .ref x2), (3, .ref x1), (0, .ref q), (1, .int f0), (2, .int g0)]) (st' := [.ref x2, .ref x1, .ref q]) hl bkX5_add_18_20 rfl (fun ls hl => ?_)
  refine x_callS0 B hT htb (c_X5_asFormula l hst G A x2 (th j)) cy_X5_asFormula st_X5_asFormula wd_M_X5_63 (hA_up hA (eH3).1) hx2 (eH3) rfl hl.1 rfl (Nat.le_of_ble_eq_true rfl) ⟨by decide, by decide⟩ ⟨by decide, by decide⟩ dX5_add_20 (fun _ h => nomatch h) ⟨by decide, by decide⟩ (fun E h => ⟨2, by rw [h.1]; decide, fun t => Or.inr ⟨i, j, hi, hj, ei, ej, Or.inl ⟨rfl, fun h9 => h.2 h9.2⟩⟩⟩) (fun v H4 hE hv => ?_)
  obtain ⟨rfl, v, tj⟩ := hv
  have eH4 := (eH3).trans hE
  have hx1 := hx1.mv (hE.mv A)
  have hx2 := hx2.mv (hE.mv A)
  have fx1 := fx1.mv (hE.mv A)
  have hh := hh.ex hE
  have fx2 : Fo G A H4 x2 v := by rw [tj] at hx2; exact hx2
  have hb := (hB.2.2.2.2.2 i j hi hj u v ti tj).1
  obtain ⟨fs1, ho1⟩ := fx1.ob
  refine z_callV B (c_X0_plus l G A x1 x2 u v (fun k hk => (hb k hk).1)) cy_X0_plus im_X0_plus se_X0_plus wd_M_X5_67 rfl ho1 (hA_up hA (eH4).1) ⟨fx1, fx2⟩ rfl hl.1 rfl (Nat.le_of_ble_eq_true rfl) ⟨by decide, by decide⟩ ⟨by decide, by decide⟩ dX5_add_23 (fun v H5 hE hv => ?_)
  obtain ⟨y, rfl, hy⟩ := hv
  have eH5 := (eH4).trans hE
  have hx1 := hx1.mv (hE.mv A)
  have hx2 := hx2.mv (hE.mv A)
  have fx1 := fx1.mv (hE.mv A)
  have fx2 := fx2.mv (hE.mv A)
  have hh := hh.ex hE
  obtain ⟨fs9, ho⟩ := hh.ob
  refine x_callV B hT htb (c_X5_keep l hst G A q ta N th as y (.inl (fun k => u k + v k)) (fun z h9 => nomatch h9)) cy_X5_keep im_X5_keep se_X5_keep wd_M_X5_48 rfl ho (hA_up hA (eH5).1) ⟨hh, hy⟩ (eH5) rfl hl.1 rfl (Nat.le_of_ble_eq_true rfl) ⟨by decide, by decide⟩ ⟨by decide, by decide⟩ dX5_add_26 (fun _ h => nomatch h) (fun _ h => h) ⟨by decide, by decide⟩ (fun E h => ⟨3, by rw [h.1]; decide, fun t => Or.inr ⟨i, j, hi, hj, ei, ej, Or.inr ⟨u, v, ti, tj, Or.inl ⟨rfl, h.2⟩⟩⟩⟩) (fun v H6 L hL hM hv => ?_)
  obtain ⟨rfl, hN8, htg, hh2⟩ := hv
  exact x_iret B dX5_add_29 (((eH5).mv _).trans hM) ⟨rfl, (.inl (fun k => u k + v k)), Or.inr ⟨i, j, hi, hj, ei, ej, Or.inr ⟨u, v, ti, tj, Or.inr ⟨rfl, hN8, htg, rfl⟩⟩⟩, hh2⟩ (fun z hz => hL z hz) (Nat.le_of_ble_eq_true rfl) (Nat.le_of_ble_eq_true rfl)

def po_X5_less (G : Gm) (A : Nat → Prop) (q ta N : Nat) (th : Nat → Th) (as : St3) (f0 g0 : Int32) : Option Value → Heap → Prop := fun v H => v = some (.int (nI N)) ∧ ∃ t, R_less N th f0 g0 0 t ∧ House G A H q ta (N + 1) (upT th N t) as
def px_X5_less (q ta N : Nat) (th : Nat → Th) (as : St3) (f0 g0 : Int32) : String → Prop := fun E => ∃ c, (E, c) ∈ X123 ∧ ∀ t, R_less N th f0 g0 c t
theorem bkX5_less_0_2 : pb_chk cX5_less 0 [.aload_n 0, .iload_n 1] = some 2 := by decide +kernel
theorem dX5_less_2 : decode cX5_less 2 = .ok (.invokevirtual 59, 3) := by decide +kernel
theorem bkX5_less_5_8 : pb_chk cX5_less 5 [.astore_n 3, .aload_n 0, .iload_n 2] = some 8 := by decide +kernel
theorem dX5_less_8 : decode cX5_less 8 = .ok (.invokevirtual 59, 3) := by decide +kernel
theorem bkX5_less_11_15 : pb_chk cX5_less 11 [.astore 4, .aload_n 0, .aload_n 3] = some 15 := by decide +kernel
theorem dX5_less_15 : decode cX5_less 15 = .ok (.invokestatic 63, 3) := by decide +kernel
theorem bkX5_less_18_20 : pb_chk cX5_less 18 [.aload 4] = some 20 := by decide +kernel
theorem dX5_less_20 : decode cX5_less 20 = .ok (.invokestatic 63, 3) := by decide +kernel
theorem dX5_less_23 : decode cX5_less 23 = .ok (.new 37, 3) := by decide +kernel
theorem bkX5_less_26_27 : pb_chk cX5_less 26 [.dup] = some 27 := by decide +kernel
theorem dX5_less_27 : decode cX5_less 27 = .ok (.ldc2_w 71, 3) := by decide +kernel
theorem bkX5_less_30_31 : pb_chk cX5_less 30 [.lconst 1] = some 31 := by decide +kernel
theorem dX5_less_31 : decode cX5_less 31 = .ok (.invokespecial 52, 3) := by decide +kernel
theorem dX5_less_34 : decode cX5_less 34 = .ok (.invokevirtual 73, 3) := by decide +kernel
theorem dX5_less_37 : decode cX5_less 37 = .ok (.invokevirtual 67, 3) := by decide +kernel
theorem dX5_less_40 : decode cX5_less 40 = .ok (.invokevirtual 48, 3) := by decide +kernel
theorem dX5_less_43 : decode cX5_less 43 = .ok (.ireturn, 1) := by decide +kernel
set_option maxHeartbeats 4000000 in
set_option maxRecDepth 100000 in
theorem c_X5_less (l : Launch) (hst : l.stackTraces = false) (G : Gm) (A : Nat → Prop) (q ta N : Nat) (th : Nat → Th) (as : St3) (f0 g0 : Int32) (hB : Bds N th as) : Mx l yX5_less cX5_less 5 (some .int) (⟨8, 300, 10000, 160⟩ : Room) G A (F2 q ta) [.ref q, .int f0, .int g0] (fun H => House G A H q ta N th as) (po_X5_less G A q ta N th as f0 g0) (px_X5_less q ta N th as f0 g0) := by
  refine of_metX (by decide) (Nat.le_of_ble_eq_true rfl) ?_
  intro p e s m below meth c ls B hT htb hA hh hl
  obtain ⟨fs9, ho⟩ := hh.ob
  refine pb_blk B.hx B.hb (lv' := [(0, .ref q), (1, .int f0), (2, .int g0)]) (st' := [.int f0, .ref q]) hl bkX5_less_0_2 rfl (fun ls hl => ?_)
  refine x_callV0 B hT htb (c_X5_found l hst G A q ta N th as f0) cy_X5_found im_X5_found se_X5_found wd_M_X5_59 rfl ho (hA_up hA (Ex.rf).1) hh (Ex.rf) rfl hl.1 rfl (Nat.le_of_ble_eq_true rfl) ⟨by decide, by decide⟩ ⟨by decide, by decide⟩ dX5_less_2 (fun _ h => nomatch h) ⟨by decide, by decide⟩ (fun E h => ⟨1, by rw [h.1]; decide, fun t => Or.inl ⟨rfl, fun h9 => h.2 h9.1⟩⟩) (fun v H1 hE hv => ?_)
  obtain ⟨i, x1, hi, ei, rfl, hx1⟩ := hv
  have eH1 := (Ex.rf).trans hE
  have hh := hh.ex hE
  obtain ⟨fs9, ho⟩ := hh.ob
  refine pb_blk B.hx B.hb (lv' := [(3, .ref x1), (0, .ref q), (1, .int f0), (2, .int g0)]) (st' := [.int g0, .ref q]) hl bkX5_less_5_8 rfl (fun ls hl => ?_)
  refine x_callV0 B hT htb (c_X5_found l hst G A q ta N th as g0) cy_X5_found im_X5_found se_X5_found wd_M_X5_59 rfl ho (hA_up hA (eH1).1) hh (eH1) rfl hl.1 rfl (Nat.le_of_ble_eq_true rfl) ⟨by decide, by decide⟩ ⟨by decide, by decide⟩ dX5_less_8 (fun _ h => nomatch h) ⟨by decide, by decide⟩ (fun E h => ⟨1, by rw [h.1]; decide, fun t => Or.inl ⟨rfl, fun h9 => h.2 h9.2⟩⟩) (fun v H2 hE hv => ?_)
  obtain ⟨j, x2, hj, ej, rfl, hx2⟩ := hv
  have eH2 := (eH1).trans hE
  have hx1 := hx1.mv (hE.mv A)
  have hh := hh.ex hE
  refine pb_blk B.hx B.hb (lv' := [(4, .ref x2), (3, .ref x1), (0, .ref q), (1, .int f0), (2, .int g0)]) (st' := [.ref x1, .ref q]) hl bkX5_less_11_15 rfl (fun ls hl => ?_)
  refine x_callS0 B hT htb (c_X5_asFormula l hst G A x1 (th i)) cy_X5_asFormula st_X5_asFormula wd_M_X5_63 (hA_up hA (eH2).1) hx1 (eH2) rfl hl.1 rfl (Nat.le_of_ble_eq_true rfl) ⟨by decide, by decide⟩ ⟨by decide, by decide⟩ dX5_less_15 (fun _ h => nomatch h) ⟨by decide, by decide⟩ (fun E h => ⟨2, by rw [h.1]; decide, fun t => Or.inr ⟨i, j, hi, hj, ei, ej, Or.inl ⟨rfl, fun h9 => h.2 h9.1⟩⟩⟩) (fun v H3 hE hv => ?_)
  obtain ⟨rfl, u, ti⟩ := hv
  have eH3 := (eH2).trans hE
  have hx1 := hx1.mv (hE.mv A)
  have hx2 := hx2.mv (hE.mv A)
  have hh := hh.ex hE
  have fx1 : Fo G A H3 x1 u := by rw [ti] at hx1; exact hx1
  refine pb_blk B.hx B.hb (lv' := [(4, .ref x2), (3, .ref x1), (0, .ref q), (1, .int f0), (2, .int g0)]) (st' := [.ref x2, .ref x1, .ref q]) hl bkX5_less_18_20 rfl (fun ls hl => ?_)
  refine x_callS0 B hT htb (c_X5_asFormula l hst G A x2 (th j)) cy_X5_asFormula st_X5_asFormula wd_M_X5_63 (hA_up hA (eH3).1) hx2 (eH3) rfl hl.1 rfl (Nat.le_of_ble_eq_true rfl) ⟨by decide, by decide⟩ ⟨by decide, by decide⟩ dX5_less_20 (fun _ h => nomatch h) ⟨by decide, by decide⟩ (fun E h => ⟨2, by rw [h.1]; decide, fun t => Or.inr ⟨i, j, hi, hj, ei, ej, Or.inl ⟨rfl, fun h9 => h.2 h9.2⟩⟩⟩) (fun v H4 hE hv => ?_)
  obtain ⟨rfl, v, tj⟩ := hv
  have eH4 := (eH3).trans hE
  have hx1 := hx1.mv (hE.mv A)
  have hx2 := hx2.mv (hE.mv A)
  have fx1 := fx1.mv (hE.mv A)
  have hh := hh.ex hE
  have fx2 : Fo G A H4 x2 v := by rw [tj] at hx2; exact hx2
  have hb := (hB.2.2.2.2.2 i j hi hj u v ti tj).1
  have hs := hB.1 j hj v tj
  refine z_new B ciX1 wd_C_X5_37 hfs_X1 (Nat.le_of_ble_eq_true rfl) (Nat.le_of_ble_eq_true rfl) dX5_less_23 (fun K1 ob1 z1 o1 => ?_)
  refine pb_blk B.hx B.hb (lv' := [(4, .ref x2), (3, .ref x1), (0, .ref q), (1, .int f0), (2, .int g0)]) (st' := [.ref H4.size, .ref H4.size, .ref x2, .ref x1, .ref q]) hl bkX5_less_26_27 rfl (fun ls hl => ?_)
  refine z_ldc2 B wd_L_X5_71 dX5_less_27 ?_
  refine pb_blk B.hx B.hb (lv' := [(4, .ref x2), (3, .ref x1), (0, .ref q), (1, .int f0), (2, .int g0)]) (st' := [.long 1, .long (-1), .ref H4.size, .ref H4.size, .ref x2, .ref x1, .ref q]) hl bkX5_less_30_31 rfl (fun ls hl => ?_)
  have hK := (eH4).1
  refine z_ctor B (c_X1_init l G A H4.size (-1) 1 0 0) cy_X1_init im_X1_init rfl wd_M_X5_52 (eH4).1 (hA_up hA (by omega)) ob1 rfl hl.1 rfl (Nat.le_of_ble_eq_true rfl) ⟨by decide, by decide⟩ ⟨by decide, by decide⟩ dX5_less_31 (fun K2 z2 o2 ob2 => ?_)
  have hE := Ex.new z1 o1 z2 o2
  have hm : Fr G A K2 H4.size (-1) := ⟨-1, 1, ⟨hA_no hA (eH4).1, ob2⟩, rfl, rfl⟩
  have eK2 := (eH4).trans hE
  have hx1 := hx1.mv (hE.mv A)
  have hx2 := hx2.mv (hE.mv A)
  have fx1 := fx1.mv (hE.mv A)
  have fx2 := fx2.mv (hE.mv A)
  have hh := hh.ex hE
  obtain ⟨fs2, ho2⟩ := fx2.ob
  refine z_callV B (c_X0_scaled l G A x2 H4.size v (-1) (fun k hk => Sm.mul (hs k hk) ⟨by decide, by decide⟩)) cy_X0_scaled im_X0_scaled se_X0_scaled wd_M_X5_73 rfl ho2 (hA_up hA (eK2).1) ⟨fx2, hm⟩ rfl hl.1 rfl (Nat.le_of_ble_eq_true rfl) ⟨by decide, by decide⟩ ⟨by decide, by decide⟩ dX5_less_34 (fun v H5 hE hv => ?_)
  obtain ⟨y2, rfl, hy2⟩ := hv
  have eH5 := (eK2).trans hE
  have hx1 := hx1.mv (hE.mv A)
  have hx2 := hx2.mv (hE.mv A)
  have fx1 := fx1.mv (hE.mv A)
  have fx2 := fx2.mv (hE.mv A)
  have hm := hm.mv (hE.mv A)
  have hh := hh.ex hE
  obtain ⟨fs1, ho1⟩ := fx1.ob
  refine z_callV B (c_X0_plus l G A x1 y2 u (fun k => v k * (-1)) (fun k hk => (hb k hk).2)) cy_X0_plus im_X0_plus se_X0_plus wd_M_X5_67 rfl ho1 (hA_up hA (eH5).1) ⟨fx1, hy2⟩ rfl hl.1 rfl (Nat.le_of_ble_eq_true rfl) ⟨by decide, by decide⟩ ⟨by decide, by decide⟩ dX5_less_37 (fun v H6 hE hv => ?_)
  obtain ⟨y, rfl, hy⟩ := hv
  have eH6 := (eH5).trans hE
  have hx1 := hx1.mv (hE.mv A)
  have hx2 := hx2.mv (hE.mv A)
  have fx1 := fx1.mv (hE.mv A)
  have fx2 := fx2.mv (hE.mv A)
  have hm := hm.mv (hE.mv A)
  have hy2 := hy2.mv (hE.mv A)
  have hh := hh.ex hE
  obtain ⟨fs9, ho⟩ := hh.ob
  refine x_callV B hT htb (c_X5_keep l hst G A q ta N th as y (.inl (fun k => u k + v k * (-1))) (fun z h9 => nomatch h9)) cy_X5_keep im_X5_keep se_X5_keep wd_M_X5_48 rfl ho (hA_up hA (eH6).1) ⟨hh, hy⟩ (eH6) rfl hl.1 rfl (Nat.le_of_ble_eq_true rfl) ⟨by decide, by decide⟩ ⟨by decide, by decide⟩ dX5_less_40 (fun _ h => nomatch h) (fun _ h => h) ⟨by decide, by decide⟩ (fun E h => ⟨3, by rw [h.1]; decide, fun t => Or.inr ⟨i, j, hi, hj, ei, ej, Or.inr ⟨u, v, ti, tj, Or.inl ⟨rfl, h.2⟩⟩⟩⟩) (fun v H7 L hL hM hv => ?_)
  obtain ⟨rfl, hN8, htg, hh2⟩ := hv
  exact x_iret B dX5_less_43 (((eH6).mv _).trans hM) ⟨rfl, (.inl (fun k => u k + v k * (-1))), Or.inr ⟨i, j, hi, hj, ei, ej, Or.inr ⟨u, v, ti, tj, Or.inr ⟨rfl, hN8, htg, rfl⟩⟩⟩, hh2⟩ (fun z hz => hL z hz) (Nat.le_of_ble_eq_true rfl) (Nat.le_of_ble_eq_true rfl)

def po_X5_times (G : Gm) (A : Nat → Prop) (q ta N : Nat) (th : Nat → Th) (as : St3) (f0 g0 : Int32) : Option Value → Heap → Prop := fun v H => v = some (.int (nI N)) ∧ ∃ t, R_times N th f0 g0 0 t ∧ House G A H q ta (N + 1) (upT th N t) as
def px_X5_times (q ta N : Nat) (th : Nat → Th) (as : St3) (f0 g0 : Int32) : String → Prop := fun E => ∃ c, (E, c) ∈ X123 ∧ ∀ t, R_times N th f0 g0 c t
theorem bkX5_times_0_2 : pb_chk cX5_times 0 [.aload_n 0, .iload_n 1] = some 2 := by decide +kernel
theorem dX5_times_2 : decode cX5_times 2 = .ok (.invokevirtual 59, 3) := by decide +kernel
theorem bkX5_times_5_8 : pb_chk cX5_times 5 [.astore_n 3, .aload_n 0, .iload_n 2] = some 8 := by decide +kernel
theorem dX5_times_8 : decode cX5_times 8 = .ok (.invokevirtual 59, 3) := by decide +kernel
theorem bkX5_times_11_14 : pb_chk cX5_times 11 [.astore 4, .aload_n 3] = some 14 := by decide +kernel
theorem dX5_times_14 : decode cX5_times 14 = .ok (.invokestatic 63, 3) := by decide +kernel
theorem bkX5_times_17_21 : pb_chk cX5_times 17 [.astore 5, .aload 4] = some 21 := by decide +kernel
theorem dX5_times_21 : decode cX5_times 21 = .ok (.invokestatic 63, 3) := by decide +kernel
theorem bkX5_times_24_28 : pb_chk cX5_times 24 [.astore 6, .aload 5] = some 28 := by decide +kernel
theorem dX5_times_28 : decode cX5_times 28 = .ok (.getfield 76, 3) := by decide +kernel
theorem bkX5_times_31_33 : pb_chk cX5_times 31 [.aload 6] = some 33 := by decide +kernel
theorem dX5_times_33 : decode cX5_times 33 = .ok (.getfield 76, 3) := by decide +kernel
theorem bkX5_times_36_37 : pb_chk cX5_times 36 [.iadd] = some 37 := by decide +kernel
theorem dX5_times_37 : decode cX5_times 37 = .ok (.invokestatic 79, 3) := by decide +kernel
theorem bkX5_times_40_45 : pb_chk cX5_times 40 [.aload_n 0, .aload 5, .aload 6] = some 45 := by decide +kernel
theorem dX5_times_45 : decode cX5_times 45 = .ok (.invokevirtual 83, 3) := by decide +kernel
theorem dX5_times_48 : decode cX5_times 48 = .ok (.invokevirtual 48, 3) := by decide +kernel
theorem dX5_times_51 : decode cX5_times 51 = .ok (.ireturn, 1) := by decide +kernel
set_option maxHeartbeats 4000000 in
set_option maxRecDepth 100000 in
theorem c_X5_times (l : Launch) (hst : l.stackTraces = false) (G : Gm) (A : Nat → Prop) (q ta N : Nat) (th : Nat → Th) (as : St3) (f0 g0 : Int32) (hB : Bds N th as) : Mx l yX5_times cX5_times 7 (some .int) (⟨8, 300, 10000, 160⟩ : Room) G A (F2 q ta) [.ref q, .int f0, .int g0] (fun H => House G A H q ta N th as) (po_X5_times G A q ta N th as f0 g0) (px_X5_times q ta N th as f0 g0) := by
  refine of_metX (by decide) (Nat.le_of_ble_eq_true rfl) ?_
  intro p e s m below meth c ls B hT htb hA hh hl
  obtain ⟨fs9, ho⟩ := hh.ob
  refine pb_blk B.hx B.hb (lv' := [(0, .ref q), (1, .int f0), (2, .int g0)]) (st' := [.int f0, .ref q]) hl bkX5_times_0_2 rfl (fun ls hl => ?_)
  refine x_callV0 B hT htb (c_X5_found l hst G A q ta N th as f0) cy_X5_found im_X5_found se_X5_found wd_M_X5_59 rfl ho (hA_up hA (Ex.rf).1) hh (Ex.rf) rfl hl.1 rfl (Nat.le_of_ble_eq_true rfl) ⟨by decide, by decide⟩ ⟨by decide, by decide⟩ dX5_times_2 (fun _ h => nomatch h) ⟨by decide, by decide⟩ (fun E h => ⟨1, by rw [h.1]; decide, fun t => Or.inl ⟨rfl, fun h9 => h.2 h9.1⟩⟩) (fun v H1 hE hv => ?_)
  obtain ⟨i, x1, hi, ei, rfl, hx1⟩ := hv
  have eH1 := (Ex.rf).trans hE
  have hh := hh.ex hE
  obtain ⟨fs9, ho⟩ := hh.ob
  refine pb_blk B.hx B.hb (lv' := [(3, .ref x1), (0, .ref q), (1, .int f0), (2, .int g0)]) (st' := [.int g0, .ref q]) hl bkX5_times_5_8 rfl (fun ls hl => ?_)
  refine x_callV0 B hT htb (c_X5_found l hst G A q ta N th as g0) cy_X5_found im_X5_found se_X5_found wd_M_X5_59 rfl ho (hA_up hA (eH1).1) hh (eH1) rfl hl.1 rfl (Nat.le_of_ble_eq_true rfl) ⟨by decide, by decide⟩ ⟨by decide, by decide⟩ dX5_times_8 (fun _ h => nomatch h) ⟨by decide, by decide⟩ (fun E h => ⟨1, by rw [h.1]; decide, fun t => Or.inl ⟨rfl, fun h9 => h.2 h9.2⟩⟩) (fun v H2 hE hv => ?_)
  obtain ⟨j, x2, hj, ej, rfl, hx2⟩ := hv
  have eH2 := (eH1).trans hE
  have hx1 := hx1.mv (hE.mv A)
  have hh := hh.ex hE
  refine pb_blk B.hx B.hb (lv' := [(4, .ref x2), (3, .ref x1), (0, .ref q), (1, .int f0), (2, .int g0)]) (st' := [.ref x1]) hl bkX5_times_11_14 rfl (fun ls hl => ?_)
  refine x_callS0 B hT htb (c_X5_asFormula l hst G A x1 (th i)) cy_X5_asFormula st_X5_asFormula wd_M_X5_63 (hA_up hA (eH2).1) hx1 (eH2) rfl hl.1 rfl (Nat.le_of_ble_eq_true rfl) ⟨by decide, by decide⟩ ⟨by decide, by decide⟩ dX5_times_14 (fun _ h => nomatch h) ⟨by decide, by decide⟩ (fun E h => ⟨2, by rw [h.1]; decide, fun t => Or.inr ⟨i, j, hi, hj, ei, ej, Or.inl ⟨rfl, fun h9 => h.2 h9.1⟩⟩⟩) (fun v H3 hE hv => ?_)
  obtain ⟨rfl, u, ti⟩ := hv
  have eH3 := (eH2).trans hE
  have hx1 := hx1.mv (hE.mv A)
  have hx2 := hx2.mv (hE.mv A)
  have hh := hh.ex hE
  have fx1 : Fo G A H3 x1 u := by rw [ti] at hx1; exact hx1
  refine pb_blk B.hx B.hb (lv' := [(5, .ref x1), (4, .ref x2), (3, .ref x1), (0, .ref q), (1, .int f0), (2, .int g0)]) (st' := [.ref x2]) hl bkX5_times_17_21 rfl (fun ls hl => ?_)
  refine x_callS0 B hT htb (c_X5_asFormula l hst G A x2 (th j)) cy_X5_asFormula st_X5_asFormula wd_M_X5_63 (hA_up hA (eH3).1) hx2 (eH3) rfl hl.1 rfl (Nat.le_of_ble_eq_true rfl) ⟨by decide, by decide⟩ ⟨by decide, by decide⟩ dX5_times_21 (fun _ h => nomatch h) ⟨by decide, by decide⟩ (fun E h => ⟨2, by rw [h.1]; decide, fun t => Or.inr ⟨i, j, hi, hj, ei, ej, Or.inl ⟨rfl, fun h9 => h.2 h9.2⟩⟩⟩) (fun v H4 hE hv => ?_)
  obtain ⟨rfl, v, tj⟩ := hv
  have eH4 := (eH3).trans hE
  have hx1 := hx1.mv (hE.mv A)
  have hx2 := hx2.mv (hE.mv A)
  have fx1 := fx1.mv (hE.mv A)
  have hh := hh.ex hE
  have fx2 : Fo G A H4 x2 v := by rw [tj] at hx2; exact hx2
  refine pb_blk B.hx B.hb (lv' := [(6, .ref x2), (5, .ref x1), (4, .ref x2), (3, .ref x1), (0, .ref q), (1, .int f0), (2, .int g0)]) (st' := [.ref x1]) hl bkX5_times_24_28 rfl (fun ls hl => ?_)
  obtain ⟨ra1, ob1, -⟩ := id fx1
  obtain ⟨ra2, ob2, -⟩ := id fx2
  refine z_get B ciX0 1 (by decide) ob1 wd_F_X5_76 rfl dX5_times_28 ?_
  refine pb_blk B.hx B.hb (lv' := [(6, .ref x2), (5, .ref x1), (4, .ref x2), (3, .ref x1), (0, .ref q), (1, .int f0), (2, .int g0)]) (st' := [.ref x2, .int (dgI u)]) hl bkX5_times_31_33 rfl (fun ls hl => ?_)
  refine z_get B ciX0 1 (by decide) ob2 wd_F_X5_76 rfl dX5_times_33 ?_
  refine pb_blk B.hx B.hb (lv' := [(6, .ref x2), (5, .ref x1), (4, .ref x2), (3, .ref x1), (0, .ref q), (1, .int f0), (2, .int g0)]) (st' := [.int ((dgI u) + (dgI v))]) hl bkX5_times_36_37 rfl (fun ls hl => ?_)
  refine x_callS0 B hT htb (c_X5_refuseDegree l hst G A (dgI u + dgI v)) cy_X5_refuseDegree st_X5_refuseDegree wd_M_X5_79 (hA_up hA (eH4).1) trivial (eH4) rfl hl.1 rfl (Nat.le_of_ble_eq_true rfl) ⟨by decide, by decide⟩ ⟨by decide, by decide⟩ dX5_times_37 (fun _ h => nomatch h) ⟨by decide, by decide⟩ (fun E h => ⟨3, by rw [h.1]; decide, fun t => Or.inr ⟨i, j, hi, hj, ei, ej, Or.inr ⟨u, v, ti, tj, Or.inl ⟨rfl, h.2⟩⟩⟩⟩) (fun v H5 hE hv => ?_)
  obtain ⟨rfl, hd3⟩ := hv
  have eH5 := (eH4).trans hE
  have hx1 := hx1.mv (hE.mv A)
  have hx2 := hx2.mv (hE.mv A)
  have fx1 := fx1.mv (hE.mv A)
  have fx2 := fx2.mv (hE.mv A)
  have hh := hh.ex hE
  have hb := (hB.2.2.2.2.2 i j hi hj u v ti tj).2.1
  obtain ⟨fs1, ho1⟩ := fx1.ob
  refine pb_blk B.hx B.hb (lv' := [(6, .ref x2), (5, .ref x1), (4, .ref x2), (3, .ref x1), (0, .ref q), (1, .int f0), (2, .int g0)]) (st' := [.ref x2, .ref x1, .ref q]) hl bkX5_times_40_45 rfl (fun ls hl => ?_)
  refine z_callV B (c_X0_multiplied l G A x1 x2 u v hb) cy_X0_multiplied im_X0_multiplied se_X0_multiplied wd_M_X5_83 rfl ho1 (hA_up hA (eH5).1) ⟨fx1, fx2⟩ rfl hl.1 rfl (Nat.le_of_ble_eq_true rfl) ⟨by decide, by decide⟩ ⟨by decide, by decide⟩ dX5_times_45 (fun v H6 hE hv => ?_)
  obtain ⟨y, rfl, hy⟩ := hv
  have eH6 := (eH5).trans hE
  have hx1 := hx1.mv (hE.mv A)
  have hx2 := hx2.mv (hE.mv A)
  have fx1 := fx1.mv (hE.mv A)
  have fx2 := fx2.mv (hE.mv A)
  have hh := hh.ex hE
  obtain ⟨fs9, ho⟩ := hh.ob
  refine x_callV B hT htb (c_X5_keep l hst G A q ta N th as y (.inl (mulF u v)) (fun z h9 => nomatch h9)) cy_X5_keep im_X5_keep se_X5_keep wd_M_X5_48 rfl ho (hA_up hA (eH6).1) ⟨hh, hy⟩ (eH6) rfl hl.1 rfl (Nat.le_of_ble_eq_true rfl) ⟨by decide, by decide⟩ ⟨by decide, by decide⟩ dX5_times_48 (fun _ h => nomatch h) (fun _ h => h) ⟨by decide, by decide⟩ (fun E h => ⟨3, by rw [h.1]; decide, fun t => Or.inr ⟨i, j, hi, hj, ei, ej, Or.inr ⟨u, v, ti, tj, Or.inr ⟨hd3, Or.inl ⟨rfl, h.2⟩⟩⟩⟩⟩) (fun v H7 L hL hM hv => ?_)
  obtain ⟨rfl, hN8, htg, hh2⟩ := hv
  exact x_iret B dX5_times_51 (((eH6).mv _).trans hM) ⟨rfl, (.inl (mulF u v)), Or.inr ⟨i, j, hi, hj, ei, ej, Or.inr ⟨u, v, ti, tj, Or.inr ⟨hd3, Or.inr ⟨rfl, hN8, htg, rfl⟩⟩⟩⟩, hh2⟩ (fun z hz => hL z hz) (Nat.le_of_ble_eq_true rfl) (Nat.le_of_ble_eq_true rfl)

theorem dgN {u : Nat → Rat} (h : dgI u ≠ -1) : ∃ d, d < 4 ∧ dgI u = nI d ∧ putF u = fun v => hor u v d d := by
  have aux : ∀ d, d < 4 → dgI u = nI d → putF u = fun v => hor u v d d := fun d hd e => by
    funext v
    unfold putF
    rw [if_neg h, e, nI_clamp (by omega)]
  rcases dgI_5 u with e | e | e | e | e
  · exact ⟨3, by decide, e, aux 3 (by decide) e⟩
  · exact ⟨2, by decide, e, aux 2 (by decide) e⟩
  · exact ⟨1, by decide, e, aux 1 (by decide) e⟩
  · exact ⟨0, by decide, e, aux 0 (by decide) e⟩
  · exact absurd e h

def po_X5_put (G : Gm) (A : Nat → Prop) (q ta N : Nat) (th : Nat → Th) (as : St3) (f0 g0 : Int32) : Option Value → Heap → Prop := fun v H => v = some (.int (nI N)) ∧ ∃ t, R_put N th f0 g0 0 t ∧ House G A H q ta (N + 1) (upT th N t) as
def px_X5_put (q ta N : Nat) (th : Nat → Th) (as : St3) (f0 g0 : Int32) : String → Prop := fun E => ∃ c, (E, c) ∈ X123 ∧ ∀ t, R_put N th f0 g0 c t
theorem bkX5_put_0_2 : pb_chk cX5_put 0 [.aload_n 0, .iload_n 1] = some 2 := by decide +kernel
theorem dX5_put_2 : decode cX5_put 2 = .ok (.invokevirtual 59, 3) := by decide +kernel
theorem bkX5_put_5_8 : pb_chk cX5_put 5 [.astore_n 3, .aload_n 0, .iload_n 2] = some 8 := by decide +kernel
theorem dX5_put_8 : decode cX5_put 8 = .ok (.invokevirtual 59, 3) := by decide +kernel
theorem bkX5_put_11_14 : pb_chk cX5_put 11 [.astore 4, .aload_n 3] = some 14 := by decide +kernel
theorem dX5_put_14 : decode cX5_put 14 = .ok (.invokestatic 63, 3) := by decide +kernel
theorem bkX5_put_17_21 : pb_chk cX5_put 17 [.astore 5, .aload 4] = some 21 := by decide +kernel
theorem dX5_put_21 : decode cX5_put 21 = .ok (.invokestatic 63, 3) := by decide +kernel
theorem bkX5_put_24_28 : pb_chk cX5_put 24 [.astore 6, .aload 5] = some 28 := by decide +kernel
theorem dX5_put_28 : decode cX5_put 28 = .ok (.getfield 76, 3) := by decide +kernel
theorem bkX5_put_31_33 : pb_chk cX5_put 31 [.aload 6] = some 33 := by decide +kernel
theorem dX5_put_33 : decode cX5_put 33 = .ok (.getfield 76, 3) := by decide +kernel
theorem bkX5_put_36_37 : pb_chk cX5_put 36 [.imul] = some 37 := by decide +kernel
theorem dX5_put_37 : decode cX5_put 37 = .ok (.invokestatic 79, 3) := by decide +kernel
theorem bkX5_put_40_45 : pb_chk cX5_put 40 [.aload_n 0, .aload 5, .aload 6] = some 45 := by decide +kernel
theorem dX5_put_45 : decode cX5_put 45 = .ok (.invokevirtual 102, 3) := by decide +kernel
theorem dX5_put_48 : decode cX5_put 48 = .ok (.invokevirtual 48, 3) := by decide +kernel
theorem dX5_put_51 : decode cX5_put 51 = .ok (.ireturn, 1) := by decide +kernel
set_option maxHeartbeats 4000000 in
set_option maxRecDepth 100000 in
theorem c_X5_put (l : Launch) (hst : l.stackTraces = false) (G : Gm) (A : Nat → Prop) (q ta N : Nat) (th : Nat → Th) (as : St3) (f0 g0 : Int32) (hB : Bds N th as) : Mx l yX5_put cX5_put 7 (some .int) (⟨8, 300, 10000, 160⟩ : Room) G A (F2 q ta) [.ref q, .int f0, .int g0] (fun H => House G A H q ta N th as) (po_X5_put G A q ta N th as f0 g0) (px_X5_put q ta N th as f0 g0) := by
  refine of_metX (by decide) (Nat.le_of_ble_eq_true rfl) ?_
  intro p e s m below meth c ls B hT htb hA hh hl
  obtain ⟨fs9, ho⟩ := hh.ob
  refine pb_blk B.hx B.hb (lv' := [(0, .ref q), (1, .int f0), (2, .int g0)]) (st' := [.int f0, .ref q]) hl bkX5_put_0_2 rfl (fun ls hl => ?_)
  refine x_callV0 B hT htb (c_X5_found l hst G A q ta N th as f0) cy_X5_found im_X5_found se_X5_found wd_M_X5_59 rfl ho (hA_up hA (Ex.rf).1) hh (Ex.rf) rfl hl.1 rfl (Nat.le_of_ble_eq_true rfl) ⟨by decide, by decide⟩ ⟨by decide, by decide⟩ dX5_put_2 (fun _ h => nomatch h) ⟨by decide, by decide⟩ (fun E h => ⟨1, by rw [h.1]; decide, fun t => Or.inl ⟨rfl, fun h9 => h.2 h9.1⟩⟩) (fun v H1 hE hv => ?_)
  obtain ⟨i, x1, hi, ei, rfl, hx1⟩ := hv
  have eH1 := (Ex.rf).trans hE
  have hh := hh.ex hE
  obtain ⟨fs9, ho⟩ := hh.ob
  refine pb_blk B.hx B.hb (lv' := [(3, .ref x1), (0, .ref q), (1, .int f0), (2, .int g0)]) (st' := [.int g0, .ref q]) hl bkX5_put_5_8 rfl (fun ls hl => ?_)
  refine x_callV0 B hT htb (c_X5_found l hst G A q ta N th as g0) cy_X5_found im_X5_found se_X5_found wd_M_X5_59 rfl ho (hA_up hA (eH1).1) hh (eH1) rfl hl.1 rfl (Nat.le_of_ble_eq_true rfl) ⟨by decide, by decide⟩ ⟨by decide, by decide⟩ dX5_put_8 (fun _ h => nomatch h) ⟨by decide, by decide⟩ (fun E h => ⟨1, by rw [h.1]; decide, fun t => Or.inl ⟨rfl, fun h9 => h.2 h9.2⟩⟩) (fun v H2 hE hv => ?_)
  obtain ⟨j, x2, hj, ej, rfl, hx2⟩ := hv
  have eH2 := (eH1).trans hE
  have hx1 := hx1.mv (hE.mv A)
  have hh := hh.ex hE
  refine pb_blk B.hx B.hb (lv' := [(4, .ref x2), (3, .ref x1), (0, .ref q), (1, .int f0), (2, .int g0)]) (st' := [.ref x1]) hl bkX5_put_11_14 rfl (fun ls hl => ?_)
  refine x_callS0 B hT htb (c_X5_asFormula l hst G A x1 (th i)) cy_X5_asFormula st_X5_asFormula wd_M_X5_63 (hA_up hA (eH2).1) hx1 (eH2) rfl hl.1 rfl (Nat.le_of_ble_eq_true rfl) ⟨by decide, by decide⟩ ⟨by decide, by decide⟩ dX5_put_14 (fun _ h => nomatch h) ⟨by decide, by decide⟩ (fun E h => ⟨2, by rw [h.1]; decide, fun t => Or.inr ⟨i, j, hi, hj, ei, ej, Or.inl ⟨rfl, fun h9 => h.2 h9.1⟩⟩⟩) (fun v H3 hE hv => ?_)
  obtain ⟨rfl, u, ti⟩ := hv
  have eH3 := (eH2).trans hE
  have hx1 := hx1.mv (hE.mv A)
  have hx2 := hx2.mv (hE.mv A)
  have hh := hh.ex hE
  have fx1 : Fo G A H3 x1 u := by rw [ti] at hx1; exact hx1
  refine pb_blk B.hx B.hb (lv' := [(5, .ref x1), (4, .ref x2), (3, .ref x1), (0, .ref q), (1, .int f0), (2, .int g0)]) (st' := [.ref x2]) hl bkX5_put_17_21 rfl (fun ls hl => ?_)
  refine x_callS0 B hT htb (c_X5_asFormula l hst G A x2 (th j)) cy_X5_asFormula st_X5_asFormula wd_M_X5_63 (hA_up hA (eH3).1) hx2 (eH3) rfl hl.1 rfl (Nat.le_of_ble_eq_true rfl) ⟨by decide, by decide⟩ ⟨by decide, by decide⟩ dX5_put_21 (fun _ h => nomatch h) ⟨by decide, by decide⟩ (fun E h => ⟨2, by rw [h.1]; decide, fun t => Or.inr ⟨i, j, hi, hj, ei, ej, Or.inl ⟨rfl, fun h9 => h.2 h9.2⟩⟩⟩) (fun v H4 hE hv => ?_)
  obtain ⟨rfl, v, tj⟩ := hv
  have eH4 := (eH3).trans hE
  have hx1 := hx1.mv (hE.mv A)
  have hx2 := hx2.mv (hE.mv A)
  have fx1 := fx1.mv (hE.mv A)
  have hh := hh.ex hE
  have fx2 : Fo G A H4 x2 v := by rw [tj] at hx2; exact hx2
  refine pb_blk B.hx B.hb (lv' := [(6, .ref x2), (5, .ref x1), (4, .ref x2), (3, .ref x1), (0, .ref q), (1, .int f0), (2, .int g0)]) (st' := [.ref x1]) hl bkX5_put_24_28 rfl (fun ls hl => ?_)
  obtain ⟨ra1, ob1, -⟩ := id fx1
  obtain ⟨ra2, ob2, -⟩ := id fx2
  refine z_get B ciX0 1 (by decide) ob1 wd_F_X5_76 rfl dX5_put_28 ?_
  refine pb_blk B.hx B.hb (lv' := [(6, .ref x2), (5, .ref x1), (4, .ref x2), (3, .ref x1), (0, .ref q), (1, .int f0), (2, .int g0)]) (st' := [.ref x2, .int (dgI u)]) hl bkX5_put_31_33 rfl (fun ls hl => ?_)
  refine z_get B ciX0 1 (by decide) ob2 wd_F_X5_76 rfl dX5_put_33 ?_
  refine pb_blk B.hx B.hb (lv' := [(6, .ref x2), (5, .ref x1), (4, .ref x2), (3, .ref x1), (0, .ref q), (1, .int f0), (2, .int g0)]) (st' := [.int ((dgI u) * (dgI v))]) hl bkX5_put_36_37 rfl (fun ls hl => ?_)
  refine x_callS0 B hT htb (c_X5_refuseDegree l hst G A (dgI u * dgI v)) cy_X5_refuseDegree st_X5_refuseDegree wd_M_X5_79 (hA_up hA (eH4).1) trivial (eH4) rfl hl.1 rfl (Nat.le_of_ble_eq_true rfl) ⟨by decide, by decide⟩ ⟨by decide, by decide⟩ dX5_put_37 (fun _ h => nomatch h) ⟨by decide, by decide⟩ (fun E h => ⟨3, by rw [h.1]; decide, fun t => Or.inr ⟨i, j, hi, hj, ei, ej, Or.inr ⟨u, v, ti, tj, Or.inl ⟨rfl, h.2⟩⟩⟩⟩) (fun v H5 hE hv => ?_)
  obtain ⟨rfl, hd3⟩ := hv
  have eH5 := (eH4).trans hE
  have hx1 := hx1.mv (hE.mv A)
  have hx2 := hx2.mv (hE.mv A)
  have fx1 := fx1.mv (hE.mv A)
  have fx2 := fx2.mv (hE.mv A)
  have hh := hh.ex hE
  have hb := (hB.2.2.2.2.2 i j hi hj u v ti tj).2.2
  obtain ⟨fs1, ho1⟩ := fx1.ob
  refine pb_blk B.hx B.hb (lv' := [(6, .ref x2), (5, .ref x1), (4, .ref x2), (3, .ref x1), (0, .ref q), (1, .int f0), (2, .int g0)]) (st' := [.ref x2, .ref x1, .ref q]) hl bkX5_put_40_45 rfl (fun ls hl => ?_)
  by_cases hm1 : dgI u = -1
  · refine z_callV B (c_X0_withInside0 l G A x1 x2 u v hm1) cy_X0_withInside im_X0_withInside se_X0_withInside wd_M_X5_102 rfl ho1 (hA_up hA (eH5).1) ⟨fx1, fx2⟩ rfl hl.1 rfl (Nat.le_of_ble_eq_true rfl) ⟨by decide, by decide⟩ ⟨by decide, by decide⟩ dX5_put_45 (fun v H6 hE hv => ?_)
    obtain ⟨y, rfl, hy⟩ := hv
    have eH6 := (eH5).trans hE
    have hx1 := hx1.mv (hE.mv A)
    have hx2 := hx2.mv (hE.mv A)
    have fx1 := fx1.mv (hE.mv A)
    have fx2 := fx2.mv (hE.mv A)
    have hh := hh.ex hE
    have ep : putF u v = cst 0 := if_pos hm1
    rw [← ep] at hy
    obtain ⟨fs9, ho⟩ := hh.ob
    refine x_callV B hT htb (c_X5_keep l hst G A q ta N th as y (.inl (putF u v)) (fun z h9 => nomatch h9)) cy_X5_keep im_X5_keep se_X5_keep wd_M_X5_48 rfl ho (hA_up hA (eH6).1) ⟨hh, hy⟩ (eH6) rfl hl.1 rfl (Nat.le_of_ble_eq_true rfl) ⟨by decide, by decide⟩ ⟨by decide, by decide⟩ dX5_put_48 (fun _ h => nomatch h) (fun _ h => h) ⟨by decide, by decide⟩ (fun E h => ⟨3, by rw [h.1]; decide, fun t => Or.inr ⟨i, j, hi, hj, ei, ej, Or.inr ⟨u, v, ti, tj, Or.inr ⟨hd3, Or.inl ⟨rfl, h.2⟩⟩⟩⟩⟩) (fun v H7 L hL hM hv => ?_)
    obtain ⟨rfl, hN8, htg, hh2⟩ := hv
    exact x_iret B dX5_put_51 (((eH6).mv _).trans hM) ⟨rfl, (.inl (putF u v)), Or.inr ⟨i, j, hi, hj, ei, ej, Or.inr ⟨u, v, ti, tj, Or.inr ⟨hd3, Or.inr ⟨rfl, hN8, htg, rfl⟩⟩⟩⟩, hh2⟩ (fun z hz => hL z hz) (Nat.le_of_ble_eq_true rfl) (Nat.le_of_ble_eq_true rfl)
  · obtain ⟨d, hd4, hdu, ep⟩ := dgN hm1
    have hbd := hb d hd4 hdu hd3
    refine z_callV B (c_X0_withInside l G A x1 x2 u v d hdu hd4 hbd) cy_X0_withInside im_X0_withInside se_X0_withInside wd_M_X5_102 rfl ho1 (hA_up hA (eH5).1) ⟨fx1, fx2⟩ rfl hl.1 rfl (Nat.le_of_ble_eq_true rfl) ⟨by decide, by decide⟩ ⟨by decide, by decide⟩ dX5_put_45 (fun v H6 hE hv => ?_)
    obtain ⟨y, rfl, hy⟩ := hv
    have eH6 := (eH5).trans hE
    have hx1 := hx1.mv (hE.mv A)
    have hx2 := hx2.mv (hE.mv A)
    have fx1 := fx1.mv (hE.mv A)
    have fx2 := fx2.mv (hE.mv A)
    have hh := hh.ex hE
    have ep2 : putF u v = hor u v d d := by rw [ep]
    rw [← ep2] at hy
    obtain ⟨fs9, ho⟩ := hh.ob
    refine x_callV B hT htb (c_X5_keep l hst G A q ta N th as y (.inl (putF u v)) (fun z h9 => nomatch h9)) cy_X5_keep im_X5_keep se_X5_keep wd_M_X5_48 rfl ho (hA_up hA (eH6).1) ⟨hh, hy⟩ (eH6) rfl hl.1 rfl (Nat.le_of_ble_eq_true rfl) ⟨by decide, by decide⟩ ⟨by decide, by decide⟩ dX5_put_48 (fun _ h => nomatch h) (fun _ h => h) ⟨by decide, by decide⟩ (fun E h => ⟨3, by rw [h.1]; decide, fun t => Or.inr ⟨i, j, hi, hj, ei, ej, Or.inr ⟨u, v, ti, tj, Or.inr ⟨hd3, Or.inl ⟨rfl, h.2⟩⟩⟩⟩⟩) (fun v H7 L hL hM hv => ?_)
    obtain ⟨rfl, hN8, htg, hh2⟩ := hv
    exact x_iret B dX5_put_51 (((eH6).mv _).trans hM) ⟨rfl, (.inl (putF u v)), Or.inr ⟨i, j, hi, hj, ei, ej, Or.inr ⟨u, v, ti, tj, Or.inr ⟨hd3, Or.inr ⟨rfl, hN8, htg, rfl⟩⟩⟩⟩, hh2⟩ (fun z hz => hL z hz) (Nat.le_of_ble_eq_true rfl) (Nat.le_of_ble_eq_true rfl)

theorem ov_bad {N : Nat} {a b : Th} {u : Nat → Rat} {t : Th} (ti : a = .inl u) (h : ¬ ∃ v, b = .inl v ∧ dgI v ≤ 0) : Fm2 (fun u v c t => (c = 2 ∧ ¬ dgI v ≤ 0) ∨ (dgI v ≤ 0 ∧ ((c = 3 ∧ v 0 = 0) ∨ (v 0 ≠ 0 ∧ Kp N 4 (.inl (fun k => u k * Rat.divInt (v 0).den (v 0).num)) c t)))) a b 2 t := by
  cases b with
  | inl v => exact Or.inr ⟨u, v, ti, rfl, Or.inl ⟨rfl, fun h9 => h ⟨v, rfl, h9⟩⟩⟩
  | inr z => exact Or.inl ⟨rfl, fun h9 => by obtain ⟨-, v, e⟩ := h9; exact nomatch e⟩
theorem sm_inv {r : Rat} (h : Sm r) (h0 : r ≠ 0) : Sm (Rat.divInt r.den r.num) := by
  have hn : r.num ≠ 0 := fun e => h0 (Rat.num_eq_zero.mp e)
  have e : Rat.divInt (r.den : Int) r.num = r⁻¹ := (Rat.inv_def r).symm
  rw [e]
  refine ⟨?_, ?_⟩
  · rw [Rat.num_inv, Int.natAbs_mul, Int.natAbs_natCast]
    have h1 : r.num.sign.natAbs = 1 := Int.natAbs_sign_of_ne_zero hn
    rw [h1, Nat.one_mul]
    exact h.2
  · rw [Rat.den_inv, if_neg hn]
    exact h.1

def po_X5_over (G : Gm) (A : Nat → Prop) (q ta N : Nat) (th : Nat → Th) (as : St3) (f0 g0 : Int32) : Option Value → Heap → Prop := fun v H => v = some (.int (nI N)) ∧ ∃ t, R_over N th f0 g0 0 t ∧ House G A H q ta (N + 1) (upT th N t) as
def px_X5_over (q ta N : Nat) (th : Nat → Th) (as : St3) (f0 g0 : Int32) : String → Prop := fun E => ∃ c, (E, c) ∈ X1234 ∧ ∀ t, R_over N th f0 g0 c t
theorem bkX5_over_0_2 : pb_chk cX5_over 0 [.aload_n 0, .iload_n 1] = some 2 := by decide +kernel
theorem dX5_over_2 : decode cX5_over 2 = .ok (.invokevirtual 59, 3) := by decide +kernel
theorem bkX5_over_5_8 : pb_chk cX5_over 5 [.astore_n 3, .aload_n 0, .iload_n 2] = some 8 := by decide +kernel
theorem dX5_over_8 : decode cX5_over 8 = .ok (.invokevirtual 59, 3) := by decide +kernel
theorem bkX5_over_11_14 : pb_chk cX5_over 11 [.astore 4, .aload_n 3] = some 14 := by decide +kernel
theorem dX5_over_14 : decode cX5_over 14 = .ok (.invokestatic 63, 3) := by decide +kernel
theorem bkX5_over_17_21 : pb_chk cX5_over 17 [.astore 5, .aload 4] = some 21 := by decide +kernel
theorem dX5_over_21 : decode cX5_over 21 = .ok (.invokestatic 86, 3) := by decide +kernel
theorem bkX5_over_24_28 : pb_chk cX5_over 24 [.astore 6, .aload 6] = some 28 := by decide +kernel
theorem dX5_over_28 : decode cX5_over 28 = .ok (.getfield 90, 3) := by decide +kernel
theorem bkX5_over_31_33 : pb_chk cX5_over 31 [.lconst 0, .lcmp] = some 33 := by decide +kernel
theorem dX5_over_33 : decode cX5_over 33 = .ok (.ifCond .ne 13, 3) := by decide +kernel
theorem bkX5_over_46_51 : pb_chk cX5_over 46 [.aload_n 0, .aload 5, .aload 6] = some 51 := by decide +kernel
theorem dX5_over_51 : decode cX5_over 51 = .ok (.getfield 96, 3) := by decide +kernel
theorem bkX5_over_54_56 : pb_chk cX5_over 54 [.aload 6] = some 56 := by decide +kernel
theorem dX5_over_56 : decode cX5_over 56 = .ok (.getfield 90, 3) := by decide +kernel
theorem dX5_over_59 : decode cX5_over 59 = .ok (.invokestatic 36, 3) := by decide +kernel
theorem dX5_over_62 : decode cX5_over 62 = .ok (.invokevirtual 73, 3) := by decide +kernel
theorem dX5_over_65 : decode cX5_over 65 = .ok (.invokevirtual 48, 3) := by decide +kernel
theorem dX5_over_68 : decode cX5_over 68 = .ok (.ireturn, 1) := by decide +kernel
theorem dX5_over_36 : decode cX5_over 36 = .ok (.new 29, 3) := by decide +kernel
theorem dX5_over_39 : decode cX5_over 39 = .ok (.dup, 1) := by decide +kernel
theorem dX5_over_40 : decode cX5_over 40 = .ok (.ldc 94, 2) := by decide +kernel
theorem dX5_over_42 : decode cX5_over 42 = .ok (.invokespecial 33, 3) := by decide +kernel
theorem dX5_over_45 : decode cX5_over 45 = .ok (.athrow, 1) := by decide +kernel
set_option maxHeartbeats 4000000 in
set_option maxRecDepth 100000 in
theorem c_X5_over (l : Launch) (hst : l.stackTraces = false) (G : Gm) (A : Nat → Prop) (q ta N : Nat) (th : Nat → Th) (as : St3) (f0 g0 : Int32) (hB : Bds N th as) : Mx l yX5_over cX5_over 7 (some .int) (⟨8, 300, 10000, 160⟩ : Room) G A (F2 q ta) [.ref q, .int f0, .int g0] (fun H => House G A H q ta N th as) (po_X5_over G A q ta N th as f0 g0) (px_X5_over q ta N th as f0 g0) := by
  refine of_metX (by decide) (Nat.le_of_ble_eq_true rfl) ?_
  intro p e s m below meth c ls B hT htb hA hh hl
  obtain ⟨fs9, ho⟩ := hh.ob
  refine pb_blk B.hx B.hb (lv' := [(0, .ref q), (1, .int f0), (2, .int g0)]) (st' := [.int f0, .ref q]) hl bkX5_over_0_2 rfl (fun ls hl => ?_)
  refine x_callV0 B hT htb (c_X5_found l hst G A q ta N th as f0) cy_X5_found im_X5_found se_X5_found wd_M_X5_59 rfl ho (hA_up hA (Ex.rf).1) hh (Ex.rf) rfl hl.1 rfl (Nat.le_of_ble_eq_true rfl) ⟨by decide, by decide⟩ ⟨by decide, by decide⟩ dX5_over_2 (fun _ h => nomatch h) ⟨by decide, by decide⟩ (fun E h => ⟨1, by rw [h.1]; decide, fun t => Or.inl ⟨rfl, fun h9 => h.2 h9.1⟩⟩) (fun v H1 hE hv => ?_)
  obtain ⟨i, x1, hi, ei, rfl, hx1⟩ := hv
  have eH1 := (Ex.rf).trans hE
  have hh := hh.ex hE
  obtain ⟨fs9, ho⟩ := hh.ob
  refine pb_blk B.hx B.hb (lv' := [(3, .ref x1), (0, .ref q), (1, .int f0), (2, .int g0)]) (st' := [.int g0, .ref q]) hl bkX5_over_5_8 rfl (fun ls hl => ?_)
  refine x_callV0 B hT htb (c_X5_found l hst G A q ta N th as g0) cy_X5_found im_X5_found se_X5_found wd_M_X5_59 rfl ho (hA_up hA (eH1).1) hh (eH1) rfl hl.1 rfl (Nat.le_of_ble_eq_true rfl) ⟨by decide, by decide⟩ ⟨by decide, by decide⟩ dX5_over_8 (fun _ h => nomatch h) ⟨by decide, by decide⟩ (fun E h => ⟨1, by rw [h.1]; decide, fun t => Or.inl ⟨rfl, fun h9 => h.2 h9.2⟩⟩) (fun v H2 hE hv => ?_)
  obtain ⟨j, x2, hj, ej, rfl, hx2⟩ := hv
  have eH2 := (eH1).trans hE
  have hx1 := hx1.mv (hE.mv A)
  have hh := hh.ex hE
  refine pb_blk B.hx B.hb (lv' := [(4, .ref x2), (3, .ref x1), (0, .ref q), (1, .int f0), (2, .int g0)]) (st' := [.ref x1]) hl bkX5_over_11_14 rfl (fun ls hl => ?_)
  refine x_callS0 B hT htb (c_X5_asFormula l hst G A x1 (th i)) cy_X5_asFormula st_X5_asFormula wd_M_X5_63 (hA_up hA (eH2).1) hx1 (eH2) rfl hl.1 rfl (Nat.le_of_ble_eq_true rfl) ⟨by decide, by decide⟩ ⟨by decide, by decide⟩ dX5_over_14 (fun _ h => nomatch h) ⟨by decide, by decide⟩ (fun E h => ⟨2, by rw [h.1]; decide, fun t => Or.inr ⟨i, j, hi, hj, ei, ej, Or.inl ⟨rfl, fun h9 => h.2 h9.1⟩⟩⟩) (fun v H3 hE hv => ?_)
  obtain ⟨rfl, u, ti⟩ := hv
  have eH3 := (eH2).trans hE
  have hx1 := hx1.mv (hE.mv A)
  have hx2 := hx2.mv (hE.mv A)
  have hh := hh.ex hE
  have fx1 : Fo G A H3 x1 u := by rw [ti] at hx1; exact hx1
  refine pb_blk B.hx B.hb (lv' := [(5, .ref x1), (4, .ref x2), (3, .ref x1), (0, .ref q), (1, .int f0), (2, .int g0)]) (st' := [.ref x2]) hl bkX5_over_17_21 rfl (fun ls hl => ?_)
  refine x_callS0 B hT htb (c_X5_asNumber l hst G A x2 (th j)) cy_X5_asNumber st_X5_asNumber wd_M_X5_86 (hA_up hA (eH3).1) hx2 (eH3) rfl hl.1 rfl (Nat.le_of_ble_eq_true rfl) ⟨by decide, by decide⟩ ⟨by decide, by decide⟩ dX5_over_21 (fun _ h => nomatch h) ⟨by decide, by decide⟩ (fun E h => ⟨2, by rw [h.1]; decide, fun t => Or.inr ⟨i, j, hi, hj, ei, ej, ov_bad ti h.2⟩⟩) (fun v H4 hE hv => ?_)
  obtain ⟨v, y0, tj, hdv, rfl, hy0⟩ := hv
  have eH4 := (eH3).trans hE
  have hx1 := hx1.mv (hE.mv A)
  have hx2 := hx2.mv (hE.mv A)
  have fx1 := fx1.mv (hE.mv A)
  have hh := hh.ex hE
  obtain ⟨n0, d0, o0, fx0⟩ := id hy0
  have hs := hB.1 j hj v tj
  have hsu := hB.1 i hi u ti
  have b0 := sm_nat fx0 (hs 0 (by decide))
  refine pb_blk B.hx B.hb (lv' := [(6, .ref y0), (5, .ref x1), (4, .ref x2), (3, .ref x1), (0, .ref q), (1, .int f0), (2, .int g0)]) (st' := [.ref y0]) hl bkX5_over_24_28 rfl (fun ls hl => ?_)
  refine z_get B ciX1 0 (by decide) o0 wd_F_X5_90 rfl dX5_over_28 ?_
  refine pb_blk B.hx B.hb (lv' := [(6, .ref y0), (5, .ref x1), (4, .ref x2), (3, .ref x1), (0, .ref q), (1, .int f0), (2, .int g0)]) (st' := [.int (lg_cmp n0 0)]) hl bkX5_over_31_33 rfl (fun ls hl => ?_)
  refine lv_if_ne (tgt := 46) B.hx B.hb dX5_over_33 (by decide) (fun h1 => ?_) (fun h1 => ?_)
  · have hn0 : n0.toInt ≠ 0 := fun q => h1 ((lg_cmp_eq _ _).mpr (i64_eq q))
    have hv0 : v 0 ≠ 0 := fun q => hn0 (by rw [fx0.1, q]; rfl)
    refine pb_blk B.hx B.hb (lv' := [(6, .ref y0), (5, .ref x1), (4, .ref x2), (3, .ref x1), (0, .ref q), (1, .int f0), (2, .int g0)]) (st' := [.ref y0, .ref x1, .ref q]) hl bkX5_over_46_51 rfl (fun ls hl => ?_)
    refine z_get B ciX1 1 (by decide) o0 wd_F_X5_96 rfl dX5_over_51 ?_
    refine pb_blk B.hx B.hb (lv' := [(6, .ref y0), (5, .ref x1), (4, .ref x2), (3, .ref x1), (0, .ref q), (1, .int f0), (2, .int g0)]) (st' := [.ref y0, .long d0, .ref x1, .ref q]) hl bkX5_over_54_56 rfl (fun ls hl => ?_)
    refine z_get B ciX1 0 (by decide) o0 wd_F_X5_90 rfl dX5_over_56 ?_
    refine z_callS B (c_X1_of l G A d0 n0 (by omega) hn0 (by omega)) cy_X1_of st_X1_of wd_M_X5_36 (hA_up hA (eH4).1) trivial rfl hl.1 rfl (Nat.le_of_ble_eq_true rfl) ⟨by decide, by decide⟩ ⟨by decide, by decide⟩ dX5_over_59 (fun v H5 hE hv => ?_)
    obtain ⟨y1, rfl, hy1⟩ := hv; rw [fx0.1, fx0.2] at hy1
    have eH5 := (eH4).trans hE
    have hx1 := hx1.mv (hE.mv A)
    have hx2 := hx2.mv (hE.mv A)
    have fx1 := fx1.mv (hE.mv A)
    have hy0 := hy0.mv (hE.mv A)
    have hh := hh.ex hE
    obtain ⟨fs1, ho1⟩ := fx1.ob
    refine z_callV B (c_X0_scaled l G A x1 y1 u (Rat.divInt (v 0).den (v 0).num) (fun k hk => Sm.mul (hsu k hk) (sm_inv (hs 0 (by decide)) hv0))) cy_X0_scaled im_X0_scaled se_X0_scaled wd_M_X5_73 rfl ho1 (hA_up hA (eH5).1) ⟨fx1, hy1⟩ rfl hl.1 rfl (Nat.le_of_ble_eq_true rfl) ⟨by decide, by decide⟩ ⟨by decide, by decide⟩ dX5_over_62 (fun v H6 hE hv => ?_)
    obtain ⟨y, rfl, hy⟩ := hv
    have eH6 := (eH5).trans hE
    have hx1 := hx1.mv (hE.mv A)
    have hx2 := hx2.mv (hE.mv A)
    have fx1 := fx1.mv (hE.mv A)
    have hy0 := hy0.mv (hE.mv A)
    have hy1 := hy1.mv (hE.mv A)
    have hh := hh.ex hE
    obtain ⟨fs9, ho⟩ := hh.ob
    refine x_callV B hT htb (c_X5_keep l hst G A q ta N th as y (.inl (fun k => u k * Rat.divInt (v 0).den (v 0).num)) (fun z h9 => nomatch h9)) cy_X5_keep im_X5_keep se_X5_keep wd_M_X5_48 rfl ho (hA_up hA (eH6).1) ⟨hh, hy⟩ (eH6) rfl hl.1 rfl (Nat.le_of_ble_eq_true rfl) ⟨by decide, by decide⟩ ⟨by decide, by decide⟩ dX5_over_65 (fun _ h => nomatch h) (fun _ h => h) ⟨by decide, by decide⟩ (fun E h => ⟨4, by rw [h.1]; decide, fun t => Or.inr ⟨i, j, hi, hj, ei, ej, Or.inr ⟨u, v, ti, tj, Or.inr ⟨hdv, Or.inr ⟨hv0, Or.inl ⟨rfl, h.2⟩⟩⟩⟩⟩⟩) (fun v H7 L hL hM hv => ?_)
    obtain ⟨rfl, hN8, htg, hh2⟩ := hv
    exact x_iret B dX5_over_68 (((eH6).mv _).trans hM) ⟨rfl, (.inl (fun k => u k * Rat.divInt (v 0).den (v 0).num)), Or.inr ⟨i, j, hi, hj, ei, ej, Or.inr ⟨u, v, ti, tj, Or.inr ⟨hdv, Or.inr ⟨hv0, Or.inr ⟨rfl, hN8, htg, rfl⟩⟩⟩⟩⟩, hh2⟩ (fun z hz => hL z hz) (Nat.le_of_ble_eq_true rfl) (Nat.le_of_ble_eq_true rfl)
  · have hn0 : n0 = 0 := (lg_cmp_eq _ _).mp h1
    have hv0 : v 0 = 0 := Rat.num_eq_zero.mp (by rw [← fx0.1, hn0]; rfl)
    exact x_throw B hst hT htb ts_X5_94 (eH4) hl.1 dX5_over_36 dX5_over_39 dX5_over_40 dX5_over_42 dX5_over_45 ⟨by decide, by decide⟩ ⟨by decide, by decide⟩ (⟨3, by decide, fun t => Or.inr ⟨i, j, hi, hj, ei, ej, Or.inr ⟨u, v, ti, tj, Or.inr ⟨hdv, Or.inl ⟨rfl, hv0⟩⟩⟩⟩⟩) ⟨by decide, by decide⟩

def po_X5_number (G : Gm) (A : Nat → Prop) (q ta N : Nat) (th : Nat → Th) (as : St3) (f0 g0 : Int32) : Option Value → Heap → Prop := fun v H => v = some (.int (nI N)) ∧ ∃ t, R_number N f0 g0 0 t ∧ House G A H q ta (N + 1) (upT th N t) as
def px_X5_number (q ta N : Nat) (th : Nat → Th) (as : St3) (f0 g0 : Int32) : String → Prop := fun E => ∃ c, (E, c) ∈ XN ∧ ∀ t, R_number N f0 g0 c t
theorem bkX5_number_0_1 : pb_chk cX5_number 0 [.iload_n 2] = some 1 := by decide +kernel
theorem dX5_number_1 : decode cX5_number 1 = .ok (.ifCond .ne 13, 3) := by decide +kernel
theorem bkX5_number_14_19 : pb_chk cX5_number 14 [.aload_n 0, .iload_n 1, .i2l, .iload_n 2, .i2l] = some 19 := by decide +kernel
theorem dX5_number_19 : decode cX5_number 19 = .ok (.invokestatic 36, 3) := by decide +kernel
theorem dX5_number_22 : decode cX5_number 22 = .ok (.invokestatic 42, 3) := by decide +kernel
theorem dX5_number_25 : decode cX5_number 25 = .ok (.invokevirtual 48, 3) := by decide +kernel
theorem dX5_number_28 : decode cX5_number 28 = .ok (.ireturn, 1) := by decide +kernel
theorem dX5_number_4 : decode cX5_number 4 = .ok (.new 29, 3) := by decide +kernel
theorem dX5_number_7 : decode cX5_number 7 = .ok (.dup, 1) := by decide +kernel
theorem dX5_number_8 : decode cX5_number 8 = .ok (.ldc 31, 2) := by decide +kernel
theorem dX5_number_10 : decode cX5_number 10 = .ok (.invokespecial 33, 3) := by decide +kernel
theorem dX5_number_13 : decode cX5_number 13 = .ok (.athrow, 1) := by decide +kernel
set_option maxHeartbeats 4000000 in
set_option maxRecDepth 100000 in
theorem c_X5_number (l : Launch) (hst : l.stackTraces = false) (G : Gm) (A : Nat → Prop) (q ta N : Nat) (th : Nat → Th) (as : St3) (f0 g0 : Int32) (hB : Bds N th as) : Mx l yX5_number cX5_number 3 (some .int) (⟨8, 300, 10000, 160⟩ : Room) G A (F2 q ta) [.ref q, .int f0, .int g0] (fun H => House G A H q ta N th as) (po_X5_number G A q ta N th as f0 g0) (px_X5_number q ta N th as f0 g0) := by
  refine of_metX (by decide) (Nat.le_of_ble_eq_true rfl) ?_
  intro p e s m below meth c ls B hT htb hA hh hl
  refine pb_blk B.hx B.hb (lv' := [(0, .ref q), (1, .int f0), (2, .int g0)]) (st' := [.int g0]) hl bkX5_number_0_1 rfl (fun ls hl => ?_)
  refine lv_if_ne (tgt := 14) B.hx B.hb dX5_number_1 (by decide) (fun h1 => ?_) (fun h1 => ?_)
  · have hq : g0.toInt64.toInt ≠ 0 := by rw [Int32.toInt_toInt64]; exact fun q => h1 (Int32.toInt_inj.mp q)
    have r1 := Int32.toInt_toInt64 f0
    have r2 := Int32.toInt_toInt64 g0
    have b1 := f0.le_toInt
    have b2 := f0.toInt_lt
    have b3 := g0.le_toInt
    have b4 := g0.toInt_lt
    refine pb_blk B.hx B.hb (lv' := [(0, .ref q), (1, .int f0), (2, .int g0)]) (st' := [.long g0.toInt64, .long f0.toInt64, .ref q]) hl bkX5_number_14_19 rfl (fun ls hl => ?_)
    refine z_callS B (c_X1_of l G A f0.toInt64 g0.toInt64 (by omega) hq (by omega)) cy_X1_of st_X1_of wd_M_X5_36 (hA_up hA (Ex.rf).1) trivial rfl hl.1 rfl (Nat.le_of_ble_eq_true rfl) ⟨by decide, by decide⟩ ⟨by decide, by decide⟩ dX5_number_19 (fun v H1 hE hv => ?_)
    obtain ⟨y1, rfl, hy1⟩ := hv; rw [r1, r2] at hy1
    have eH1 := (Ex.rf).trans hE
    have hh := hh.ex hE
    refine z_callS B (c_X0_constant l G A y1 (Rat.divInt f0.toInt g0.toInt)) cy_X0_constant st_X0_constant wd_M_X5_42 (hA_up hA (eH1).1) hy1 rfl hl.1 rfl (Nat.le_of_ble_eq_true rfl) ⟨by decide, by decide⟩ ⟨by decide, by decide⟩ dX5_number_22 (fun v H2 hE hv => ?_)
    obtain ⟨y, rfl, hy⟩ := hv
    have eH2 := (eH1).trans hE
    have hy1 := hy1.mv (hE.mv A)
    have hh := hh.ex hE
    obtain ⟨fs9, ho⟩ := hh.ob
    refine x_callV B hT htb (c_X5_keep l hst G A q ta N th as y (.inl (cst (Rat.divInt f0.toInt g0.toInt))) (fun z h9 => nomatch h9)) cy_X5_keep im_X5_keep se_X5_keep wd_M_X5_48 rfl ho (hA_up hA (eH2).1) ⟨hh, hy⟩ (eH2) rfl hl.1 rfl (Nat.le_of_ble_eq_true rfl) ⟨by decide, by decide⟩ ⟨by decide, by decide⟩ dX5_number_25 (fun _ h => nomatch h) (fun _ h => h) ⟨by decide, by decide⟩ (fun E h => ⟨2, by rw [h.1]; decide, fun t => Or.inr ⟨h1, Or.inl ⟨rfl, h.2⟩⟩⟩) (fun v H3 L hL hM hv => ?_)
    obtain ⟨rfl, hN8, htg, hh2⟩ := hv
    exact x_iret B dX5_number_28 (((eH2).mv _).trans hM) ⟨rfl, (.inl (cst (Rat.divInt f0.toInt g0.toInt))), Or.inr ⟨h1, Or.inr ⟨rfl, hN8, htg, rfl⟩⟩, hh2⟩ (fun z hz => hL z hz) (Nat.le_of_ble_eq_true rfl) (Nat.le_of_ble_eq_true rfl)
  · exact x_throw B hst hT htb ts_X5_31 (Ex.rf) hl.1 dX5_number_4 dX5_number_7 dX5_number_8 dX5_number_10 dX5_number_13 ⟨by decide, by decide⟩ ⟨by decide, by decide⟩ (⟨1, by decide, fun t => Or.inl ⟨rfl, h1⟩⟩) ⟨by decide, by decide⟩

theorem cst_sm {r : Rat} (h : Sm r) (k : Nat) : Sm (cst r k) := by
  unfold cst
  split
  · exact h
  · exact Sm.zero

def po_X5_letter (G : Gm) (A : Nat → Prop) (q ta N : Nat) (th : Nat → Th) (as : St3) : Option Value → Heap → Prop := fun v H => v = some (.int (nI N)) ∧ ∃ t, R_letter N 0 t ∧ House G A H q ta (N + 1) (upT th N t) as
def px_X5_letter (q ta N : Nat) (th : Nat → Th) (as : St3) : String → Prop := fun E => ∃ c, (E, c) ∈ XL ∧ ∀ t, R_letter N c t
theorem bkX5_letter_0_1 : pb_chk cX5_letter 0 [.aload_n 0] = some 1 := by decide +kernel
theorem dX5_letter_1 : decode cX5_letter 1 = .ok (.new 37, 3) := by decide +kernel
theorem bkX5_letter_4_7 : pb_chk cX5_letter 4 [.dup, .lconst 1, .lconst 1] = some 7 := by decide +kernel
theorem dX5_letter_7 : decode cX5_letter 7 = .ok (.invokespecial 52, 3) := by decide +kernel
theorem dX5_letter_10 : decode cX5_letter 10 = .ok (.invokestatic 42, 3) := by decide +kernel
theorem dX5_letter_13 : decode cX5_letter 13 = .ok (.invokevirtual 55, 3) := by decide +kernel
theorem dX5_letter_16 : decode cX5_letter 16 = .ok (.invokevirtual 48, 3) := by decide +kernel
theorem dX5_letter_19 : decode cX5_letter 19 = .ok (.ireturn, 1) := by decide +kernel
set_option maxHeartbeats 4000000 in
set_option maxRecDepth 100000 in
theorem c_X5_letter (l : Launch) (hst : l.stackTraces = false) (G : Gm) (A : Nat → Prop) (q ta N : Nat) (th : Nat → Th) (as : St3) (hB : Bds N th as) : Mx l yX5_letter cX5_letter 1 (some .int) (⟨8, 300, 10000, 160⟩ : Room) G A (F2 q ta) [.ref q] (fun H => House G A H q ta N th as) (po_X5_letter G A q ta N th as) (px_X5_letter q ta N th as) := by
  refine of_metX (by decide) (Nat.le_of_ble_eq_true rfl) ?_
  intro p e s m below meth c ls B hT htb hA hh hl
  refine pb_blk B.hx B.hb (lv' := [(0, .ref q)]) (st' := [.ref q]) hl bkX5_letter_0_1 rfl (fun ls hl => ?_)
  refine z_new B ciX1 wd_C_X5_37 hfs_X1 (Nat.le_of_ble_eq_true rfl) (Nat.le_of_ble_eq_true rfl) dX5_letter_1 (fun K1 ob1 z1 o1 => ?_)
  refine pb_blk B.hx B.hb (lv' := [(0, .ref q)]) (st' := [.long 1, .long 1, .ref s.heap.size, .ref s.heap.size, .ref q]) hl bkX5_letter_4_7 rfl (fun ls hl => ?_)
  refine z_ctor B (c_X1_init l G A s.heap.size 1 1 0 0) cy_X1_init im_X1_init rfl wd_M_X5_52 (Nat.le_refl _) (hA_up hA (by omega)) ob1 rfl hl.1 rfl (Nat.le_of_ble_eq_true rfl) ⟨by decide, by decide⟩ ⟨by decide, by decide⟩ dX5_letter_7 (fun K2 z2 o2 ob2 => ?_)
  have hE := Ex.new z1 o1 z2 o2
  have hm : Fr G A K2 s.heap.size 1 := ⟨1, 1, ⟨hA_no hA (Nat.le_refl _), ob2⟩, rfl, rfl⟩
  have eK2 := (Ex.rf).trans hE
  have hh := hh.ex hE
  refine z_callS B (c_X0_constant l G A s.heap.size 1) cy_X0_constant st_X0_constant wd_M_X5_42 (hA_up hA (eK2).1) hm rfl hl.1 rfl (Nat.le_of_ble_eq_true rfl) ⟨by decide, by decide⟩ ⟨by decide, by decide⟩ dX5_letter_10 (fun v H1 hE hv => ?_)
  obtain ⟨y1, rfl, hy1⟩ := hv
  have eH1 := (eK2).trans hE
  have hm := hm.mv (hE.mv A)
  have hh := hh.ex hE
  obtain ⟨fs1, ho1⟩ := hy1.ob
  refine z_callV B (c_X0_antiSlope l G A y1 (cst 1) (fun k hk => cst_sm ⟨by decide, by decide⟩ k)) cy_X0_antiSlope im_X0_antiSlope se_X0_antiSlope wd_M_X5_55 rfl ho1 (hA_up hA (eH1).1) hy1 rfl hl.1 rfl (Nat.le_of_ble_eq_true rfl) ⟨by decide, by decide⟩ ⟨by decide, by decide⟩ dX5_letter_13 (fun v H2 hE hv => ?_)
  obtain ⟨y, rfl, hy⟩ := hv
  have eH2 := (eH1).trans hE
  have hm := hm.mv (hE.mv A)
  have hy1 := hy1.mv (hE.mv A)
  have hh := hh.ex hE
  obtain ⟨fs9, ho⟩ := hh.ob
  refine x_callV B hT htb (c_X5_keep l hst G A q ta N th as y (.inl (asl (cst 1) 4)) (fun z h9 => nomatch h9)) cy_X5_keep im_X5_keep se_X5_keep wd_M_X5_48 rfl ho (hA_up hA (eH2).1) ⟨hh, hy⟩ (eH2) rfl hl.1 rfl (Nat.le_of_ble_eq_true rfl) ⟨by decide, by decide⟩ ⟨by decide, by decide⟩ dX5_letter_16 (fun _ h => nomatch h) (fun _ h => h) ⟨by decide, by decide⟩ (fun E h => ⟨1, by rw [h.1]; decide, fun t => Or.inl ⟨rfl, h.2⟩⟩) (fun v H3 L hL hM hv => ?_)
  obtain ⟨rfl, hN8, htg, hh2⟩ := hv
  exact x_iret B dX5_letter_19 (((eH2).mv _).trans hM) ⟨rfl, (.inl (asl (cst 1) 4)), Or.inr ⟨rfl, hN8, htg, rfl⟩, hh2⟩ (fun z hz => hL z hz) (Nat.le_of_ble_eq_true rfl) (Nat.le_of_ble_eq_true rfl)

def po_X5_derive (G : Gm) (A : Nat → Prop) (q ta N : Nat) (th : Nat → Th) (as : St3) (f0 : Int32) : Option Value → Heap → Prop := fun v H => v = some (.int (nI N)) ∧ ∃ t, R_derive N th f0 0 t ∧ House G A H q ta (N + 1) (upT th N t) as
def px_X5_derive (q ta N : Nat) (th : Nat → Th) (as : St3) (f0 : Int32) : String → Prop := fun E => ∃ c, (E, c) ∈ X123 ∧ ∀ t, R_derive N th f0 c t
theorem bkX5_derive_0_3 : pb_chk cX5_derive 0 [.aload_n 0, .aload_n 0, .iload_n 1] = some 3 := by decide +kernel
theorem dX5_derive_3 : decode cX5_derive 3 = .ok (.invokevirtual 59, 3) := by decide +kernel
theorem dX5_derive_6 : decode cX5_derive 6 = .ok (.invokestatic 63, 3) := by decide +kernel
theorem dX5_derive_9 : decode cX5_derive 9 = .ok (.invokevirtual 99, 3) := by decide +kernel
theorem dX5_derive_12 : decode cX5_derive 12 = .ok (.invokevirtual 48, 3) := by decide +kernel
theorem dX5_derive_15 : decode cX5_derive 15 = .ok (.ireturn, 1) := by decide +kernel
set_option maxHeartbeats 4000000 in
set_option maxRecDepth 100000 in
theorem c_X5_derive (l : Launch) (hst : l.stackTraces = false) (G : Gm) (A : Nat → Prop) (q ta N : Nat) (th : Nat → Th) (as : St3) (f0 : Int32) (hB : Bds N th as) : Mx l yX5_derive cX5_derive 2 (some .int) (⟨8, 300, 10000, 160⟩ : Room) G A (F2 q ta) [.ref q, .int f0] (fun H => House G A H q ta N th as) (po_X5_derive G A q ta N th as f0) (px_X5_derive q ta N th as f0) := by
  refine of_metX (by decide) (Nat.le_of_ble_eq_true rfl) ?_
  intro p e s m below meth c ls B hT htb hA hh hl
  obtain ⟨fs9, ho⟩ := hh.ob
  refine pb_blk B.hx B.hb (lv' := [(0, .ref q), (1, .int f0)]) (st' := [.int f0, .ref q, .ref q]) hl bkX5_derive_0_3 rfl (fun ls hl => ?_)
  refine x_callV0 B hT htb (c_X5_found l hst G A q ta N th as f0) cy_X5_found im_X5_found se_X5_found wd_M_X5_59 rfl ho (hA_up hA (Ex.rf).1) hh (Ex.rf) rfl hl.1 rfl (Nat.le_of_ble_eq_true rfl) ⟨by decide, by decide⟩ ⟨by decide, by decide⟩ dX5_derive_3 (fun _ h => nomatch h) ⟨by decide, by decide⟩ (fun E h => ⟨1, by rw [h.1]; decide, fun t => Or.inl ⟨rfl, h.2⟩⟩) (fun v H1 hE hv => ?_)
  obtain ⟨i, x1, hi, ei, rfl, hx1⟩ := hv
  have eH1 := (Ex.rf).trans hE
  have hh := hh.ex hE
  refine x_callS0 B hT htb (c_X5_asFormula l hst G A x1 (th i)) cy_X5_asFormula st_X5_asFormula wd_M_X5_63 (hA_up hA (eH1).1) hx1 (eH1) rfl hl.1 rfl (Nat.le_of_ble_eq_true rfl) ⟨by decide, by decide⟩ ⟨by decide, by decide⟩ dX5_derive_6 (fun _ h => nomatch h) ⟨by decide, by decide⟩ (fun E h => ⟨2, by rw [h.1]; decide, fun t => Or.inr ⟨i, hi, ei, Or.inl ⟨rfl, h.2⟩⟩⟩) (fun v H2 hE hv => ?_)
  obtain ⟨rfl, u, ti⟩ := hv
  have eH2 := (eH1).trans hE
  have hx1 := hx1.mv (hE.mv A)
  have hh := hh.ex hE
  have fx1 : Fo G A H2 x1 u := by rw [ti] at hx1; exact hx1
  have hsu := hB.1 i hi u ti
  obtain ⟨fs1, ho1⟩ := fx1.ob
  refine z_callV B (c_X0_slope l G A x1 u hsu) cy_X0_slope im_X0_slope se_X0_slope wd_M_X5_99 rfl ho1 (hA_up hA (eH2).1) fx1 rfl hl.1 rfl (Nat.le_of_ble_eq_true rfl) ⟨by decide, by decide⟩ ⟨by decide, by decide⟩ dX5_derive_9 (fun v H3 hE hv => ?_)
  obtain ⟨y, rfl, hy⟩ := hv
  have eH3 := (eH2).trans hE
  have hx1 := hx1.mv (hE.mv A)
  have fx1 := fx1.mv (hE.mv A)
  have hh := hh.ex hE
  obtain ⟨fs9, ho⟩ := hh.ob
  refine x_callV B hT htb (c_X5_keep l hst G A q ta N th as y (.inl (fun k => sel u (nI (k + 1)) * ((k + 1 : Nat) : Rat))) (fun z h9 => nomatch h9)) cy_X5_keep im_X5_keep se_X5_keep wd_M_X5_48 rfl ho (hA_up hA (eH3).1) ⟨hh, hy⟩ (eH3) rfl hl.1 rfl (Nat.le_of_ble_eq_true rfl) ⟨by decide, by decide⟩ ⟨by decide, by decide⟩ dX5_derive_12 (fun _ h => nomatch h) (fun _ h => h) ⟨by decide, by decide⟩ (fun E h => ⟨3, by rw [h.1]; decide, fun t => Or.inr ⟨i, hi, ei, Or.inr ⟨u, ti, Or.inl ⟨rfl, h.2⟩⟩⟩⟩) (fun v H4 L hL hM hv => ?_)
  obtain ⟨rfl, hN8, htg, hh2⟩ := hv
  exact x_iret B dX5_derive_15 (((eH3).mv _).trans hM) ⟨rfl, (.inl (fun k => sel u (nI (k + 1)) * ((k + 1 : Nat) : Rat))), Or.inr ⟨i, hi, ei, Or.inr ⟨u, ti, Or.inr ⟨rfl, hN8, htg, rfl⟩⟩⟩, hh2⟩ (fun z hz => hL z hz) (Nat.le_of_ble_eq_true rfl) (Nat.le_of_ble_eq_true rfl)

def po_X5_integral (G : Gm) (A : Nat → Prop) (q ta N : Nat) (th : Nat → Th) (as : St3) (f0 : Int32) : Option Value → Heap → Prop := fun v H => v = some (.int (nI N)) ∧ ∃ t, R_integral N th f0 0 t ∧ House G A H q ta (N + 1) (upT th N t) as
def px_X5_integral (q ta N : Nat) (th : Nat → Th) (as : St3) (f0 : Int32) : String → Prop := fun E => ∃ c, (E, c) ∈ X123 ∧ ∀ t, R_integral N th f0 c t
theorem bkX5_integral_0_2 : pb_chk cX5_integral 0 [.aload_n 0, .iload_n 1] = some 2 := by decide +kernel
theorem dX5_integral_2 : decode cX5_integral 2 = .ok (.invokevirtual 59, 3) := by decide +kernel
theorem dX5_integral_5 : decode cX5_integral 5 = .ok (.invokestatic 63, 3) := by decide +kernel
theorem bkX5_integral_8_10 : pb_chk cX5_integral 8 [.astore_n 2, .aload_n 2] = some 10 := by decide +kernel
theorem dX5_integral_10 : decode cX5_integral 10 = .ok (.getfield 76, 3) := by decide +kernel
theorem bkX5_integral_13_15 : pb_chk cX5_integral 13 [.iconst 1, .iadd] = some 15 := by decide +kernel
theorem dX5_integral_15 : decode cX5_integral 15 = .ok (.invokestatic 79, 3) := by decide +kernel
theorem bkX5_integral_18_20 : pb_chk cX5_integral 18 [.aload_n 0, .aload_n 2] = some 20 := by decide +kernel
theorem dX5_integral_20 : decode cX5_integral 20 = .ok (.invokevirtual 55, 3) := by decide +kernel
theorem dX5_integral_23 : decode cX5_integral 23 = .ok (.invokevirtual 48, 3) := by decide +kernel
theorem dX5_integral_26 : decode cX5_integral 26 = .ok (.ireturn, 1) := by decide +kernel
set_option maxHeartbeats 4000000 in
set_option maxRecDepth 100000 in
theorem c_X5_integral (l : Launch) (hst : l.stackTraces = false) (G : Gm) (A : Nat → Prop) (q ta N : Nat) (th : Nat → Th) (as : St3) (f0 : Int32) (hB : Bds N th as) : Mx l yX5_integral cX5_integral 3 (some .int) (⟨8, 300, 10000, 160⟩ : Room) G A (F2 q ta) [.ref q, .int f0] (fun H => House G A H q ta N th as) (po_X5_integral G A q ta N th as f0) (px_X5_integral q ta N th as f0) := by
  refine of_metX (by decide) (Nat.le_of_ble_eq_true rfl) ?_
  intro p e s m below meth c ls B hT htb hA hh hl
  obtain ⟨fs9, ho⟩ := hh.ob
  refine pb_blk B.hx B.hb (lv' := [(0, .ref q), (1, .int f0)]) (st' := [.int f0, .ref q]) hl bkX5_integral_0_2 rfl (fun ls hl => ?_)
  refine x_callV0 B hT htb (c_X5_found l hst G A q ta N th as f0) cy_X5_found im_X5_found se_X5_found wd_M_X5_59 rfl ho (hA_up hA (Ex.rf).1) hh (Ex.rf) rfl hl.1 rfl (Nat.le_of_ble_eq_true rfl) ⟨by decide, by decide⟩ ⟨by decide, by decide⟩ dX5_integral_2 (fun _ h => nomatch h) ⟨by decide, by decide⟩ (fun E h => ⟨1, by rw [h.1]; decide, fun t => Or.inl ⟨rfl, h.2⟩⟩) (fun v H1 hE hv => ?_)
  obtain ⟨i, x1, hi, ei, rfl, hx1⟩ := hv
  have eH1 := (Ex.rf).trans hE
  have hh := hh.ex hE
  refine x_callS0 B hT htb (c_X5_asFormula l hst G A x1 (th i)) cy_X5_asFormula st_X5_asFormula wd_M_X5_63 (hA_up hA (eH1).1) hx1 (eH1) rfl hl.1 rfl (Nat.le_of_ble_eq_true rfl) ⟨by decide, by decide⟩ ⟨by decide, by decide⟩ dX5_integral_5 (fun _ h => nomatch h) ⟨by decide, by decide⟩ (fun E h => ⟨2, by rw [h.1]; decide, fun t => Or.inr ⟨i, hi, ei, Or.inl ⟨rfl, h.2⟩⟩⟩) (fun v H2 hE hv => ?_)
  obtain ⟨rfl, u, ti⟩ := hv
  have eH2 := (eH1).trans hE
  have hx1 := hx1.mv (hE.mv A)
  have hh := hh.ex hE
  have fx1 : Fo G A H2 x1 u := by rw [ti] at hx1; exact hx1
  have hsu := hB.1 i hi u ti
  obtain ⟨fs1, ho1⟩ := fx1.ob
  obtain ⟨ra1, ob1, -⟩ := id fx1
  refine pb_blk B.hx B.hb (lv' := [(2, .ref x1), (0, .ref q), (1, .int f0)]) (st' := [.ref x1]) hl bkX5_integral_8_10 rfl (fun ls hl => ?_)
  refine z_get B ciX0 1 (by decide) ob1 wd_F_X5_76 rfl dX5_integral_10 ?_
  refine pb_blk B.hx B.hb (lv' := [(2, .ref x1), (0, .ref q), (1, .int f0)]) (st' := [.int ((dgI u) + 1)]) hl bkX5_integral_13_15 rfl (fun ls hl => ?_)
  refine x_callS0 B hT htb (c_X5_refuseDegree l hst G A (dgI u + 1)) cy_X5_refuseDegree st_X5_refuseDegree wd_M_X5_79 (hA_up hA (eH2).1) trivial (eH2) rfl hl.1 rfl (Nat.le_of_ble_eq_true rfl) ⟨by decide, by decide⟩ ⟨by decide, by decide⟩ dX5_integral_15 (fun _ h => nomatch h) ⟨by decide, by decide⟩ (fun E h => ⟨3, by rw [h.1]; decide, fun t => Or.inr ⟨i, hi, ei, Or.inr ⟨u, ti, Or.inl ⟨rfl, h.2⟩⟩⟩⟩) (fun v H3 hE hv => ?_)
  obtain ⟨rfl, hd3⟩ := hv
  have eH3 := (eH2).trans hE
  have hx1 := hx1.mv (hE.mv A)
  have fx1 := fx1.mv (hE.mv A)
  have hh := hh.ex hE
  obtain ⟨fs1, ho1⟩ := fx1.ob
  refine pb_blk B.hx B.hb (lv' := [(2, .ref x1), (0, .ref q), (1, .int f0)]) (st' := [.ref x1, .ref q]) hl bkX5_integral_18_20 rfl (fun ls hl => ?_)
  refine z_callV B (c_X0_antiSlope l G A x1 u hsu) cy_X0_antiSlope im_X0_antiSlope se_X0_antiSlope wd_M_X5_55 rfl ho1 (hA_up hA (eH3).1) fx1 rfl hl.1 rfl (Nat.le_of_ble_eq_true rfl) ⟨by decide, by decide⟩ ⟨by decide, by decide⟩ dX5_integral_20 (fun v H4 hE hv => ?_)
  obtain ⟨y, rfl, hy⟩ := hv
  have eH4 := (eH3).trans hE
  have hx1 := hx1.mv (hE.mv A)
  have fx1 := fx1.mv (hE.mv A)
  have hh := hh.ex hE
  obtain ⟨fs9, ho⟩ := hh.ob
  refine x_callV B hT htb (c_X5_keep l hst G A q ta N th as y (.inl (asl u 4)) (fun z h9 => nomatch h9)) cy_X5_keep im_X5_keep se_X5_keep wd_M_X5_48 rfl ho (hA_up hA (eH4).1) ⟨hh, hy⟩ (eH4) rfl hl.1 rfl (Nat.le_of_ble_eq_true rfl) ⟨by decide, by decide⟩ ⟨by decide, by decide⟩ dX5_integral_23 (fun _ h => nomatch h) (fun _ h => h) ⟨by decide, by decide⟩ (fun E h => ⟨3, by rw [h.1]; decide, fun t => Or.inr ⟨i, hi, ei, Or.inr ⟨u, ti, Or.inr ⟨hd3, Or.inl ⟨rfl, h.2⟩⟩⟩⟩⟩) (fun v H5 L hL hM hv => ?_)
  obtain ⟨rfl, hN8, htg, hh2⟩ := hv
  exact x_iret B dX5_integral_26 (((eH4).mv _).trans hM) ⟨rfl, (.inl (asl u 4)), Or.inr ⟨i, hi, ei, Or.inr ⟨u, ti, Or.inr ⟨hd3, Or.inr ⟨rfl, hN8, htg, rfl⟩⟩⟩⟩, hh2⟩ (fun z hz => hL z hz) (Nat.le_of_ble_eq_true rfl) (Nat.le_of_ble_eq_true rfl)

