/-! the law's walk: what it keeps -/
def Al (q ta out mo : Nat) : Nat → Prop := fun x => Fw q ta out x ∨ FM mo x
def Dj (s0 q ta out mo : Nat) : Prop := s0 ≤ q ∧ s0 ≤ ta ∧ s0 ≤ out ∧ s0 ≤ mo ∧ out ≠ q ∧ out ≠ ta ∧ ¬ FM mo q ∧ ¬ FM mo ta ∧ ¬ FM mo out
def Lw (G : Gm) (H0 H : Heap) (q ta out mo N : Nat) (th : Nat → Th) (as : St3) (S : Sc) (ct : Ct) : Prop := House G (Al q ta out mo) H q ta N th as ∧ MS G H mo S ct ∧ Pst N th as S ct ∧ (∃ y, OutL G H out y) ∧ Ex H0 H ∧ Dj H0.size q ta out mo ∧ Iv N th as
theorem MS.lt {G : Gm} {H : Heap} {mo : Nat} {S : Sc} {ct : Ct} (h : MS G H mo S ct) : ∀ x, FM mo x → x < H.size := fun x hx => by
  have g := (Array.getElem?_eq_some_iff.mp (h.2 17 (by decide) (by decide))).1
  have := hx.2
  omega
theorem MS.kept {G : Gm} {H H1 : Heap} {mo : Nat} {S : Sc} {ct : Ct} (h : MS G H mo S ct) (e : ∀ x, FM mo x → H1[x]? = H[x]?) : MS G H1 mo S ct := ⟨h.1.kept (q := (mo, _)) (e mo ⟨Nat.le_refl _, by omega⟩), fun a h1 h2 => (e (mo + a) ⟨by omega, by omega⟩).trans (h.2 a h1 h2)⟩
theorem House.lt {G : Gm} {A : Nat → Prop} {H : Heap} {q ta N : Nat} {th : Nat → Th} {as : St3} (h : House G A H q ta N th as) : q < H.size ∧ ta < H.size := by
  obtain ⟨aa, h1, h2, h3, h4, h5, ⟨f, h6, h7⟩, h8⟩ := h
  exact ⟨h1.lt, (Array.getElem?_eq_some_iff.mp h6).1⟩
theorem Lw.A {G : Gm} {H0 H : Heap} {q ta out mo N : Nat} {th : Nat → Th} {as : St3} {S : Sc} {ct : Ct} (h : Lw G H0 H q ta out mo N th as S ct) : ∀ x, Al q ta out mo x → x < H.size := by
  obtain ⟨h1, h2, h3, ⟨y, h4⟩, -⟩ := h
  rintro x ((rfl | rfl | rfl) | hx)
  · exact h1.lt.1
  · exact h1.lt.2
  · exact h4.lt
  · exact h2.lt x hx
theorem fw_ge {s0 q ta out mo : Nat} (D : Dj s0 q ta out mo) : ∀ x, Fw q ta out x → s0 ≤ x := by
  rintro x (rfl | rfl | rfl)
  · exact D.1
  · exact D.2.1
  · exact D.2.2.1
theorem fm_nfw {s0 q ta out mo : Nat} (D : Dj s0 q ta out mo) : ∀ x, FM mo x → ¬ Fw q ta out x := by
  intro x hx
  rintro (rfl | rfl | rfl)
  · exact D.2.2.2.2.2.2.1 hx
  · exact D.2.2.2.2.2.2.2.1 hx
  · exact D.2.2.2.2.2.2.2.2 hx
theorem lw_mid {G : Gm} {H0 H H1 : Heap} {q ta out mo N : Nat} {th : Nat → Th} {as : St3} {S : Sc} {ct : Ct} (h : Lw G H0 H q ta out mo N th as S ct) (m : Mv (Fw q ta out) H (Fw q ta out) H1) : MS G H1 mo S ct ∧ Ex H0 H1 := by
  obtain ⟨h1, h2, h3, h4, h5, D, h7⟩ := h
  exact ⟨h2.kept (fun x hx => (m.2 x (h2.lt x hx) (fm_nfw D x hx)).2), ⟨Nat.le_trans h5.1 m.1, fun x hx => ((m.2 x (by have := h5.1; omega) (fun q => absurd (fw_ge D x q) (by omega))).2).trans (h5.2 x hx)⟩⟩
theorem lw_fin {G : Gm} {H0 H1 H2 : Heap} {q ta out mo N : Nat} {th : Nat → Th} {as : St3} {S : Sc} {ct : Ct} {y : Int64} (D : Dj H0.size q ta out mo) (hE : Ex H0 H1) (hz : H2.size = H1.size) (he : ∀ x, ¬ FM mo x → H2[x]? = H1[x]?) (hH : House G (Al q ta out mo) H1 q ta N th as) (hO : OutL G H1 out y) (hms : MS G H2 mo S ct) (hP : Pst N th as S ct) (hI : Iv N th as) : Lw G H0 H2 q ta out mo N th as S ct := by
  refine ⟨hH.mvA ⟨Nat.le_of_eq hz.symm, fun x _ hn => ⟨hn, he x (fun h => hn (Or.inr h))⟩⟩ (he q D.2.2.2.2.2.2.1) (he ta D.2.2.2.2.2.2.2.1), hms, hP, ⟨y, hO.kept (he out D.2.2.2.2.2.2.2.2)⟩, ⟨by rw [hz]; exact hE.1, fun x hx => (he x (fun h => ?_)).trans (hE.2 x hx)⟩, D, hI⟩
  have := D.2.2.2.1
  have := h.1
  omega
theorem mwh_in {y : MethodName} {cc : ByteArray} {n : Nat} {r : Option FieldType} {hh : List (Nat × Nat × Nat × Nat)} (h : Cond.codeWith y cc n r hh ∈ WS) : GoodIn WS (mwh y cc n r hh) := fun w hw => by
  rcases List.mem_cons.mp hw with e | hw
  · rw [e]; exact ⟨h, good_of_word (List.mem_filter.mp h).2⟩
  · exact ⟨hw, good_of_word (List.mem_filter.mp hw).2⟩
def CH (y : MethodName) (cc : ByteArray) (n : Nat) (r : Option FieldType) (hh : List (Nat × Nat × Nat × Nat)) (np : Nat) : Prop := Cond.codeWith y cc n r hh ∈ WS ∧ Cond.initialized y.cls ∈ WS ∧ Cond.static y ∈ WS ∧ (y.cls ≠ "java/lang/invoke/MethodHandle" ∧ y.cls ≠ "java/lang/invoke/VarHandle" ∧ (parseMethodDescriptor y.desc).map (fun d => d.parameters.length) = some np)
theorem wi_L : Cond.initialized RL ∈ WS := WS_in (by decide +kernel) (by decide +kernel)
section ROWSL
variable {p : Program} {l : Launch} {e : Env} {R : Room} {s : State} {m : MethodId} {args : Array Value} {below : List Frame} {meth : Method} {c : Code} {H : Heap} {locs : List Loc} {cells slots : Nat} {Q : State → Prop} {cc : ByteArray} {pc nL : Nat} {ls : Array Slot} {rest st : List Value} {G : Gm} {A F : Nat → Prop} {y : MethodName} {ret : Option FieldType} {mc ms : Nat} {post : Option Value → Heap → Prop} {px : String → Prop} {Qc : Array Value → State → Outcome → State → Prop}
theorem l_callS {y' : MethodName} {bytes : ByteArray} {maxL np index : Nat} {r' : Option FieldType} {hh : List (Nat × Nat × Nat × Nat)} {rm : Room} {A' F' : Nat → Prop} {As : List Value} {P : Heap → Prop} {post' : Option Value → Heap → Prop} (B : Bd p s m args meth c G y cc nL ret) (hKT : KT s) (hM : Mh l y' bytes maxL r' hh rm G A' F' As P post') (K : CH y' bytes maxL r' hh np) (hl : Cond.methodLink y.cls index y' ∈ WS)
    (hA : ∀ q, A' q → q < H.size) (hP : P H) (hE : Ex s.heap H) (hn : As.length = np) (hls : ls.size = nL) (hst : st = As.reverse ++ rest) (hw : (rest.map fun v => v.category).sum ≤ 8) (hR : rm.frames + 1 ≤ R.frames ∧ 8 + (maxL + 11) + rm.locals ≤ R.locals) (hf : cells + rm.cells ≤ R.cells ∧ slots + rm.slots ≤ R.slots) (hd : decode cc pc = .ok (.invokestatic index, 3)) (hfree : ∀ x, F' x → s.heap.size ≤ x)
    (kk : ∀ (v : Option Value) (H1 : Heap), Mv F' H F' H1 → post' v H1 → W p l e R s m args below meth c H1 locs (cells + rm.cells) (slots + rm.slots) Q (F0 m (pc + 3) ls (v.toList ++ rest))) : W p l e R s m args below meth c H locs cells slots Q (F0 m pc ls st) := by
  subst hst
  obtain ⟨k1, k2, k3, k4⟩ := K
  exact h_after (vx_runSX (Ts := WS) (hh := hh) ⟨B.hx, B.hb, B.hml, B.hown, B.hts⟩ hM ⟨⟨rfl, rfl, hR.1, hR.2, pay_in B.hts (mwh_in k1), List.mem_cons_self⟩, B.hts _ k1, B.hts _ k2, ⟨k4.1, k4.2.1⟩, fun sig h => by have h2 := k4.2.2; rw [h] at h2; exact (Option.some.inj h2).symm, B.hts _ hl, B.hts _ k3⟩ ⟨Px.blind, fun U hU hW => ⟨rfl, B.hK.warm hW, hKT.warm hW (by rw [hU]; exact hE), by rw [hU]; exact hA, by rw [hU]; exact hP⟩⟩ rfl hn hls rfl (lv_room hw) hd hf) (fun v H1 L hL hmv hv => W.forget (fun z hz => hfree _ (hL z hz)) (kk v H1 hmv hv)) (fun E q H1 L ce h => h.elim)
theorem l_callM {y' : MethodName} {bytes : ByteArray} {maxL np index mo : Nat} {r' : Option FieldType} {rm : Room} {As : List Value} {S : Sc} {ct : Ct} {post' : Option Value → Sc → Ct → Prop} (B : Bd p s m args meth c G y cc nL ret) (hM : Mm l y' bytes maxL r' rm G mo S ct (.ref mo :: As) post') (K : CY y' bytes maxL r' np) (hi : Cond.instanceMethod y' ∈ WS) (hse : Cond.selects RX6 y' y' ∈ WS) (hl : Cond.methodLink y.cls index y' ∈ WS) (hms : MS G H mo S ct) (hmo : s.heap.size ≤ mo)
    (hn : As.length = np) (hls : ls.size = nL) (hst : st = As.reverse ++ .ref mo :: rest) (hww : (rest.map fun v => v.category).sum ≤ 8) (hR : rm.frames + 1 ≤ R.frames ∧ 8 + (maxL + 11) + rm.locals ≤ R.locals) (hz : rm.cells = 0 ∧ rm.slots = 0) (hf : cells ≤ R.cells ∧ slots ≤ R.slots) (hd : decode cc pc = .ok (.invokevirtual index, 3))
    (kk : ∀ (v : Option Value) (H1 : Heap) (S1 : Sc) (ct1 : Ct), H1.size = H.size → (∀ x, ¬ FM mo x → H1[x]? = H[x]?) → MS G H1 mo S1 ct1 → post' v S1 ct1 → W p l e R s m args below meth c H1 locs cells slots Q (F0 m (pc + 3) ls (v.toList ++ rest))) : W p l e R s m args below meth c H locs cells slots Q (F0 m pc ls st) := by
  subst hst
  obtain ⟨r, h1, cell, q1, q2, q3, q4⟩ := hms.1
  have hcl : s.vm.findClass RX6 = some cell.cls := by rw [q2]; exact (B.hK.1.1 5 _ rfl).2.1
  refine W.callX (W.runV (Ts := WS) ⟨B.hx, B.hb, B.hml, B.hown, B.hts⟩ hM ⟨z_cb B K hl hR, B.hts _ hi, B.hts _ hse⟩ ⟨Pz.blind, ⟨cell, q1, by rw [q3]; rfl, hcl⟩, fun U hU hW => ⟨rfl, B.hK.warm hW, fun _ h => h.elim, by rw [hU]; exact hms⟩⟩ rfl hn hls rfl (lv_room hww) hd (by rw [hz.1, hz.2]; exact hf)) (fun x hx => Nat.le_trans hmo hx.1) (fun v st0 t h0 hq => ?_)
  obtain ⟨v', S1, ct1, ev, z1, o1, hm, hp⟩ := hq
  cases ev
  rw [h0] at z1 o1
  rw [hz.1, hz.2]
  exact kk v t.heap S1 ct1 z1 o1 hm hp
theorem l_scr (B : Bd p s m args meth c G y cc nL ret) {b L : Nat} {xs : Nat → Int32} (hX : va_X b L xs s s.heap) (hbl : b < s.heap.size) (hE : Ex s.heap H) {k : Nat} (hk : k < L) (hk2 : k < 2 ^ 31) (hL : L < 2 ^ 31) (hd : decode cc pc = .ok (.iaload, 1))
    (kk : W p l e R s m args below meth c H locs cells slots Q (F0 m (pc + 1) ls (.int (xs k) :: rest))) : W p l e R s m args below meth c H locs cells slots Q (F0 m pc ls (.int (nI k) :: .ref b :: rest)) := by
  obtain ⟨scr, h1, h2, h3, h4, h5⟩ := hX
  have e : (nI k).toNatClampNeg = k := nI_clamp hk2
  exact W.iald (v := .int (xs k)) B.hx B.hb (by rw [hE.2 b hbl]; exact h1) h2 h3 (by rw [h4]; exact vp_in_nI hk hL) (by rw [e]; exact h5 _ hk) rfl rfl hd kk
theorem l_len (B : Bd p s m args meth c G y cc nL ret) {b L : Nat} {xs : Nat → Int32} (hX : va_X b L xs s s.heap) (hbl : b < s.heap.size) (hE : Ex s.heap H) (hd : decode cc pc = .ok (.arraylength, 1))
    (kk : W p l e R s m args below meth c H locs cells slots Q (F0 m (pc + 1) ls (.int (nI L) :: rest))) : W p l e R s m args below meth c H locs cells slots Q (F0 m pc ls (.ref b :: rest)) := by
  obtain ⟨scr, h1, h2, h3, h4, h5⟩ := hX
  exact W.alen (n := Int32.ofNat L) B.hx B.hb (by rw [hE.2 b hbl]; exact h1) h2 (by rw [h4] <;> rfl) rfl rfl hd kk
end ROWSL
/-- what holds all the way -/
def LC (p : Program) (l : Launch) (s : State) (m : MethodId) (args : Array Value) (meth : Method) (c : Code) (G : Gm) (b L : Nat) (xs : Nat → Int32) : Prop := Bd p s m args meth c G yL_law cL_law 7 (some .boolean) ∧ KT s ∧ l.stackTraces = false ∧ va_X b L xs s s.heap ∧ b < s.heap.size ∧ L ≤ 2560
def LL (ls : Array Slot) (b q mo out i : Nat) : Prop := lv_has ls 7 [(4, .int (nI i)), (0, .ref b), (1, .ref q), (2, .ref mo), (3, .ref out)]
/-- behind a case -/
def LK (p : Program) (l : Launch) (e : Env) (s : State) (m : MethodId) (args : Array Value) (below : List Frame) (meth : Method) (c : Code) (G : Gm) (b q ta out mo i cells slots : Nat) (Q : State → Prop) : Prop := ∀ (H : Heap) (N : Nat) (th : Nat → Th) (as : St3) (S : Sc) (ct : Ct) (ls : Array Slot), Lw G s.heap H q ta out mo N th as S ct → LL ls b q mo out i → W p l e room_1 s m args below meth c H [] (cells + 300) (slots + 10000) Q (F0 m 1590 ls [])
theorem ni_ne {c : Nat} (h : c ≠ 0) (h4 : c ≤ 4) : ¬ nI c = 0 := fun q => h ((nI_eq (by omega) (by decide)).mp (show nI c = nI 0 from q))

theorem ch_L_number : CH yL_number cL_number 5 (some .int) hh_L_number 4 := ⟨cw_L_number, wi_L, st_L_number, by decide +kernel⟩
theorem ch_L_letter : CH yL_letter cL_letter 3 (some .int) hh_L_letter 2 := ⟨cw_L_letter, wi_L, st_L_letter, by decide +kernel⟩
theorem ch_L_add : CH yL_add cL_add 5 (some .int) hh_L_add 4 := ⟨cw_L_add, wi_L, st_L_add, by decide +kernel⟩
theorem ch_L_less : CH yL_less cL_less 5 (some .int) hh_L_less 4 := ⟨cw_L_less, wi_L, st_L_less, by decide +kernel⟩
theorem ch_L_times : CH yL_times cL_times 5 (some .int) hh_L_times 4 := ⟨cw_L_times, wi_L, st_L_times, by decide +kernel⟩
theorem ch_L_over : CH yL_over cL_over 5 (some .int) hh_L_over 4 := ⟨cw_L_over, wi_L, st_L_over, by decide +kernel⟩
theorem ch_L_derive : CH yL_derive cL_derive 4 (some .int) hh_L_derive 3 := ⟨cw_L_derive, wi_L, st_L_derive, by decide +kernel⟩
theorem ch_L_integral : CH yL_integral cL_integral 4 (some .int) hh_L_integral 3 := ⟨cw_L_integral, wi_L, st_L_integral, by decide +kernel⟩
theorem ch_L_put : CH yL_put cL_put 5 (some .int) hh_L_put 4 := ⟨cw_L_put, wi_L, st_L_put, by decide +kernel⟩
theorem ch_L_where : CH yL_where cL_where 5 (some .int) hh_L_where 4 := ⟨cw_L_where, wi_L, st_L_where, by decide +kernel⟩
theorem ch_L_both : CH yL_both cL_both 5 (some .int) hh_L_both 4 := ⟨cw_L_both, wi_L, st_L_both, by decide +kernel⟩
theorem ch_L_either : CH yL_either cL_either 5 (some .int) hh_L_either 4 := ⟨cw_L_either, wi_L, st_L_either, by decide +kernel⟩
theorem ch_L_other : CH yL_other cL_other 4 (some .int) hh_L_other 3 := ⟨cw_L_other, wi_L, st_L_other, by decide +kernel⟩
theorem ch_L_kind : CH yL_kind cL_kind 4 (some .int) hh_L_kind 3 := ⟨cw_L_kind, wi_L, st_L_kind, by decide +kernel⟩
theorem ch_L_degree : CH yL_degree cL_degree 4 (some .int) hh_L_degree 3 := ⟨cw_L_degree, wi_L, st_L_degree, by decide +kernel⟩
theorem ch_L_at : CH yL_at cL_at 6 (some .int) hh_L_at 5 := ⟨cw_L_at, wi_L, st_L_at, by decide +kernel⟩
theorem ch_L_pieces : CH yL_pieces cL_pieces 4 (some .int) hh_L_pieces 3 := ⟨cw_L_pieces, wi_L, st_L_pieces, by decide +kernel⟩
theorem ch_L_end : CH yL_end cL_end 7 (some .int) hh_L_end 6 := ⟨cw_L_end, wi_L, st_L_end, by decide +kernel⟩
theorem ch_L_sign : CH yL_sign cL_sign 4 (some .int) hh_L_sign 3 := ⟨cw_L_sign, wi_L, st_L_sign, by decide +kernel⟩
theorem ch_L_holds : CH yL_holds cL_holds 5 (some .int) hh_L_holds 4 := ⟨cw_L_holds, wi_L, st_L_holds, by decide +kernel⟩
theorem ch_L_same : CH yL_same cL_same 5 (some .int) hh_L_same 4 := ⟨cw_L_same, wi_L, st_L_same, by decide +kernel⟩
theorem ch_L_assume : CH yL_assume cL_assume 4 (some .int) hh_L_assume 3 := ⟨cw_L_assume, wi_L, st_L_assume, by decide +kernel⟩
