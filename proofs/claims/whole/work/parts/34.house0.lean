/-! the house: things, what is assumed -/
abbrev St3 : Type := Nat × (Nat → Rat) × (Nat → Bool)
abbrev Th : Type := (Nat → Rat) ⊕ St3
def tgT : Th → Bool
  | .inl u => tgF u
  | .inr z => tgS z.1 z.2.1
def TA (G : Gm) (A : Nat → Prop) (H : Heap) (x : Nat) : Th → Prop
  | .inl u => Fo G A H x u
  | .inr z => Ls G A H x z.1 z.2.1 z.2.2
def upT (th : Nat → Th) (N : Nat) (t : Th) : Nat → Th := fun k => if k = N then t else th k
theorem upT_at (th : Nat → Th) (N : Nat) (t : Th) : upT th N t N = t := if_pos rfl
theorem upT_ne (th : Nat → Th) {N k : Nat} (t : Th) (h : k ≠ N) : upT th N t k = th k := if_neg h
/-- a handle that stands for something -/
def Tr (N : Nat) (f : Int32) : Prop := ∃ k, k < N ∧ f = nI k
theorem TA.mv {G : Gm} {A A' : Nat → Prop} {H H' : Heap} {x : Nat} {t : Th} (h : TA G A H x t) (m : Mv A H A' H') : TA G A' H' x t := by
  cases t with
  | inl u => exact Fo.mv h m
  | inr z => exact Ls.mv h m
theorem TA.no {G : Gm} {A : Nat → Prop} {H : Heap} {x : Nat} {t : Th} (h : TA G A H x t) : ¬ A x ∧ x < H.size := by
  cases t with
  | inl u => obtain ⟨a, h1, -⟩ := h; exact ⟨h1.1, h1.lt⟩
  | inr z => obtain ⟨a, b, h1, -⟩ := h; exact ⟨h1.1, h1.lt⟩
def House (G : Gm) (A : Nat → Prop) (H : Heap) (q ta N : Nat) (th : Nat → Th) (as : St3) : Prop := ∃ aa : Nat, va_at G.1 vwCl (q, .inr (4, [.ref ta, .int (nI N), .ref aa])) H ∧ A q ∧ A ta ∧ q ≠ ta ∧ N ≤ 80 ∧ (∃ f : Nat → Value, H[ta]? = some (arrV (G.2 4) 80 f) ∧ ∀ k, k < N → ∃ x, f k = .ref x ∧ TA G A H x (th k)) ∧ Ls G A H aa as.1 as.2.1 as.2.2
theorem House.ex {G : Gm} {A : Nat → Prop} {H H1 : Heap} {q ta N : Nat} {th : Nat → Th} {as : St3} (h : House G A H q ta N th as) (e : Ex H H1) : House G A H1 q ta N th as := by
  obtain ⟨aa, h1, h2, h3, h4, h5, ⟨f, h6, h7⟩, h8⟩ := h
  refine ⟨aa, h1.kept (q := (q, _)) (e.2 q h1.lt), h2, h3, h4, h5, ⟨f, (e.2 ta (Array.getElem?_eq_some_iff.mp h6).1).trans h6, fun k hk => ?_⟩, h8.mv (e.mv A)⟩
  obtain ⟨x, e1, hx⟩ := h7 k hk
  exact ⟨x, e1, hx.mv (e.mv A)⟩
theorem House.ob {G : Gm} {A : Nat → Prop} {H : Heap} {q ta N : Nat} {th : Nat → Th} {as : St3} (h : House G A H q ta N th as) : ∃ fs, va_at G.1 vwCl (q, .inr (4, fs)) H := by
  obtain ⟨aa, h1, -⟩ := h
  exact ⟨_, h1⟩
theorem House.le {G : Gm} {A : Nat → Prop} {H : Heap} {q ta N : Nat} {th : Nat → Th} {as : St3} (h : House G A H q ta N th as) : N ≤ 80 := by
  obtain ⟨aa, h1, h2, h3, h4, h5, -⟩ := h
  exact h5
def F2 (q ta : Nat) : Nat → Prop := fun z => z = q ∨ z = ta
theorem Mv.weak {F A : Nat → Prop} {H H' : Heap} (h : Mv F H F H') (hFA : ∀ x, F x → A x) : Mv A H A H' := ⟨h.1, fun q hq hA => ⟨hA, (h.2 q hq (fun hF => hA (hFA q hF))).2⟩⟩
theorem Mv.toEx {H H' : Heap} (h : Mv (fun _ => False) H (fun _ => False) H') : Ex H H' := ⟨h.1, fun q hq => (h.2 q hq (fun x => x)).2⟩
theorem obF {G : Gm} {H : Heap} {q ci : Nat} {fs : List Value} (h : va_at G.1 vwCl (q, .inr (ci, fs)) H) : Ob G (fun _ => False) H q ci fs := ⟨fun x => x, h⟩
theorem tr_of {N k : Nat} {f : Int32} (hN : N ≤ 80) (hk : k < 2 ^ 31) (e : f = nI k) : Tr N f ↔ k < N := ⟨fun ⟨j, hj, e2⟩ => by
  have := (nI_eq hk (by omega)).mp (e.symm.trans e2)
  omega, fun h => ⟨k, h, e⟩⟩
section ROWSH
variable {p : Program} {l : Launch} {e : Env} {R : Room} {s : State} {m : MethodId} {args : Array Value} {below : List Frame} {meth : Method} {c : Code} {H : Heap} {locs : List Loc} {cells slots : Nat} {Q : State → Prop} {cc : ByteArray} {pc nL : Nat} {ls : Array Slot} {rest st : List Value} {G : Gm} {A : Nat → Prop} {y : MethodName} {ret : Option FieldType}
/-- a call of a method that Thing names and its classes have -/
theorem n_callA {x y' : MethodName} {bytes : ByteArray} {maxL np index b ci N : Nat} {r' : Option FieldType} {rm : Room} {As : List Value} {P : Heap → Prop} {pn : Option Value → Prop} {C : String} {T : u_T} {fs : List Value} (B : Bd p s m args meth c G y cc nL ret) (hM : Mn l y' bytes maxL r' rm G (.ref b :: As) P pn) (K : CY y' bytes maxL r' np) (hi : Cond.instanceMethod y' ∈ WS) (hse : Cond.selects C x y' ∈ WS) (hsm : Cond.sameMethod x.cls x.cls x.name x.desc ∈ WS) (hl : Cond.methodLink y.cls index x ∈ WS) (hz : va_Nw (.declares ⟨x.cls, x.name, x.desc⟩) s) (hx : x.cls ≠ "java/lang/invoke/MethodHandle" ∧ x.cls ≠ "java/lang/invoke/VarHandle" ∧ (parseMethodDescriptor x.desc).map (fun d => d.parameters.length) = some np)
    (hci : vwCl[ci]? = some (C, T, N)) (ob : va_at G.1 vwCl (b, .inr (ci, fs)) H) (hP : P H) (hn : As.length = np) (hls : ls.size = nL) (hst : st = As.reverse ++ .ref b :: rest) (hw : (rest.map fun v => v.category).sum ≤ 8) (hR : rm.frames + 1 ≤ R.frames ∧ 8 + (maxL + 11) + rm.locals ≤ R.locals) (hf : cells + rm.cells ≤ R.cells ∧ slots + rm.slots ≤ R.slots) (hd : decode cc pc = .ok (.invokevirtual index, 3))
    (kk : ∀ (v : Option Value), pn v → W p l e R s m args below meth c H locs (cells + rm.cells) (slots + rm.slots) Q (F0 m (pc + 3) ls (v.toList ++ rest))) : W p l e R s m args below meth c H locs cells slots Q (F0 m pc ls st) := by
  subst hst
  obtain ⟨r, h1, cell, q1, q2, q3, q4⟩ := ob
  have hcl : s.vm.findClass C = some cell.cls := by rw [q2]; exact (B.hK.1.1 ci _ hci).2.1
  have hg : ∀ w, w ∈ WS → w ∈ WS ∧ ((w.onTables && w.keeps) = true ∨ ∃ ty, w = .arrayClass ty) := fun w hw => ⟨hw, good_of_word (List.mem_filter.mp hw).2⟩
  have hG : GoodIn WS (va_wsU y.cls index C x.cls x y' (mws y' bytes maxL r')) := fun w hw => by
    rcases List.mem_append.mp hw with h | h
    · rcases List.mem_cons.mp h with e1 | h
      · rw [e1]; exact hg _ hl
      · rcases List.mem_cons.mp h with e1 | h
        · rw [e1]; exact hg _ hsm
        · rcases List.mem_cons.mp h with e1 | h
          · rw [e1]; exact hg _ hse
          · rcases List.mem_cons.mp h with e1 | h
            · rw [e1]; exact hg _ hi
            · rw [List.mem_singleton.mp h]; exact hg _ K.2.1
    · exact mws_in' K.1 w h
  exact n_after (va_runU (Ts := WS) ⟨B.hx, B.hb, B.hml, B.hown, B.hts⟩ hM (va_cwA np B.hts hG rfl rfl rfl hz hx hR) ⟨Pz.blind, ⟨cell, q1, by rw [q3]; rfl, hcl⟩, fun U hU hW => ⟨rfl, B.hK.warm hW, fun _ h => h.elim, by rw [hU]; exact hP⟩⟩ rfl hn hls rfl (lv_room hw) hd hf).run kk
/-- a thing is put into the row of things -/
theorem z_aastT (B : Bd p s m args meth c G y cc nL ret) {q n v ci : Nat} {f : Nat → Value} {fs : List Value} {C : String} {T : u_T} {N : Nat} (hci : vwCl[ci]? = some (C, T, N)) (hca : va_Nw (.castable C RX4) s) (hr : H[q]? = some (arrV (G.2 4) n f)) (ob : va_at G.1 vwCl (v, .inr (ci, fs)) H) {i : Int32} (hi : vp_in i n) (hd : decode cc pc = .ok (.aastore, 1))
    (kk : ∀ H1 : Heap, H1[q]? = some (arrV (G.2 4) n (updV f i.toNatClampNeg (.ref v))) → H1.size = H.size → (∀ z, z ≠ q → H1[z]? = H[z]?) → W p l e R s m args below meth c H1 (locs ++ [⟨q, i.toNatClampNeg⟩]) cells slots Q (F0 m (pc + 1) ls rest)) : W p l e R s m args below meth c H locs cells slots Q (F0 m pc ls (.ref v :: .int i :: .ref q :: rest)) := by
  have hlt : i.toNatClampNeg < n := Nat.not_le.mp fun q => hi (Or.inr q)
  have h0 : ¬ i < 0 := fun q => hi (Or.inl q)
  obtain ⟨r', hr', cellV, g1, g2, g3, -⟩ := ob
  have hcls := (B.hK.1.1 ci _ hci).2
  obtain ⟨kA, comp, k1, k2, k3, -⟩ := (B.hK.1.2 4 _ rfl).2
  obtain ⟨kE, hkE, -⟩ := Vm.findClass_spec k3
  obtain ⟨c0, t1, f1, f2, f3⟩ := Cond.castable_spec (va_Nw.use (A := args) rfl hca)
  cases hcls.1.symm.trans f1
  cases k3.symm.trans f2
  obtain ⟨kC, hkC, -⟩ := hcls.2
  exact W.aast B.hx B.hb hr (fun q h => by cases h) (fun h => by cases h) k1 k2 rfl hkE ⟨h0, by show _ < (arrV _ _ _).slots.size; rw [arrV_size]; exact hlt⟩ g1 (fun q h => by rw [g3] at h; cases h) (by rw [g2]; exact hkC) (by rw [g2]; exact f3) rfl rfl hd fun H1 e z oq => kk H1 (by rw [e, arrV_store]) z oq
end ROWSH
abbrev xTk : MethodName := ⟨RX4, "whichKind", "()I"⟩
abbrev xTg : MethodName := ⟨RX4, "isTooGreat", "()Z"⟩
abbrev xTs : MethodName := ⟨RX4, "isSameAs", "(LFormulaHouse$Thing;)Z"⟩
theorem sm_Tk : Cond.sameMethod xTk.cls xTk.cls xTk.name xTk.desc ∈ WS := WS_in (by decide +kernel) (by decide +kernel)
theorem sm_Tg : Cond.sameMethod xTg.cls xTg.cls xTg.name xTg.desc ∈ WS := WS_in (by decide +kernel) (by decide +kernel)
theorem sm_Ts : Cond.sameMethod xTs.cls xTs.cls xTs.name xTs.desc ∈ WS := WS_in (by decide +kernel) (by decide +kernel)
theorem sa_k0 : Cond.selects RX0 xTk yX0_whichKind ∈ WS := WS_in (by decide +kernel) (by decide +kernel)
theorem sa_k2 : Cond.selects RX2 xTk yX2_whichKind ∈ WS := WS_in (by decide +kernel) (by decide +kernel)
theorem sa_g0 : Cond.selects RX0 xTg yX0_isTooGreat ∈ WS := WS_in (by decide +kernel) (by decide +kernel)
theorem sa_g2 : Cond.selects RX2 xTg yX2_isTooGreat ∈ WS := WS_in (by decide +kernel) (by decide +kernel)
theorem sa_s0 : Cond.selects RX0 xTs yX0_isSameAs ∈ WS := WS_in (by decide +kernel) (by decide +kernel)
theorem sa_s2 : Cond.selects RX2 xTs yX2_isSameAs ∈ WS := WS_in (by decide +kernel) (by decide +kernel)
theorem se_X2_isSameAs : Cond.selects RX2 yX2_isSameAs yX2_isSameAs ∈ WS := WS_in (by decide +kernel) (by decide +kernel)
theorem wd_M_X5_t200 : Cond.methodLink RX5 200 xTg ∈ WS := WS_in (by decide +kernel) (by decide +kernel)
theorem wd_M_X5_t135 : Cond.methodLink RX5 135 xTk ∈ WS := WS_in (by decide +kernel) (by decide +kernel)
theorem wd_M_X5_t184 : Cond.methodLink RX5 184 xTs ∈ WS := WS_in (by decide +kernel) (by decide +kernel)
