/-! blocks of instructions that touch nothing but locals and stack: run by a function -/
def pb_look (lv : List (Nat × Value)) (i : Nat) : Option Value := match lv with
  | [] => none
  | (j, v) :: t => match decide (j = i) with
    | true => some v
    | false => pb_look t i
def pb_put1 (lv : List (Nat × Value)) (i : Nat) (v : Value) : List (Nat × Value) := (i, v) :: lv.filter (fun q => !(q.1 == i) && !(q.1 + 1 == i && q.2.category == 2))
def pb_put2 (lv : List (Nat × Value)) (i : Nat) (v : Value) : List (Nat × Value) := (i, v) :: lv.filter (fun q => !(q.1 == i) && (!(q.1 == i + 1) && !(q.1 + 1 == i && q.2.category == 2)))
/-- the int constants, small ones spelled -/
def pb_ic (n : Int) : Int32 := match n with
  | 0 => 0
  | 1 => 1
  | 2 => 2
  | 3 => 3
  | 4 => 4
  | 5 => 5
  | -1 => -1
  | n => Int32.ofInt n
theorem pb_ic_eq (n : Int) : Int32.ofInt n = pb_ic n := by
  unfold pb_ic
  split <;> first | rfl | decide
def pb_lc (n : Nat) : Int64 := match n with
  | 0 => 0
  | 1 => 1
  | n => Int64.ofNat n
theorem pb_lc_eq (n : Nat) : Int64.ofNat n = pb_lc n := by
  unfold pb_lc
  split <;> first | rfl | decide
def pb_step (nL : Nat) (i : Instr) (lv : List (Nat × Value)) (st : List Value) : Option (List (Nat × Value) × List Value) :=
  match i, st with
  | .iconst n, st => some (lv, .int (pb_ic n) :: st)
  | .lconst n, st => some (lv, .long (pb_lc n) :: st)
  | .bipush n, st => some (lv, .int (Int8.ofInt n).toInt32 :: st)
  | .sipush n, st => some (lv, .int (Int16.ofInt n).toInt32 :: st)
  | .aconst_null, st => some (lv, .null :: st)
  | .iload_n k, st => match pb_look lv k.val with | some (.int x) => some (lv, .int x :: st) | _ => none
  | .iload k, st => match pb_look lv k with | some (.int x) => some (lv, .int x :: st) | _ => none
  | .lload_n k, st => match pb_look lv k.val with | some (.long x) => some (lv, .long x :: st) | _ => none
  | .lload k, st => match pb_look lv k with | some (.long x) => some (lv, .long x :: st) | _ => none
  | .aload_n k, st => match pb_look lv k.val with | some (.ref x) => some (lv, .ref x :: st) | _ => none
  | .aload k, st => match pb_look lv k with | some (.ref x) => some (lv, .ref x :: st) | _ => none
  | .istore_n k, .int x :: st => match decide (k.val < nL) with | true => some (pb_put1 lv k.val (.int x), st) | false => none
  | .istore k, .int x :: st => match decide (k < nL) with | true => some (pb_put1 lv k (.int x), st) | false => none
  | .astore_n k, .ref x :: st => match decide (k.val < nL) with | true => some (pb_put1 lv k.val (.ref x), st) | false => none
  | .astore k, .ref x :: st => match decide (k < nL) with | true => some (pb_put1 lv k (.ref x), st) | false => none
  | .lstore_n k, .long x :: st => match decide (k.val + 1 < nL) with | true => some (pb_put2 lv k.val (.long x), st) | false => none
  | .lstore k, .long x :: st => match decide (k + 1 < nL) with | true => some (pb_put2 lv k (.long x), st) | false => none
  | .iinc k n, st => match pb_look lv k with
    | some (.int x) => match decide (k < nL) with | true => some (pb_put1 lv k (.int (x + pb_ic n)), st) | false => none
    | _ => none
  | .iadd, .int y :: .int x :: st => some (lv, .int (x + y) :: st)
  | .isub, .int y :: .int x :: st => some (lv, .int (x - y) :: st)
  | .imul, .int y :: .int x :: st => some (lv, .int (x * y) :: st)
  | .iand, .int y :: .int x :: st => some (lv, .int (x &&& y) :: st)
  | .ixor, .int y :: .int x :: st => some (lv, .int (x ^^^ y) :: st)
  | .ineg, .int x :: st => some (lv, .int (-x) :: st)
  | .ladd, .long y :: .long x :: st => some (lv, .long (x + y) :: st)
  | .lsub, .long y :: .long x :: st => some (lv, .long (x - y) :: st)
  | .lmul, .long y :: .long x :: st => some (lv, .long (x * y) :: st)
  | .lor, .long y :: .long x :: st => some (lv, .long (x ||| y) :: st)
  | .lneg, .long x :: st => some (lv, .long (-x) :: st)
  | .lcmp, .long y :: .long x :: st => some (lv, .int (lg_cmp x y) :: st)
  | .i2l, .int x :: st => some (lv, .long x.toInt64 :: st)
  | .l2i, .long x :: st => some (lv, .int x.toInt32 :: st)
  | .lshr, .int y :: .long x :: st => some (lv, .long (x >>> (y.toInt64 &&& 63)) :: st)
  | .dup, .int x :: st => some (lv, .int x :: .int x :: st)
  | .dup, .ref x :: st => some (lv, .ref x :: .ref x :: st)
  | .pop, .int _ :: st => some (lv, st)
  | .pop, .ref _ :: st => some (lv, st)
  | .goto _, st => some (lv, st)
  | _, _ => none
/-- an instruction's length, where it stands in a block -/
def pb_len (i : Instr) : Nat := match i with
  | .bipush _ | .iload _ | .lload _ | .aload _ | .istore _ | .lstore _ | .astore _ => 2
  | .sipush _ | .iinc _ _ | .goto _ => 3
  | _ => 1
def pb_to (pc : Nat) (i : Instr) : Nat := match i with
  | .goto off => ((pc : Int) + off).toNat
  | _ => pc + pb_len i
def pb_ok (pc : Nat) (i : Instr) : Bool := match i with
  | .goto off => decide (0 ≤ (pc : Int) + off)
  | _ => true
/-- the instructions from pc on as they are listed: the pc behind them -/
def pb_chk (cc : ByteArray) (pc : Nat) (is : List Instr) : Option Nat := match is with
  | [] => some pc
  | i :: t => match decide (decode cc pc = .ok (i, pb_len i)) && pb_ok pc i with
    | true => pb_chk cc (pb_to pc i) t
    | false => none
def pb_run (nL : Nat) (is : List Instr) (lv : List (Nat × Value)) (st : List Value) : Option (List (Nat × Value) × List Value) := match is with
  | [] => some (lv, st)
  | i :: t => match pb_step nL i lv st with
    | some (lv1, st1) => pb_run nL t lv1 st1
    | none => none
theorem pb_look_at {ls : Array Slot} {nL : Nat} {lv : List (Nat × Value)} (h : lv_has ls nL lv) {i : Nat} {v : Value} (hv : pb_look lv i = some v) : ls[i]? = some (.val v) := by
  refine h.2.2 (i, v) ?_
  clear h
  induction lv with
  | nil => simp [pb_look] at hv
  | cons q t ih =>
    obtain ⟨j, w⟩ := q
    simp only [pb_look] at hv
    by_cases e : j = i
    · subst e
      simp at hv
      subst hv
      exact List.mem_cons_self
    · simp [e] at hv
      exact List.mem_cons_of_mem _ (ih hv)
section PB
variable {p : Program} {l : Launch} {e : Env} {R : Room} {s : State} {m : MethodId} {args : Array Value} {below : List Frame} {meth : Method} {c : Code} {H : Heap} {locs : List Loc} {cells slots : Nat} {Q : State → Prop} {cc : ByteArray}
theorem pb_iinc (hx : p.tables.exec = Jvm.exec) (hb : c.code = cc) {k nL : Nat} {n : Int} {pc : Nat} {ls : Array Slot} {lv : List (Nat × Value)} {rest : List Value} {x : Int32} (hd : decode cc pc = .ok (.iinc k n, 3)) (hl : lv_has ls nL lv) (hk : ls[k]? = some (.val (.int x))) (hn : k < nL)
    (kk : ∀ ls', lv_has ls' nL (pb_put1 lv k (.int (x + pb_ic n))) → W p l e R s m args below meth c H locs cells slots Q (F0 m (pc + 3) ls' rest)) : W p l e R s m args below meth c H locs cells slots Q (F0 m pc ls rest) := by
  have hl2 : lv_has ls nL ((k, .int x) :: lv) := ⟨hl.1, hl.2.1, fun q hq => by
    rcases List.mem_cons.mp hq with h | h
    · subst h; exact hk
    · exact hl.2.2 q h⟩
  refine lv_iinc (v := x + pb_ic n) (lv' := pb_put1 lv k (.int (x + pb_ic n))) hx hb hd hl2 (k := 0) rfl (by rw [pb_ic_eq]) hn ?_ kk
  simp [pb_put1, List.filter_cons]
set_option maxHeartbeats 4000000 in
theorem pb_one (hx : p.tables.exec = Jvm.exec) (hb : c.code = cc) {i : Instr} {nL : Nat} {pc : Nat} {ls : Array Slot} {lv lv1 : List (Nat × Value)} {st st1 : List Value} (hl : lv_has ls nL lv) (hd : decode cc pc = .ok (i, pb_len i)) (ho : pb_ok pc i = true) (hs : pb_step nL i lv st = some (lv1, st1))
    (kk : ∀ ls', lv_has ls' nL lv1 → W p l e R s m args below meth c H locs cells slots Q (F0 m (pb_to pc i) ls' st1)) : W p l e R s m args below meth c H locs cells slots Q (F0 m pc ls st) := by
  unfold pb_step at hs
  split at hs
  case h_1 => cases hs; exact lv_iconst hx hb hd (pb_ic_eq _) (kk ls hl)
  case h_2 => cases hs; exact lv_lconst hx hb hd (pb_lc_eq _) (kk ls hl)
  case h_3 => cases hs; exact lv_bipush hx hb hd rfl (kk ls hl)
  case h_4 => cases hs; exact lv_sipush hx hb hd rfl (kk ls hl)
  case h_5 => cases hs; exact lv_null hx hb hd (kk ls hl)
  case h_6 => split at hs <;> cases hs; exact lv_iload_n hx hb hd rfl (pb_look_at hl ‹_›) (kk ls hl)
  case h_7 => split at hs <;> cases hs; exact lv_iload hx hb hd (pb_look_at hl ‹_›) (kk ls hl)
  case h_8 => split at hs <;> cases hs; exact lv_lload_n hx hb hd rfl (pb_look_at hl ‹_›) (kk ls hl)
  case h_9 => split at hs <;> cases hs; exact lv_lload hx hb hd (pb_look_at hl ‹_›) (kk ls hl)
  case h_10 => split at hs <;> cases hs; exact lv_aload_n hx hb hd rfl (pb_look_at hl ‹_›) (kk ls hl)
  case h_11 => split at hs <;> cases hs; exact lv_aload hx hb hd (pb_look_at hl ‹_›) (kk ls hl)
  case h_12 => split at hs <;> cases hs; exact lv_istore_n hx hb hd rfl hl (of_decide_eq_true ‹_›) rfl kk
  case h_13 => split at hs <;> cases hs; exact lv_istore hx hb hd hl (of_decide_eq_true ‹_›) rfl kk
  case h_14 => split at hs <;> cases hs; exact lv_astore_n hx hb hd rfl hl (of_decide_eq_true ‹_›) rfl kk
  case h_15 => split at hs <;> cases hs; exact lv_astore hx hb hd hl (of_decide_eq_true ‹_›) rfl kk
  case h_16 => split at hs <;> cases hs; exact lv_lstore_n hx hb hd rfl hl (of_decide_eq_true ‹_›) rfl kk
  case h_17 => split at hs <;> cases hs; exact lv_lstore hx hb hd hl (of_decide_eq_true ‹_›) rfl kk
  case h_18 =>
    split at hs
    · next h1 =>
      split at hs <;> cases hs
      exact pb_iinc hx hb hd hl (pb_look_at hl h1) (of_decide_eq_true ‹_›) kk
    · cases hs
  case h_19 => cases hs; exact lv_iadd hx hb hd (kk ls hl)
  case h_20 => cases hs; exact lv_isub hx hb hd (kk ls hl)
  case h_21 => cases hs; exact lv_imul hx hb hd (kk ls hl)
  case h_22 => cases hs; exact lv_iand hx hb hd (kk ls hl)
  case h_23 => cases hs; exact lv_ixor hx hb hd (kk ls hl)
  case h_24 => cases hs; exact lv_ineg hx hb hd (kk ls hl)
  case h_25 => cases hs; exact lv_ladd hx hb hd (kk ls hl)
  case h_26 => cases hs; exact lv_lsub hx hb hd (kk ls hl)
  case h_27 => cases hs; exact lv_lmul hx hb hd (kk ls hl)
  case h_28 => cases hs; exact lv_lor hx hb hd (kk ls hl)
  case h_29 => cases hs; exact lv_lneg hx hb hd (kk ls hl)
  case h_30 => cases hs; exact W.lcmp hx hb hd (kk ls hl)
  case h_31 => cases hs; exact lv_i2l hx hb hd rfl (kk ls hl)
  case h_32 => cases hs; exact lv_l2i hx hb hd rfl (kk ls hl)
  case h_33 => cases hs; exact lv_lshr hx hb hd rfl (kk ls hl)
  case h_34 => cases hs; exact lv_dup hx hb hd rfl (kk ls hl)
  case h_35 => cases hs; exact lv_dup hx hb hd rfl (kk ls hl)
  case h_36 => cases hs; exact lv_pop hx hb hd rfl (kk ls hl)
  case h_37 => cases hs; exact lv_pop hx hb hd rfl (kk ls hl)
  case h_38 =>
    cases hs
    refine lv_goto hx hb hd ?_ (kk ls hl)
    have := of_decide_eq_true ho
    simp only [pb_to]
    omega
  case h_39 => cases hs
theorem pb_blk (hx : p.tables.exec = Jvm.exec) (hb : c.code = cc) {is : List Instr} {pc' nL : Nat} : ∀ {pc : Nat} {ls : Array Slot} {lv lv' : List (Nat × Value)} {st st' : List Value}, lv_has ls nL lv → pb_chk cc pc is = some pc' → pb_run nL is lv st = some (lv', st') →
    (∀ ls', lv_has ls' nL lv' → W p l e R s m args below meth c H locs cells slots Q (F0 m pc' ls' st')) → W p l e R s m args below meth c H locs cells slots Q (F0 m pc ls st) := by
  induction is with
  | nil =>
    intro pc ls lv lv' st st' hl hd hr kk
    simp only [pb_run, Option.some.injEq, Prod.mk.injEq] at hr
    obtain ⟨rfl, rfl⟩ := hr
    simp only [pb_chk, Option.some.injEq] at hd
    subst hd
    exact kk ls hl
  | cons i t ih =>
    intro pc ls lv lv' st st' hl hd hr kk
    simp only [pb_chk] at hd
    split at hd
    · next h =>
      obtain ⟨h1, h2⟩ := Bool.and_eq_true_iff.mp h
      simp only [pb_run] at hr
      split at hr
      · next lv1 st1 h3 =>
        exact pb_one hx hb hl (of_decide_eq_true h1) h2 h3 (fun ls' hl' => ih hl' hd hr kk)
      · cases hr
    · cases hd
end PB
