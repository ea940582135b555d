/-! a few rows more -/
section ROWS2
variable {p : Program} {l : Launch} {e : Env} {R : Room} {s : State} {m : MethodId} {args : Array Value} {below : List Frame} {meth : Method} {c : Code} {H : Heap} {locs : List Loc} {cells slots : Nat} {Q : State → Prop} {cc : ByteArray} {pc nL : Nat} {ls : Array Slot} {rest st : List Value} {G : Gm} {A : Nat → Prop} {y : MethodName} {ret : Option FieldType}
theorem z_objInit (B : Bd p s m args meth c G y cc nL ret) {q index : Nat} (hl : Cond.methodLink y.cls index objectInit ∈ WS) (hls : ls.size = nL) (hR : 1 ≤ R.frames ∧ (rest.map fun v => v.category).sum + 12 ≤ R.locals) (hd : decode cc pc = .ok (.invokespecial index, 3))
    (kk : W p l e R s m args below meth c H locs cells slots Q (F0 m (pc + 3) ls rest)) : W p l e R s m args below meth c H locs cells slots Q (F0 m pc ls (.ref q :: rest)) :=
  W.objInit B.hx B.hb B.hown (B.hts _ hl) (B.hts _ wo_im) (B.hts _ wo_co) rfl (by rw [B.hml]; exact hls) rfl hd hR.1 (by show 2 * 0 + _ + 12 ≤ _; have := hR.2; omega) kk
theorem z_abs (B : Bd p s m args meth c G y cc nL ret) {index : Nat} {x : Int64} (hl : Cond.methodLink y.cls index Lib.MathLoose.abs_long.x ∈ WS) (hls : ls.size = nL) (hR : 1 ≤ R.frames ∧ (rest.map fun v => v.category).sum + 13 ≤ R.locals) (hcs : cells ≤ R.cells ∧ slots ≤ R.slots) (hd : decode cc pc = .ok (.invokestatic index, 3))
    (kk : W p l e R s m args below meth c H locs cells slots Q (F0 m (pc + 3) ls (.long (if 0 < x then x else -x) :: rest))) : W p l e R s m args below meth c H locs cells slots Q (F0 m pc ls (.long x :: rest)) :=
  va_mabs_long B.hx B.hb (by rw [B.hml, hls]) B.hown (B.hts _ hl) (B.hts _ wm_s1) (B.hts _ wm_in) (B.hts _ wm_c1) hR.1 hR.2 hcs.1 hcs.2 hd kk
theorem z_max (B : Bd p s m args meth c G y cc nL ret) {index : Nat} {x x2 : Int64} (hl : Cond.methodLink y.cls index Lib.MathLoose.max_long.x ∈ WS) (hls : ls.size = nL) (hR : 1 ≤ R.frames ∧ (rest.map fun v => v.category).sum + 15 ≤ R.locals) (hcs : cells ≤ R.cells ∧ slots ≤ R.slots) (hd : decode cc pc = .ok (.invokestatic index, 3))
    (kk : W p l e R s m args below meth c H locs cells slots Q (F0 m (pc + 3) ls (.long (if x2 < x then x else x2) :: rest))) : W p l e R s m args below meth c H locs cells slots Q (F0 m pc ls (.long x2 :: .long x :: rest)) :=
  va_mmax_long B.hx B.hb (by rw [B.hml, hls]) B.hown (B.hts _ hl) (B.hts _ wm_s2) (B.hts _ wm_in) (B.hts _ wm_c2) hR.1 hR.2 hcs.1 hcs.2 hd kk
end ROWS2
/-- a Fraction in the heap -/
def Fr (G : Gm) (A : Nat → Prop) (H : Heap) (q : Nat) (r : Rat) : Prop := ∃ n d : Int64, Ob G A H q 1 [.long n, .long d] ∧ Frx n d r
theorem Fr.mv {G : Gm} {A A' : Nat → Prop} {H H' : Heap} {q : Nat} {r : Rat} (h : Fr G A H q r) (m : Mv A H A' H') : Fr G A' H' q r := by
  obtain ⟨n, d, h1, h2⟩ := h
  exact ⟨n, d, h1.mv m, h2⟩
theorem Fr.lt {G : Gm} {A : Nat → Prop} {H : Heap} {q : Nat} {r : Rat} (h : Fr G A H q r) : q < H.size := by
  obtain ⟨n, d, h1, h2⟩ := h
  exact h1.lt
