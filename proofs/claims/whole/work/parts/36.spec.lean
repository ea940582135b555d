/-! what each call must do: codes of refusal, things made, answers -/
def One {α : Type} (N : Nat) (th : Nat → Th) (f : Int32) (X : Th → Nat → α → Prop) (c : Nat) (r : α) : Prop := (c = 1 ∧ ¬ Tr N f) ∨ ∃ i, i < N ∧ f = nI i ∧ X (th i) c r
def Two {α : Type} (N : Nat) (th : Nat → Th) (f g : Int32) (X : Th → Th → Nat → α → Prop) (c : Nat) (r : α) : Prop := (c = 1 ∧ ¬ (Tr N f ∧ Tr N g)) ∨ ∃ i j, i < N ∧ j < N ∧ f = nI i ∧ g = nI j ∧ X (th i) (th j) c r
/-- a thing is kept, or refused -/
def Kp (N bad : Nat) (t0 : Th) (c : Nat) (t : Th) : Prop := (c = bad ∧ (80 ≤ N ∨ tgT t0 = true)) ∨ (c = 0 ∧ N < 80 ∧ tgT t0 = false ∧ t = t0)
def Fm1 {α : Type} (Y : (Nat → Rat) → Nat → α → Prop) : Th → Nat → α → Prop := fun a c r => (c = 2 ∧ ¬ ∃ u, a = .inl u) ∨ ∃ u, a = .inl u ∧ Y u c r
def Fm2 {α : Type} (Y : (Nat → Rat) → (Nat → Rat) → Nat → α → Prop) : Th → Th → Nat → α → Prop := fun a b c r => (c = 2 ∧ ¬ ((∃ u, a = .inl u) ∧ ∃ v, b = .inl v)) ∨ ∃ u v, a = .inl u ∧ b = .inl v ∧ Y u v c r
def Se1 {α : Type} (Y : St3 → Nat → α → Prop) : Th → Nat → α → Prop := fun a c r => (c = 2 ∧ ¬ ∃ u, a = .inr u) ∨ ∃ u, a = .inr u ∧ Y u c r
def Se2 {α : Type} (Y : St3 → St3 → Nat → α → Prop) : Th → Th → Nat → α → Prop := fun a b c r => (c = 2 ∧ ¬ ((∃ u, a = .inr u) ∧ ∃ v, b = .inr v)) ∨ ∃ u v, a = .inr u ∧ b = .inr v ∧ Y u v c r
def R_number (N : Nat) (p0 q0 : Int32) (c : Nat) (t : Th) : Prop := (c = 1 ∧ q0 = 0) ∨ (q0 ≠ 0 ∧ Kp N 2 (.inl (cst (Rat.divInt p0.toInt q0.toInt))) c t)
def R_letter (N : Nat) (c : Nat) (t : Th) : Prop := Kp N 1 (.inl (asl (cst 1) 4)) c t
def R_add (N : Nat) (th : Nat → Th) (f g : Int32) : Nat → Th → Prop := Two N th f g (Fm2 fun u v => Kp N 3 (.inl (fun k => u k + v k)))
def R_less (N : Nat) (th : Nat → Th) (f g : Int32) : Nat → Th → Prop := Two N th f g (Fm2 fun u v => Kp N 3 (.inl (fun k => u k + v k * (-1))))
def R_times (N : Nat) (th : Nat → Th) (f g : Int32) : Nat → Th → Prop := Two N th f g (Fm2 fun u v c t => (c = 3 ∧ ¬ dgI u + dgI v ≤ 3) ∨ (dgI u + dgI v ≤ 3 ∧ Kp N 3 (.inl (mulF u v)) c t))
def R_over (N : Nat) (th : Nat → Th) (f g : Int32) : Nat → Th → Prop := Two N th f g (Fm2 fun u v c t => (c = 2 ∧ ¬ dgI v ≤ 0) ∨ (dgI v ≤ 0 ∧ ((c = 3 ∧ v 0 = 0) ∨ (v 0 ≠ 0 ∧ Kp N 4 (.inl (fun k => u k * Rat.divInt (v 0).den (v 0).num)) c t))))
def R_derive (N : Nat) (th : Nat → Th) (f : Int32) : Nat → Th → Prop := One N th f (Fm1 fun u => Kp N 3 (.inl (fun k => sel u (nI (k + 1)) * ((k + 1 : Nat) : Rat))))
def R_integral (N : Nat) (th : Nat → Th) (f : Int32) : Nat → Th → Prop := One N th f (Fm1 fun u c t => (c = 3 ∧ ¬ dgI u + 1 ≤ 3) ∨ (dgI u + 1 ≤ 3 ∧ Kp N 3 (.inl (asl u 4)) c t))
def putF (u v : Nat → Rat) : Nat → Rat := if dgI u = -1 then cst 0 else hor u v (dgI u).toNatClampNeg (dgI u).toNatClampNeg
def R_put (N : Nat) (th : Nat → Th) (f g : Int32) : Nat → Th → Prop := Two N th f g (Fm2 fun u v c t => (c = 3 ∧ ¬ dgI u * dgI v ≤ 3) ∨ (dgI u * dgI v ≤ 3 ∧ Kp N 3 (.inl (putF u v)) c t))
def opOK (op : Int32) : Prop := op = 0 ∨ op = 1 ∨ op = 2
def whS (op : Int32) (n : Nat) (pt : Nat → Rat) (sg : Nat → Int32) : St3 := (czn (fun j => chB op (sg j)) n, czp pt (fun j => chB op (sg j)) n, czm (fun j => chB op (sg j)) n)
def R_where (N : Nat) (th : Nat → Th) (f op : Int32) : Nat → Th → Prop := One N th f (Fm1 fun u c t => (c = 2 ∧ ¬ opOK op) ∨ (opOK op ∧ ((c = 3 ∧ NoTell u) ∨ ∃ n pt sg, TellR u n pt sg ∧ Kp N 3 (.inr (whS op n pt sg)) c t)))
def jn (zb : Bool) (y z : St3) (J : Nat) : St3 := (czn (mgb zb y.1 y.2.1 y.2.2 z.1 z.2.1 z.2.2) J, czp (mgp y.1 y.2.1 z.1 z.2.1) (mgb zb y.1 y.2.1 y.2.2 z.1 z.2.1 z.2.2) J, czm (mgb zb y.1 y.2.1 y.2.2 z.1 z.2.1 z.2.2) J)
def R_join (zb : Bool) (N : Nat) (th : Nat → Th) (f g : Int32) : Nat → Th → Prop := Two N th f g (Se2 fun y z c t => ∃ J, MgE y.1 y.2.1 z.1 z.2.1 J ∧ Kp N 3 (.inr (jn zb y z J)) c t)
def R_other (N : Nat) (th : Nat → Th) (f : Int32) : Nat → Th → Prop := One N th f (Se1 fun z => Kp N 3 (.inr (z.1, z.2.1, fun j => !z.2.2 j)))
def kdT : Th → Int32
  | .inl u => kdF u
  | .inr _ => 2
def R_kind (N : Nat) (th : Nat → Th) (f : Int32) : Nat → Int32 → Prop := One N th f (fun a c r => c = 0 ∧ r = kdT a)
def R_degree (N : Nat) (th : Nat → Th) (f : Int32) : Nat → Int32 → Prop := One N th f (Fm1 fun u c r => c = 0 ∧ r = dgI u)
def R_at (N : Nat) (th : Nat → Th) (f p0 part : Int32) : Nat → Int32 → Prop := One N th f (Fm1 fun u c r => (c = 2 ∧ ¬ (part = 0 ∨ part = 1)) ∨ (c = 0 ∧ ((part = 0 ∧ r.toInt = (sel u p0).num) ∨ (part = 1 ∧ r.toInt = ((sel u p0).den : Int)))))
def R_pieces (N : Nat) (th : Nat → Th) (f : Int32) : Nat → Int32 → Prop := One N th f (Se1 fun z c r => c = 0 ∧ r = nI (pcn z.2.2 (2 * z.1 + 1)))
/-- the outermost cell of a piece on a side -/
def EnC (z : St3) (c0 : Nat) (side : Int32) (d : Nat) : Prop := (side = 0 ∧ d = c0) ∨ (side = 1 ∧ c0 ≤ d ∧ d < 2 * z.1 + 1 ∧ (∀ j, c0 < j → j ≤ d → z.2.2 j = true) ∧ (d + 1 < 2 * z.1 + 1 → z.2.2 (d + 1) = false))
def spOK (side part : Int32) : Prop := (side = 0 ∨ side = 1) ∧ (part = 0 ∨ part = 1 ∨ part = 2)
def enR (z : St3) (d : Nat) (side : Int32) : Rat := if epl z.1 d side < 0 then 0 else z.2.1 (eplN z.1 d side)
def R_end (N : Nat) (th : Nat → Th) (f k side part : Int32) : Nat → Int32 → Prop := One N th f (Se1 fun z c r => (c = 1 ∧ ∀ c0, c0 < 2 * z.1 + 1 → sp z.2.2 c0 = true → k ≠ nI (pcn z.2.2 c0)) ∨ ∃ c0, c0 < 2 * z.1 + 1 ∧ sp z.2.2 c0 = true ∧ k = nI (pcn z.2.2 c0) ∧ ((c = 2 ∧ ¬ spOK side part) ∨ (spOK side part ∧ c = 0 ∧ ∃ d, EnC z c0 side d ∧ ((part = 0 ∧ r = (if epl z.1 d side < 0 then 0 else if d % 2 = 1 then 2 else 1)) ∨ (part = 1 ∧ r.toInt = (enR z d side).num) ∨ (part = 2 ∧ r.toInt = ((enR z d side).den : Int))))))
def R_holds (N : Nat) (th : Nat → Th) (f g : Int32) : Nat → Int32 → Prop := Two N th f g (fun a b c r => (c = 2 ∧ ¬ ((∃ z, a = .inr z) ∧ ∃ u, b = .inl u ∧ dgI u ≤ 0)) ∨ ∃ z u, a = .inr z ∧ b = .inl u ∧ dgI u ≤ 0 ∧ c = 0 ∧ ∃ t, IsPos z.1 z.2.1 (u 0) t ∧ r = b2i (z.2.2 t))
def SameZ (y z : St3) : Prop := SameS y.1 y.2.1 y.2.2 z.1 z.2.1 z.2.2
def emZ (z : St3) : Bool := decide (z.1 = 0) && !z.2.2 0
def R_assume (N : Nat) (th : Nat → Th) (as : St3) (f : Int32) : Nat → Int32 × St3 → Prop := One N th f (Se1 fun z c r => (c = 2 ∧ emZ z = true) ∨ (c = 0 ∧ emZ z = false ∧ r.2 = z ∧ ∃ b : Bool, r.1 = b2i (!b) ∧ (b = true ↔ SameZ z as)))
def SmT : Th → Th → Prop
  | .inl u, .inl v => smF u v = true
  | .inr y, .inr z => SameZ y z
  | _, _ => False
def R_same (N : Nat) (th : Nat → Th) (f g : Int32) : Nat → Int32 → Prop := Two N th f g (fun a b c r => c = 0 ∧ ∃ x : Bool, r = b2i x ∧ (x = true ↔ SmT a b))
def sgV (z b a : Bool) : Int32 := if z = true then (if b = true ∨ a = true then 2 else 0) else if b = true then (if a = true then 2 else -1) else 1
/-- the assumed set meets a chosen one -/
def meet (as : St3) (z : St3) (x : Bool) : Prop := ∃ J, MgE as.1 as.2.1 z.1 z.2.1 J ∧ x = !emZ (jn true as z J)
def R_sign (N : Nat) (th : Nat → Th) (as : St3) (f : Int32) : Nat → Int32 → Prop := One N th f (Fm1 fun u c r => (c = 3 ∧ NoTell u) ∨ ∃ n pt sg, TellR u n pt sg ∧ c = 0 ∧ ∃ z b a : Bool, meet as (whS 0 n pt sg) z ∧ meet as (whS 1 n pt sg) b ∧ meet as ((whS 2 n pt sg).1, (whS 2 n pt sg).2.1, fun j => !(whS 2 n pt sg).2.2 j) a ∧ r = sgV z b a)
/-- codes of what is thrown -/
abbrev X1 : List (String × Nat) := [(eIO, 1)]
abbrev X12 : List (String × Nat) := [(eIO, 1), (eIA, 2)]
abbrev X123 : List (String × Nat) := [(eIO, 1), (eIA, 2), (eIS, 3)]
abbrev X1234 : List (String × Nat) := [(eIO, 1), (eIA, 2), (eAR, 3), (eIS, 4)]
abbrev XN : List (String × Nat) := [(eAR, 1), (eIS, 2)]
abbrev XL : List (String × Nat) := [(eIS, 1)]
/-- bounds that keep every number on the way small, and every set narrow -/
def Pok (u v : Nat → Rat) : Prop := ∀ d, d < 4 → dgI u = nI d → dgI u * dgI v ≤ 3 → ∀ i, i < d → Mok (hor u v d i) v ∧ ∀ k, k < 4 → Pb (mulF (hor u v d i) v k) (cst (u (d - 1 - i)) k)
def Bds (N : Nat) (th : Nat → Th) (as : St3) : Prop :=
  (∀ i, i < N → ∀ u, th i = .inl u → ∀ k, k < 4 → Sm (u k)) ∧
  (∀ i, i < N → ∀ z, th i = .inr z → z.1 ≤ 160 ∧ ∀ k, k < z.1 → Sm (z.2.1 k)) ∧
  (as.1 ≤ 160 ∧ ∀ k, k < as.1 → Sm (as.2.1 k)) ∧
  (∀ i j, i < N → j < N → ∀ y z, th i = .inr y → th j = .inr z → ∀ zb J, MgE y.1 y.2.1 z.1 z.2.1 J → (jn zb y z J).1 ≤ 160) ∧
  (∀ i, i < N → ∀ u, th i = .inl u → ∀ n pt sg, TellR u n pt sg → (∀ k, k < n → Bg (pt k)) ∧ ∀ (b : Nat → Bool) (m : Nat → Bool) J, MgE as.1 as.2.1 (czn b n) (czp pt b n) J → (jn true as (czn b n, czp pt b n, m) J).1 ≤ 160) ∧
  (∀ i j, i < N → j < N → ∀ u v, th i = .inl u → th j = .inl v → (∀ k, k < 4 → Pb (u k) (v k) ∧ Pb (u k) (v k * (-1))) ∧ Mok u v ∧ Pok u v)
