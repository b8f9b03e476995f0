/-! THE NUMBERS: distances, minutes, going (both sides come to these) -/
def absd (d : Int32) : Int32 := if 0 ≤ d then d else -d
def dist (ax ay bx by' : Int32) : Int32 := absd (ax - bx) + absd (ay - by')
def hr (t : Int32) : Int32 := t / 60 - t / 60 / 24 * 24
def mins (sl : Nat → Int32) (d t : Int32) : Int32 := (d * sl (hr t).toNatClampNeg + 9) / 10
/-- where a van is: x, y; the beginning of its work, the minute, the minutes of going, the breaks -/
abbrev Tr : Type := Int32 × Int32 × Int32 × Int32 × Int32 × Int32
def goS (sl : Nat → Int32) (t : Tr) (gx gy : Int32) : Tr :=
  (gx, gy, t.2.2.1, t.2.2.2.1 + mins sl (dist t.1 t.2.1 gx gy) t.2.2.2.1, t.2.2.2.2.1 + mins sl (dist t.1 t.2.1 gx gy) t.2.2.2.1, t.2.2.2.2.2)
def brk (t : Tr) : Tr := (t.1, t.2.1, t.2.2.2.1 + 30, t.2.2.2.1 + 30, t.2.2.2.2.1, t.2.2.2.2.2 + 1)
def goB (sl : Nat → Int32) (t : Tr) (gx gy : Int32) : Tr :=
  if t.2.2.2.1 - t.2.2.1 + mins sl (dist t.1 t.2.1 gx gy) t.2.2.2.1 ≤ 240 then goS sl t gx gy else goS sl (brk t) gx gy
theorem st_ext {S S' : St} (h1 : ∀ a, kd S a = kd S' a) (h2 : ∀ f a, gI S f a = gI S' f a) (h3 : ∀ f a, gP S f a = gP S' f a) (h4 : ∀ a, ln S a = ln S' a) (h5 : ∀ a, rI S a = rI S' a) (h6 : ∀ a, rP S a = rP S' a) : S = S' := by
  obtain ⟨a1, a2, a3, a4, a5, a6⟩ := S
  obtain ⟨b1, b2, b3, b4, b5, b6⟩ := S'
  have e1 : a1 = b1 := funext h1
  have e2 : a2 = b2 := funext fun f => funext fun a => h2 f a
  have e3 : a3 = b3 := funext fun f => funext fun a => h3 f a
  have e4 : a4 = b4 := funext h4
  have e5 : a5 = b5 := funext h5
  have e6 : a6 = b6 := funext h6
  subst e1; subst e2; subst e3; subst e4; subst e5; subst e6
  rfl
theorem sI_self (S : St) (f a : Nat) : sI S f a (gI S f a) = S := by
  refine st_ext (fun _ => rfl) (fun f' a' => ?_) (fun _ _ => rfl) (fun _ => rfl) (fun _ => rfl) (fun _ => rfl)
  rw [gI_sI]
  split
  · next h => rw [h.1, h.2]
  · rfl
theorem sI_sI (S : St) (f a : Nat) (u v : Int32) : sI (sI S f a u) f a v = sI S f a v := by
  refine st_ext (fun _ => rfl) (fun f' a' => ?_) (fun _ _ => rfl) (fun _ => rfl) (fun _ => rfl) (fun _ => rfl)
  rw [gI_sI, gI_sI, gI_sI]
  split <;> simp_all
theorem sI_comm (S : St) {f f' : Nat} (h : f ≠ f') (a a' : Nat) (u v : Int32) : sI (sI S f a u) f' a' v = sI (sI S f' a' v) f a u := by
  refine st_ext (fun _ => rfl) (fun g b => ?_) (fun _ _ => rfl) (fun _ => rfl) (fun _ => rfl) (fun _ => rfl)
  rw [gI_sI, gI_sI, gI_sI, gI_sI]
  split
  · split <;> simp_all
  · rfl
theorem k_st {p : Program} {l : Launch} {e : Env} {R : Room} {s : State} {m : MethodId} {args : Array Value} {below : List Frame} {meth : Method} {c : Code} {nL : Nat} {w : Wd} {k n : Nat} {Q : State → Prop} {S S' : St} {pc : Nat} {lst : List (Nat × Value)} {st : List Value} (h : S' = S) (kk : K p l e R s m args below meth c nL w k n Q S' pc lst st) : K p l e R s m args below meth c nL w k n Q S pc lst st := h ▸ kk
theorem k_l {p : Program} {l : Launch} {e : Env} {R : Room} {s : State} {m : MethodId} {args : Array Value} {below : List Frame} {meth : Method} {c : Code} {nL : Nat} {w : Wd} {k n : Nat} {Q : State → Prop} {S : St} {pc : Nat} {lst lst' : List (Nat × Value)} {st : List Value} (h : lst' = lst) (kk : K p l e R s m args below meth c nL w k n Q S pc lst' st) : K p l e R s m args below meth c nL w k n Q S pc lst st := h ▸ kk
