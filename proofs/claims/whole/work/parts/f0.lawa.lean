/-! THE LAW'S OWN METHODS: the row of one long, catching -/
/-- the world with the law's row beside -/
def wo (w : Wd) (out : Nat) (f : Nat → Int64) : Wd := (w.1, w.2.1, w.2.2.1, w.2.2.2.1, w.2.2.2.2.1, (out, .inl (wL w, 1, .inr (.inl f))) :: wX w, w.2.2.2.2.2.2)
def XF : String → State → State → Prop := fun _ _ _ => False
def QW (w : Wd) (out : Nat) (post : Int32 → St → (Nat → Int64) → Prop) : Array Value → State → Outcome → State → Prop := va_Qi (fun r (z : St × (Nat → Int64)) => post r z.1 z.2) (fun z t => Hd (wo w out z.2) z.1 t.heap) (wA w)
/-- a wrapper's contract -/
def ConW (l : Launch) (y : MethodName) (ws : List Cond) (rm : Room) (w : Wd) (out : Nat) (f : Nat → Int64) (S : St) (av : List Value) (post : Int32 → St → (Nat → Int64) → Prop) : Prop := vx_Met l y ws rm (PcS (wo w out f) av S) (QW w out post) XF rm.cells rm.slots (wA w)
theorem Hd.woX {w : Wd} {out : Nat} {f : Nat → Int64} {S : St} {H : Heap} (h : Hd (wo w out f) S H) : ∃ L : List Nat, (∀ a, kd S a ≠ 0 → a ∈ L) ∧ va_P (wD w) vwCl ((out, .inl (wL w, 1, .inr (.inl f))) :: (wX w ++ va_pl L (cellOf w S))) H ∧ va_D (wA w) ((out, .inl (wL w, 1, .inr (.inl f))) :: (wX w ++ va_pl L (cellOf w S))) := h
theorem Hd.ofX {w : Wd} {out : Nat} {f : Nat → Int64} {S : St} {H : Heap} {L : List Nat} (h1 : ∀ a, kd S a ≠ 0 → a ∈ L) (h2 : va_P (wD w) vwCl ((out, .inl (wL w, 1, .inr (.inl f))) :: (wX w ++ va_pl L (cellOf w S))) H) (h3 : va_D (wA w) ((out, .inl (wL w, 1, .inr (.inl f))) :: (wX w ++ va_pl L (cellOf w S)))) : Hd (wo w out f) S H := ⟨L, h1, h2, h3⟩
section LWA
variable {p : Program} {l : Launch} {e : Env} {R : Room} {s : State} {m : MethodId} {args : Array Value} {below : List Frame} {meth : Method} {c : Code} {nL : Nat} {w : Wd} {k n : Nat} {Q : State → Prop} {S : St} {pc : Nat} {lst : List (Nat × Value)} {st : List Value} {cc : ByteArray} {Ts : List Cond} {own : String} {ret : Option FieldType} {nm : String} {out : Nat} {f : Nat → Int64}
theorem k_lastO (B : Bd p s m args meth c cc nL Ts own w ret nm) {x : Int64} (hd : decode cc pc = .ok (.lastore, 1)) (kk : K p l e R s m args below meth c nL (wo w out (vp_updL f 0 x)) k n Q S (pc + 1) lst st) : K p l e R s m args below meth c nL (wo w out f) k n Q S pc lst (.long x :: .int 0 :: .ref out :: st) := fun H locs ls h1 h2 h3 => by
  obtain ⟨L, g1, g2, g3⟩ := h1.woX
  refine va_last (D := wD w) (cl := vwCl) (tys := wTy w) B.1.1 B.1.2.1 B.2.1 g2 g3 h2 0 3 (cA := wL w) (n := 1) (f := f) rfl rfl (i := 0) (x := x) (vp_in_nI (show 0 < 1 by omega) (by decide)) hd (fun H1 locs1 e1 e2 e3 => ?_)
  exact kk H1 locs1 ls (Hd.ofX g1 e1 e2) e3 h3
theorem ret_W (B : Bd p s m args meth c cc nL Ts own w ret nm) {v : Int32} {mc ms : Nat} {post : Int32 → St → (Nat → Int64) → Prop} (hr : ret = some .int) (hd : decode cc pc = .ok (.ireturn, 1)) (hk : k ≤ mc) (hn : n ≤ ms) (hq : post v S f) : K p l e R s m args below meth c nL (wo w out f) k n (vx_MQ below (QW w out post) XF args s mc ms (wA w)) S pc lst [.int v] := fun H locs ls h1 h2 h3 =>
  W.widen hk hn (vx_ret (W.iret (v := v) B.1.1 B.1.2.1 (B.2.2.2.2.2.1.trans hr) (fun t ht hW => ⟨⟨v, (S, f), rfl, hq, (show Hd (wo w out f) S t.heap from ht ▸ h1)⟩, h2.F ht⟩) h2.2.2 hd B.2.2.2.2.1))
theorem l_catch (B : Bd p s m args meth c cc nL Ts own w ret nm) {hh : List (Nat × Nat × Nat × Nat)} (hT : c.exceptionTable.toList = tableOf hh) {pre suf : List ExceptionTableEntry} {x : ExceptionTableEntry} {E : String} {ce : Cell} {q9 : Addr} {S' : St} {H1 : Heap} {locs1 : List Loc} {ls : Array Slot}
    (hs : tableOf hh = pre ++ x :: suf) (hp : ∀ z ∈ pre, z.catchType ≠ 0 ∧ ∃ nm : String, Cond.classLink own z.catchType nm ∈ Ts ∧ (E, nm) ∈ NX) (hx : covers x pc = true) (h0 : x.catchType ≠ 0) (hl : Cond.classLink own x.catchType E ∈ Ts) (hE : (E, E) ∈ NC)
    (h1 : Hd w S' H1) (h2 : va_S (wA w) s.heap H1 locs1) (h3 : lv_has ls nL lst) (g1 : H1[q9]? = some ce) (g2 : ce.vm = .none) (g3 : s.vm.findClass E = some ce.cls)
    (kk : K p l e R s m args below meth c nL w k n Q S' x.handlerPc lst [.ref q9]) : vx_W p l e R s m args below meth c H1 locs1 k n Q (F0 m pc ls st) q9 := by
  have hz := B.2.2.2.1.2.2.2.2
  refine vx_catch (own := own) (name := E) (E := E) B.1.2.2.2.1 pre x suf (hT.trans hs) (fun z hzp => ?_) hx h0 (B.1.2.2.2.2 _ hl) (va_Nw.use rfl (hz.2.2.2.1 _ hE)) g1 g2 g3 (kk H1 locs1 ls h1 h2 h3)
  obtain ⟨a, nm, b1, b2⟩ := hp z hzp
  exact Or.inr ⟨a, nm, B.1.2.2.2.2 _ b1, hz.2.2.2.2.1 _ b2⟩
end LWA
theorem conW {l : Launch} {y : MethodName} {ws ws' : List Cond} {rm : Room} {w : Wd} {out : Nat} {f : Nat → Int64} {S : St} {av : List Value} {post : Int32 → St → (Nat → Int64) → Prop} {cc : ByteArray} {maxL : Nat} {ret : Option FieldType} {hh : List (Nat × Nat × Nat × Nat)} (hy : plainName y.cls = true) (hw : ws = Cond.codeWith y cc maxL ret hh :: ws') (hlen : (lg_sl av).length ≤ maxL)
    (body : ∀ (p : Program) (e : Env) (s : State) (m : MethodId) (args : Array Value) (below : List Frame) (meth : Method) (c : Code), Bd p s m args meth c cc maxL ws y.cls w ret y.name → c.exceptionTable.toList = tableOf hh → K p l e rm s m args below meth c maxL (wo w out f) 0 0 (vx_MQ below (QW w out post) XF args s rm.cells rm.slots (wA w)) S 0 (lv_args 0 av) []) : ConW l y ws rm w out f S av post := by
  refine vx_ofWH (cc := cc) (maxL := maxL) (ret := ret) (hh := hh) hy hw ?_
  intro p e s m args below meth c s₁ B hml hv
  obtain ⟨rfl, hH, hK, hZ, hA⟩ := hv
  have hl := lv_entry av (n := maxL) hlen
  have hts := atoms_spec (ws := ws) B.pre
  have hT := vx_table (x := y) B (hts _ (by rw [hw]; exact List.mem_cons_self))
  rw [lg_entry_eq]
  exact body p e s m _ below meth c ⟨⟨B.exec, B.bytes, hml, findClass_of_methodNamed B.named, hts⟩, hK, hA, hZ, B.notSynchronized, B.returns, (name_of_methodNamed B.named B.method).1⟩ hT s.heap [] _ hH va_S.rf hl
abbrev wsOfH (y : MethodName) (c : ByteArray) (n : Nat) (r : Option FieldType) (hh : List (Nat × Nat × Nat × Nat)) : List Cond := .codeWith y c n r hh :: WS
theorem in_ofH {w : Cond} {y : MethodName} {c : ByteArray} {n : Nat} {r : Option FieldType} {hh : List (Nat × Nat × Nat × Nat)} (h : w ∈ WS) : w ∈ wsOfH y c n r hh := List.mem_cons_of_mem _ h
theorem gVH {own : String} {idx : Nat} {y0 y : MethodName} {c0 c : ByteArray} {n0 n : Nat} {r0 r : Option FieldType} {hh : List (Nat × Nat × Nat × Nat)} {C : String} (h1 : Cond.methodLink own idx y ∈ WS) (h2 : Cond.instanceMethod y ∈ WS) (h3 : Cond.selects C y y ∈ WS) (h4 : Cond.initialized C ∈ WS) (h5 : Cond.code y c n r ∈ WS) : GoodIn (wsOfH y0 c0 n0 r0 hh) (wsV own idx C y (wsOf y c n r)) := fun w hw => by
  rcases List.mem_append.mp hw with h | h
  · simp only [List.mem_cons, List.not_mem_nil, or_false] at h
    rcases h with rfl | rfl | rfl | rfl
    · exact ⟨in_ofH h1, good_WS h1⟩
    · exact ⟨in_ofH h2, good_WS h2⟩
    · exact ⟨in_ofH h3, good_WS h3⟩
    · exact ⟨in_ofH h4, good_WS h4⟩
  · rcases List.mem_cons.mp h with rfl | h
    · exact ⟨in_ofH h5, good_WS h5⟩
    · exact ⟨in_ofH h, good_WS h⟩
