/-! THE LISTS' OWN INSTRUCTIONS: arrays of Object, the empty static array, class objects -/
/-- an array of Object of n places: a cell of the state, or the empty one of the start -/
def Oa (w : Wd) (S : St) (a n : Nat) : Prop := kd S a = 23 ∧ ln S a = n ∨ a = wE w ∧ n = 0
def gcN : MethodName := ⟨"java/lang/Object", "getClass", "()Ljava/lang/Class;"⟩
section JROWS
variable {p : Program} {l : Launch} {e : Env} {R : Room} {s : State} {m : MethodId} {args : Array Value} {below : List Frame} {meth : Method} {c : Code} {nL : Nat} {w : Wd} {k n : Nat} {Q : State → Prop} {S : St} {pc : Nat} {lst : List (Nat × Value)} {st : List Value} {cc : ByteArray} {Ts : List Cond} {own : String} {ret : Option FieldType} {nm : String}
theorem k_getsE (B : Bd p s m args meth c cc nL Ts own w ret nm) {idx : Nat} (hl : Cond.fieldLink own idx "java/util/ArrayList" "DEFAULTCAPACITY_EMPTY_ELEMENTDATA" "[Ljava/lang/Object;" ∈ Ts) (hd : decode cc pc = .ok (.getstatic idx, 3)) (kk : K p l e R s m args below meth c nL w k n Q S (pc + 3) lst (.ref (wE w) :: st)) : K p l e R s m args below meth c nL w k n Q S pc lst st := fun H locs ls h1 h2 h3 =>
  va_gets B.1.1 B.1.2.1 B.2.2.2.1.2.1.1 h2 B.1.2.2.2.1 (B.1.2.2.2.2 _ hl) (fun _ h => h) hd (kk H locs ls h1 h2 h3)
theorem k_oalen (B : Bd p s m args meth c cc nL Ts own w ret nm) {a N : Nat} {v : Int32} (hd : decode cc pc = .ok (.arraylength, 1)) (hk : Oa w S a N) (hv : nI N = v) (kk : K p l e R s m args below meth c nL w k n Q S (pc + 1) lst (.int v :: st)) : K p l e R s m args below meth c nL w k n Q S pc lst (.ref a :: st) := by
  rcases hk with ⟨h1, h2⟩ | ⟨rfl, rfl⟩
  · exact k_olen B hd h1 (by rw [h2]; exact hv) kk
  · exact fun H locs ls h1 h2 h3 => va_tlen B.1.1 B.1.2.1 B.2.2.2.1.2.1.2 h2 hv hd (kk H locs ls h1 h2 h3)
theorem k_newO (B : Bd p s m args meth c cc nL Ts own w ret nm) {z : Int32} {N' idx : Nat} (hl : Cond.classLink own idx "java/lang/Object" ∈ Ts) (hn : ¬ z < 0) (hN : z.toNatClampNeg = N') (hby : N' * 4 ≤ 536870912) (hcells : k + 1 ≤ R.cells) (hslots : n + N' ≤ R.slots) (hd : decode cc pc = .ok (.anewarray idx, 3)) (kk : ∀ q : Nat, kd S q = 0 → K p l e R s m args below meth c nL w (k + 1) (n + N') Q (nw S q 23 N') (pc + 3) lst (.ref q :: st)) : K p l e R s m args below meth c nL w k n Q S pc lst (.int z :: st) := fun H locs ls h1 h2 h3 => by
  obtain ⟨L, hL, hP, hD⟩ := h1
  refine va_newq (D := wD w) (cl := vwCl) B.1.1 B.1.2.1 B.1.2.2.2.1 (B.1.2.2.2.2 _ hl) B.2.2.2.1.2.2.1.2.1 B.2.1 hP hD h2 B.2.2.1 hn hN hby hcells hslots hd (fun q cA H1 hK1 hP1 hD1 hS1 => ?_)
  have e1 := (hK1.2 4 (cA, .object "java/lang/Object") rfl).2
  have e2 := (B.2.1.2 2 (wO w, .object "java/lang/Object") rfl).2
  obtain ⟨-, -, -, -, -, e1⟩ := e1
  obtain ⟨-, -, -, -, -, e2⟩ := e2
  have e3 : cA = wO w := Option.some.inj (e1.symm.trans e2)
  subst e3
  obtain ⟨g1, g2⟩ := Hd_nw (kk := 23) (nn := N') hL hP1 hD1 (by rw [cellOf_23 (by rw [kd_nw, if_pos rfl]), ln_nw, rP_nw, if_pos rfl, if_pos rfl])
  exact kk q g1 H1 locs ls g2 hS1 h3
theorem k_oast (B : Bd p s m args meth c cc nL Ts own w ret nm) {a v ci : Nat} {r : vw_C} {i : Int32} {g : Nat → Option Nat} {S' : St} (hd : decode cc pc = .ok (.aastore, 1)) (hk : kd S a = 23) (hin : vp_in i (ln S a)) (hc : vwCl[ci]? = some r) (h15 : ci < 15) (hob : r.1 ∈ NOb) (hkv : kd S v = ci + 1) (hg : rP S a = g) (hS9 : sRP S a (va_up g i.toNatClampNeg (some v)) = S') (kk : K p l e R s m args below meth c nL w k n Q S' (pc + 1) lst st) : K p l e R s m args below meth c nL w k n Q S pc lst (.ref v :: .int i :: .ref a :: st) := fun H locs ls h1 h2 h3 => by
  subst hg
  subst hS9
  obtain ⟨L, hL, hP, hD⟩ := h1
  have haL := hL a (by omega)
  have hvL := hL v (by omega)
  obtain ⟨q0, hq⟩ := va_pl_get (X := wX w) (f := cellOf w S) haL
  obtain ⟨q1, hq1⟩ := va_pl_get (X := wX w) (f := cellOf w S) hvL
  have he := hq
  rw [cellOf_23 hk] at he
  rw [cellOf_obj (ci := ci) hkv h15] at hq1
  refine va_astqO (D := wD w) (cl := vwCl) (r := r) B.1.1 B.1.2.1 B.2.1 hP hD h2 q0 2 q1 ci he rfl (B.2.2.2.1.2.2.1.2.2.2.2 _ hob) hq1 hc hin hd (fun H1 locs1 hP1 hD1 hS1 => ?_)
  have e : (wX w ++ va_pl L (cellOf w S)).set q0 (a, .inl (wO w, ln S a, .inr (.inr (.inr (.inr (va_up (rP S a) i.toNatClampNeg (some v))))))) = wX w ++ va_pl L (cellOf w (sRP S a (va_up (rP S a) i.toNatClampNeg (some v)))) := by
    rw [va_pl_set hD haL hq]
    exact congrArg (fun l => wX w ++ l) (va_pl_congr (up_sRO hk))
  rw [e] at hP1 hD1
  exact kk H1 locs1 ls ⟨L, fun b hb => hL b (by rwa [kd_sRP] at hb), hP1, hD1⟩ hS1 h3
theorem k_ocopy (B : Bd p s m args meth c cc nL Ts own w ret nm) {idx a0 a ci : Nat} {r : vw_C} {sp dp z : Int32} (hl : Cond.methodLink own idx arraycopyName ∈ Ts) (hnat : Cond.native arraycopyName ∈ Ts) (hst : Cond.static arraycopyName ∈ Ts) (hini : Cond.initialized "java/lang/System" ∈ Ts) (hk0 : kd S a0 = 23) (hk1 : kd S a = 23) (hc : vwCl[ci]? = some r) (h15 : ci < 15) (hob : r.1 ∈ NOb) (hel : ∀ i : Nat, i < z.toNatClampNeg → ∀ y : Nat, rP S a0 (sp.toNatClampNeg + i) = some y → kd S y = ci + 1) (h1 : ¬ sp < 0) (h2 : ¬ dp < 0) (h3 : ¬ z < 0) (h4 : sp.toNatClampNeg + z.toNatClampNeg ≤ ln S a0) (h5 : dp.toNatClampNeg + z.toNatClampNeg ≤ ln S a) (hf : 1 ≤ R.frames) (hlo : (st.map fun v => v.category).sum + (nativeFrameWords "java/lang/System" "arraycopy" 5 + 11) ≤ R.locals) (hd : decode cc pc = .ok (.invokestatic idx, 3)) (kk : K p l e R s m args below meth c nL w k n Q (sRP S a (va_cpy (rP S a0) (rP S a) sp.toNatClampNeg dp.toNatClampNeg z.toNatClampNeg)) (pc + 3) lst st) : K p l e R s m args below meth c nL w k n Q S pc lst (.int z :: .int dp :: .ref a :: .int sp :: .ref a0 :: st) := fun H locs ls g1 g2 g3 => by
  have g1' := g1
  obtain ⟨L, hL, hP, hD⟩ := g1
  have haL := hL a (by omega)
  obtain ⟨q0, hq0⟩ := va_pl_get (X := wX w) (f := cellOf w S) (hL a0 (by omega))
  obtain ⟨q1, hq1⟩ := va_pl_get (X := wX w) (f := cellOf w S) haL
  have he0 := hq0
  have he1 := hq1
  rw [cellOf_23 hk0] at he0
  rw [cellOf_23 hk1] at he1
  refine va_copyq (D := wD w) (cl := vwCl) (C := r.1) B.1.1 B.1.2.1 (B.1.2.2.1.trans g3.1.symm) B.1.2.2.2.1 (B.1.2.2.2.2 _ hl) (B.1.2.2.2.2 _ hnat) (B.1.2.2.2.2 _ hst) (B.1.2.2.2.2 _ hini) B.2.1 hP hD g2 q0 q1 2 2 he0 he1 rfl rfl h1 h2 h3 h4 h5 (fun i hi y hy => recv_S B g1' hc h15 (hel i hi y hy)) (vb_asgC (B.2.2.2.1.2.2.1.2.2.2.2 _ hob)) hf hlo hd (fun H1 locs1 hP1 hD1 hS1 => ?_)
  have e : (wX w ++ va_pl L (cellOf w S)).set q1 (a, .inl (wO w, ln S a, .inr (.inr (.inr (.inr (va_cpy (rP S a0) (rP S a) sp.toNatClampNeg dp.toNatClampNeg z.toNatClampNeg)))))) = wX w ++ va_pl L (cellOf w (sRP S a (va_cpy (rP S a0) (rP S a) sp.toNatClampNeg dp.toNatClampNeg z.toNatClampNeg))) := by
    rw [va_pl_set hD haL hq1]
    exact congrArg (fun l => wX w ++ l) (va_pl_congr (up_sRO hk1))
  rw [e] at hP1 hD1
  exact kk H1 locs1 ls ⟨L, fun b hb => hL b (by rwa [kd_sRP] at hb), hP1, hD1⟩ hS1 g3
theorem k_min (B : Bd p s m args meth c cc nL Ts own w ret nm) {idx : Nat} {x y : Int32} (hl : Cond.methodLink own idx Lib.Math.min.name ∈ Ts) (hst : Cond.static Lib.Math.min.name ∈ Ts) (hin : Cond.initialized "java/lang/Math" ∈ Ts) (hco : Cond.code Lib.Math.min.name Lib.Math.min.code 2 (some .int) ∈ Ts) (hf : 1 ≤ R.frames) (hlo : (st.map fun v => v.category).sum + 13 ≤ R.locals) (hk : k ≤ R.cells) (hn : n ≤ R.slots) (hd : decode cc pc = .ok (.invokestatic idx, 3)) (kk : K p l e R s m args below meth c nL w k n Q S (pc + 3) lst (.int (if y < x then y else x) :: st)) : K p l e R s m args below meth c nL w k n Q S pc lst (.int y :: .int x :: st) := fun H locs ls h1 h2 h3 =>
  va_mmin B.1.1 B.1.2.1 (B.1.2.2.1.trans h3.1.symm) B.1.2.2.2.1 (B.1.2.2.2.2 _ hl) (B.1.2.2.2.2 _ hst) (B.1.2.2.2.2 _ hin) (B.1.2.2.2.2 _ hco) hf hlo hk hn hd (kk H locs ls h1 h2 h3)
theorem k_getC (B : Bd p s m args meth c cc nL Ts own w ret nm) {idx a : Nat} (hl : Cond.methodLink own idx gcN ∈ Ts) (hsel : Cond.selects "[Ljava/lang/Object;" gcN gcN ∈ Ts) (hinst : Cond.instanceMethod gcN ∈ Ts) (hnat : Cond.native gcN ∈ Ts) (hk : kd S a = 23) (hf : 1 ≤ R.frames) (hlo : (st.map fun v => v.category).sum + 14 ≤ R.locals) (hd : decode cc pc = .ok (.invokevirtual idx, 3)) (kk : K p l e R s m args below meth c nL w k n Q S (pc + 3) lst (.ref (wM w) :: st)) : K p l e R s m args below meth c nL w k n Q S pc lst (.ref a :: st) := fun H locs ls h1 h2 h3 => by
  have h1' := h1
  obtain ⟨L, hL, hP, hD⟩ := h1
  obtain ⟨q0, hq⟩ := va_pl_get (X := wX w) (f := cellOf w S) (hL a (by omega))
  rw [cellOf_23 hk] at hq
  have hO : s.vm.findClass "[Ljava/lang/Object;" = some (wO w) := va_nmO (B.2.1.2 2 (wO w, .object "java/lang/Object") rfl).2 (by decide +kernel)
  exact va_getC B.1.1 B.1.2.1 (B.1.2.2.1.trans h3.1.symm) B.1.2.2.2.1 (B.1.2.2.2.2 _ hl) (va_Dc.use B.2.2.2.1.2.2.1.2.2.2.1) (B.1.2.2.2.2 _ hsel) (B.1.2.2.2.2 _ hinst) (B.1.2.2.2.2 _ hnat) B.2.2.2.1.2.2.1.2.2.1 ⟨_, hP q0 _ hq, rfl, hO⟩ hf hlo hd (kk H locs ls h1' h2 h3)
theorem k_ldcM (B : Bd p s m args meth c cc nL Ts own w ret nm) {idx : Nat} (hl : Cond.classLink own idx "[Ljava/lang/Object;" ∈ Ts) (hd : decode cc pc = .ok (.ldc idx, 2)) (kk : K p l e R s m args below meth c nL w k n Q S (pc + 2) lst (.ref (wM w) :: st)) : K p l e R s m args below meth c nL w k n Q S pc lst st := fun H locs ls h1 h2 h3 =>
  va_ldcM B.1.1 B.1.2.1 B.1.2.2.2.1 (B.1.2.2.2.2 _ hl) B.2.2.2.1.2.2.1.2.2.1 hd (kk H locs ls h1 h2 h3)
theorem k_getIS (B : Bd p s m args meth c cc nL Ts own w ret nm) (ci j : Nat) {C ref : String} {T : u_T} {N idx a f : Nat} {v : Int32} (hc : vwCl[ci]? = some (C, T, N)) (hj : j < N) (hz : nf ci = N) (h15 : ci < 15) (hf : f = 64 * ci + j) (hr : isR ci j = false) (hin : ∀ w ∈ u_ws C T N, w ∈ Ts) (hl : Cond.fieldLink own idx ref (T j).2.1 (T j).2.2.1 ∈ Ts) (hsm : Cond.sameField ref (T j).1 (T j).2.1 (T j).2.2.1 ∈ Ts) (hd : decode cc pc = .ok (.getfield idx, 3)) (hk : kd S a = ci + 1) (hv : gI S f a = v) (kk : K p l e R s m args below meth c nL w k n Q S (pc + 3) lst (.int v :: st)) : K p l e R s m args below meth c nL w k n Q S pc lst (.ref a :: st) := fun H locs ls h1 h2 h3 => by
  obtain ⟨L, hL, hP, hD⟩ := h1
  obtain ⟨q0, hq⟩ := va_pl_get (X := wX w) (f := cellOf w S) (hL a (by omega))
  have he := hq
  rw [cellOf_obj hk h15] at he
  exact va_get (D := wD w) (cl := vwCl) (v := .int v) B.1.1 B.1.2.1 B.1.2.2.2.2 hin B.1.2.2.2.1 B.2.1 hP q0 he hc j hj (B.1.2.2.2.2 _ hl) (u_same (B.1.2.2.2.2 _ hsm)) (by simp only [hz, List.getElem?_map, List.getElem?_range hj, Option.map_some]; unfold fv; rw [hr, ← hv, hf]; rfl) hd (kk H locs ls ⟨L, hL, hP, hD⟩ h2 h3)
theorem k_putIS (B : Bd p s m args meth c cc nL Ts own w ret nm) (ci j : Nat) {C ref : String} {T : u_T} {N idx a f : Nat} {v : Int32} (hc : vwCl[ci]? = some (C, T, N)) (hj : j < N) (hz : nf ci = N) (h15 : ci < 15) (hf : f = 64 * ci + j) (hr : isR ci j = false) (hin : ∀ w ∈ u_ws C T N, w ∈ Ts) (hl : Cond.fieldLink own idx ref (T j).2.1 (T j).2.2.1 ∈ Ts) (hsm : Cond.sameField ref (T j).1 (T j).2.1 (T j).2.2.1 ∈ Ts) (ty0 : Nat → FieldType) (hty : ∀ k, k < N → parseFieldDescriptor (T k).2.2.1 = some (ty0 k)) (hnm : ∀ a, a < N → ∀ b, b < N → a ≠ b → (T a).2.1 ≠ (T b).2.1) (hfin : (T j).2.2.2 = false) (hde : parseFieldDescriptor (T j).2.2.1 = some .int) (hd : decode cc pc = .ok (.putfield idx, 3)) (hk : kd S a = ci + 1) (kk : K p l e R s m args below meth c nL w k n Q (sI S f a v) (pc + 3) lst st) : K p l e R s m args below meth c nL w k n Q S pc lst (.int v :: .ref a :: st) := fun H locs ls h1 h2 h3 => by
  obtain ⟨L, hL, hP, hD⟩ := h1
  have haL := hL a (by omega)
  obtain ⟨q0, hq⟩ := va_pl_get (X := wX w) (f := cellOf w S) haL
  have he := hq
  rw [cellOf_obj hk h15] at he
  refine va_put (D := wD w) (cl := vwCl) (v := .int v) B.1.1 B.1.2.1 B.1.2.2.2.2 hin ty0 hty hnm B.1.2.2.2.1 B.2.1 hP hD h2 q0 he hc j hj (B.1.2.2.2.2 _ hl) (u_same (B.1.2.2.2.2 _ hsm)) hfin hde rfl rfl (by simpa [hz] using hj) hd (fun H1 locs1 hP1 hD1 hS1 => ?_)
  have e : (wX w ++ va_pl L (cellOf w S)).set q0 (a, .inr (ci, ((List.range (nf ci)).map (fv S ci a)).set j (.int v))) = wX w ++ va_pl L (cellOf w (sI S f a v)) := by
    rw [va_pl_set hD haL hq]
    exact congrArg (fun l => wX w ++ l) (va_pl_congr (up_sI hk h15 hf hr))
  rw [e] at hP1 hD1
  exact kk H1 locs1 ls ⟨L, fun b hb => hL b (by rwa [kd_sI] at hb), hP1, hD1⟩ hS1 h3
end JROWS
