/-! THE LAW: two states beside one row; the rows of its own instructions -/
def wset (w : Wd) (X : va_W) : Wd := (w.1, w.2.1, w.2.2.1, w.2.2.2.1, w.2.2.2.2.1, X, w.2.2.2.2.2.2)
/-- the world of one state: the law's row, the other state's cells -/
def sW (w : Wd) (out : Nat) (f : Nat → Int64) (S : St) (L : List Nat) : Wd := wset w ((out, .inl (wL w, 1, .inr (.inl f))) :: va_pl L (cellOf w S))
theorem nodup_of_D {A : Nat → Prop} {ws : va_W} (h : va_D A ws) : (ws.map (fun q => q.1)).Nodup := by
  unfold List.Nodup
  rw [List.pairwise_iff_getElem]
  intro i j hi hj hij e1
  rw [List.length_map] at hi hj
  rw [List.getElem_map, List.getElem_map] at e1
  have := h.1 i j ws[i] ws[j] (List.getElem?_eq_getElem hi) (List.getElem?_eq_getElem hj) e1
  omega
theorem D_of_nodup {A : Nat → Prop} {ws : va_W} (h : (ws.map (fun q => q.1)).Nodup) (hA : ∀ q ∈ ws, A q.1) : va_D A ws := by
  refine ⟨fun i j p q hi hj e1 => ?_, fun k q hk => hA q (List.mem_of_getElem? hk)⟩
  unfold List.Nodup at h
  rw [List.pairwise_iff_getElem] at h
  obtain ⟨hi2, hi3⟩ := List.getElem?_eq_some_iff.mp hi
  obtain ⟨hj2, hj3⟩ := List.getElem?_eq_some_iff.mp hj
  rcases Nat.lt_trichotomy i j with z | z | z
  · exfalso
    refine h i j (by rw [List.length_map]; exact hi2) (by rw [List.length_map]; exact hj2) z ?_
    rw [List.getElem_map, List.getElem_map, hi3, hj3]; exact e1
  · exact z
  · exfalso
    refine h j i (by rw [List.length_map]; exact hj2) (by rw [List.length_map]; exact hi2) z ?_
    rw [List.getElem_map, List.getElem_map, hi3, hj3]; exact e1.symm
theorem PD_perm {A : Nat → Prop} {D : va_G} {cl : List vw_C} {X Y : va_W} {H : Heap} (hp : X.Perm Y) (h1 : va_P D cl X H) (h2 : va_D A X) : va_P D cl Y H ∧ va_D A Y := by
  refine ⟨fun k q hk => ?_, D_of_nodup ((hp.map _).nodup_iff.mp (nodup_of_D h2)) (fun q hq => ?_)⟩
  · obtain ⟨i, hi⟩ := List.getElem?_of_mem (hp.mem_iff.mpr (List.mem_of_getElem? hk))
    exact h1 i q hi
  · obtain ⟨i, hi⟩ := List.getElem?_of_mem (hp.mem_iff.mpr hq)
    exact h2.2 i q hi
theorem swap_perm {x : Nat × va_E} {M N : va_W} : ((x :: M) ++ N).Perm ((x :: N) ++ M) := by
  show (x :: (M ++ N)).Perm (x :: (N ++ M))
  exact List.Perm.cons x List.perm_append_comm
theorem Hd.swap {w : Wd} {out : Nat} {f : Nat → Int64} {S1 S2 : St} {L2 : List Nat} {H : Heap} (h2 : ∀ a, kd S2 a ≠ 0 → a ∈ L2) (h : Hd (sW w out f S2 L2) S1 H) : ∃ L1 : List Nat, (∀ a, kd S1 a ≠ 0 → a ∈ L1) ∧ Hd (sW w out f S1 L1) S2 H := by
  obtain ⟨L1, g1, g2, g3⟩ := h
  have g2' : va_P (wD w) vwCl (((out, .inl (wL w, 1, .inr (.inl f))) :: va_pl L2 (cellOf w S2)) ++ va_pl L1 (cellOf w S1)) H := g2
  have g3' : va_D (wA w) (((out, .inl (wL w, 1, .inr (.inl f))) :: va_pl L2 (cellOf w S2)) ++ va_pl L1 (cellOf w S1)) := g3
  obtain ⟨e1, e2⟩ := PD_perm swap_perm g2' g3'
  exact ⟨L1, g1, L2, h2, e1, e2⟩
theorem toFX {l : Launch} {y : MethodName} {ws : List Cond} {rm : Room} {Pc : Array Value → State → Prop} {Qc : Array Value → State → Outcome → State → Prop} {mc ms : Nat} {free A : Nat → Prop} (h : vx_Met l y ws rm Pc Qc XF mc ms free) : vx_Met l y ws rm Pc Qc (vx_X (fun _ : St => False) (fun _ _ _ => False) A) mc ms free :=
  Jvm.Free.MetFree.mono h (fun _ _ z => z) (fun _ _ _ _ _ z => z) (fun a s o t _ hq => hq.elim Or.inl (fun ⟨q, _, E, ce, L, hf, _⟩ => hf.elim))
section LWB
variable {p : Program} {l : Launch} {e : Env} {R : Room} {s : State} {m : MethodId} {args : Array Value} {below : List Frame} {meth : Method} {c : Code} {nL : Nat} {w : Wd} {k n : Nat} {Q : State → Prop} {S S2 : St} {pc : Nat} {lst : List (Nat × Value)} {st : List Value} {cc : ByteArray} {Ts : List Cond} {own : String} {ret : Option FieldType} {nm : String} {out : Nat} {f : Nat → Int64} {L2 : List Nat}
theorem k_swap (h2 : ∀ a, kd S2 a ≠ 0 → a ∈ L2) (kk : ∀ L1 : List Nat, (∀ a, kd S a ≠ 0 → a ∈ L1) → K p l e R s m args below meth c nL (sW w out f S L1) k n Q S2 pc lst st) : K p l e R s m args below meth c nL (sW w out f S2 L2) k n Q S pc lst st := fun H locs ls g1 g2 g3 => by
  obtain ⟨L1, a1, a2⟩ := g1.swap h2
  exact kk L1 a1 H locs ls a2 g2 g3
theorem k_sld (B : Bd p s m args meth c cc nL Ts own w ret nm) {b L : Nat} {xs : Nat → Int32} (hX : va_X b L xs s s.heap) (hbl : b < s.heap.size) (hbA : ¬ wA w b) {i : Int32} (hin : vp_in i L) (hd : decode cc pc = .ok (.iaload, 1)) (kk : K p l e R s m args below meth c nL w k n Q S (pc + 1) lst (.int (xs i.toNatClampNeg) :: st)) : K p l e R s m args below meth c nL w k n Q S pc lst (.int i :: .ref b :: st) := fun H locs ls h1 h2 h3 =>
  va_sld B.1.1 B.1.2.1 hX hbl hbA h2 hin hd (kk H locs ls h1 h2 h3)
theorem k_slen (B : Bd p s m args meth c cc nL Ts own w ret nm) {b L : Nat} {xs : Nat → Int32} (hX : va_X b L xs s s.heap) (hbl : b < s.heap.size) (hbA : ¬ wA w b) (hd : decode cc pc = .ok (.arraylength, 1)) (kk : K p l e R s m args below meth c nL w k n Q S (pc + 1) lst (.int (nI L) :: st)) : K p l e R s m args below meth c nL w k n Q S pc lst (.ref b :: st) := fun H locs ls h1 h2 h3 =>
  va_slen B.1.1 B.1.2.1 hX hbl hbA h2 hd (kk H locs ls h1 h2 h3)
theorem k_laldO (B : Bd p s m args meth c cc nL Ts own w ret nm) (hd : decode cc pc = .ok (.laload, 1)) (kk : K p l e R s m args below meth c nL (sW w out f S2 L2) k n Q S (pc + 1) lst (.long (f 0) :: st)) : K p l e R s m args below meth c nL (sW w out f S2 L2) k n Q S pc lst (.int 0 :: .ref out :: st) := fun H locs ls h1 h2 h3 => by
  obtain ⟨L, g1, g2, g3⟩ := id h1
  exact va_lald (D := wD w) (cl := vwCl) (tys := wTy w) B.1.1 B.1.2.1 B.2.1 g2 0 3 (cA := wL w) (n := 1) (f := f) rfl rfl (i := 0) (vp_in_nI (show 0 < 1 by omega) (by decide)) hd (kk H locs ls h1 h2 h3)
theorem k_lcmp (B : Bd p s m args meth c cc nL Ts own w ret nm) {x y : Int64} (hd : decode cc pc = .ok (.lcmp, 1)) (kk : K p l e R s m args below meth c nL w k n Q S (pc + 1) lst (.int (lg_cmp x y) :: st)) : K p l e R s m args below meth c nL w k n Q S pc lst (.long y :: .long x :: st) := fun H locs ls h1 h2 h3 =>
  W.lcmp B.1.1 B.1.2.1 hd (kk H locs ls h1 h2 h3)

theorem wcallS (B : Bd p s m args meth c cc nL Ts own w ret nm) {y : MethodName} {bytes : ByteArray} {maxL idx nA : Nat} {rt : Option FieldType} {hh : List (Nat × Nat × Nat × Nat)} {ws : List Cond} {rm : Room} {stk : List Value} (As : List Value) {post : Int32 → St → (Nat → Int64) → Prop} (hc : ConW l y ws rm (wset w (va_pl L2 (cellOf w S2))) out f S As post) (cw : vx_CSW R s args own idx y bytes maxL rt hh ws rm rm.cells rm.slots nA) (hn : As.length = nA) (hcat : (st.map fun v => v.category).sum ≤ 8) (hstack : stk = As.reverse ++ st) (hd : decode cc pc = .ok (.invokestatic idx, 3)) (hroom : k + rm.cells ≤ R.cells ∧ n + rm.slots ≤ R.slots)
    (kk : ∀ (r : Int32) (S' : St) (f' : Nat → Int64), post r S' f' → K p l e R s m args below meth c nL (sW w out f' S2 L2) (k + rm.cells) (n + rm.slots) Q S' (pc + 3) lst (.int r :: st)) : K p l e R s m args below meth c nL (sW w out f S2 L2) k n Q S pc lst stk := fun H locs ls h1 h2 h3 =>
  have B' : Bd p s m args meth c cc nL Ts own (sW w out f S2 L2) ret nm := B
  vx_calli (px := fun _ : St => False) (BX := fun _ _ _ => False) (AX := wA w) (vx_runSX (As := As) (rest := st) (hh := hh) B.1 (toFX (A := wA w) hc) cw ⟨PcS_blind _ _ _, pre_S B' h1 h2 _⟩ rfl hn h3.1 hstack (lv_room hcat) hd hroom) h2 (fun q _ h => h) (fun q h => h) (fun q _ h => h) (fun E ce q9 u t H1 locs1 ht hvm hp hB hz hk9 hS1 g1 g2 g3 => hp.elim) (fun r z t H1 locs1 ht hvm hp hB hz hk9 hS1 => kk r z.1 z.2 hp H1 locs1 ls (by rw [← ht]; exact hB) hS1 h3)
end LWB
