/-! THE LAW from its entry -/
theorem qkRL_8 : Cond.classLink RL 8 RX11 ∈ WS := in_t1 30 rfl rfl
theorem qn12 : Cond.instantiable RX11 11 ∈ WS := in_t1 31 rfl rfl
theorem qkRL_84 : Cond.classLink RL 84 RX13 ∈ WS := in_t5 101 rfl rfl
theorem qn14 : Cond.instantiable RX13 36 ∈ WS := in_t5 102 rfl rfl
theorem qlRL_83 : Cond.methodLink RL 83 yX11_init ∈ WS := in_t1 32 rfl rfl
theorem qiX11_init : Cond.instanceMethod yX11_init ∈ WS := in_t1 33 rfl rfl
theorem qcX11_init : Cond.code yX11_init cX11_init 1 none ∈ WS := in_t1 34 rfl rfl
theorem qlRL_86 : Cond.methodLink RL 86 yX13_init ∈ WS := in_t5 103 rfl rfl
theorem qiX13_init : Cond.instanceMethod yX13_init ∈ WS := in_t5 104 rfl rfl
theorem qcX13_init : Cond.code yX13_init cX13_init 1 none ∈ WS := in_t5 105 rfl rfl
theorem qarrL : Cond.arrayClass (newarray.typeOf .long) ∈ WS := in_t7 86 rfl rfl
/-- nothing there -/
def S00 : St := (fun _ => 0, fun _ _ => 0, fun _ _ => none, fun _ => 0, fun _ _ => 0, fun _ _ => none)
theorem gB0 {y : MethodName} {cc : ByteArray} {n : Nat} {r : Option FieldType} (h5 : Cond.code y cc n r ∈ WS) : GoodIn WS (wsOf y cc n r) := fun w hw => by
  rcases List.mem_cons.mp hw with rfl | h
  · exact ⟨h5, good_WS h5⟩
  · exact ⟨h, good_WS h⟩
section LWN
variable {p : Program} {l : Launch} {e : Env} {R : Room} {s : State} {m : MethodId} {args : Array Value} {below : List Frame} {meth : Method} {c : Code} {nL : Nat} {w : Wd} {k n : Nat} {Q : State → Prop} {S S1 : St} {pc : Nat} {lst : List (Nat × Value)} {st : List Value} {cc : ByteArray} {Ts : List Cond} {own : String} {ret : Option FieldType} {nm : String} {L1 : List Nat}
theorem k_mv1 (hw : wX w = []) (kk : ∀ L1 : List Nat, (∀ a, kd S a ≠ 0 → a ∈ L1) → K p l e R s m args below meth c nL (wset w (va_pl L1 (cellOf w S))) k n Q S00 pc lst st) : K p l e R s m args below meth c nL w k n Q S pc lst st := fun H locs ls g1 g2 g3 => by
  obtain ⟨L, a1, a2, a3⟩ := g1
  rw [hw] at a2 a3
  refine kk L a1 H locs ls ⟨[], fun a h => absurd rfl h, ?_, ?_⟩ g2 g3
  · show va_P (wD w) vwCl (va_pl L (cellOf w S) ++ []) H
    rw [List.append_nil]; exact a2
  · show va_D (wA w) (va_pl L (cellOf w S) ++ [])
    rw [List.append_nil]; exact a3
theorem k_newL (B : Bd p s m args meth c cc nL Ts own w ret nm) (h1L : ∀ a, kd S1 a ≠ 0 → a ∈ L1) (harr : Cond.arrayClass (newarray.typeOf .long) ∈ Ts) (hcells : k + 1 ≤ R.cells) (hslots : n + 1 ≤ R.slots) (hd : decode cc pc = .ok (.newarray .long, 2)) (kk : ∀ (q : Nat) (L2 : List Nat), (∀ a, kd S a ≠ 0 → a ∈ L2) → K p l e R s m args below meth c nL (sW w q (fun _ => 0) S L2) (k + 1) (n + 1) Q S1 (pc + 2) lst (.ref q :: st)) : K p l e R s m args below meth c nL (wset w (va_pl L1 (cellOf w S1))) k n Q S pc lst (.int 1 :: st) := fun H locs ls h1 h2 h3 => by
  obtain ⟨L, hL, hP, hD⟩ := h1
  refine va_newa (D := wD w) (cl := vwCl) (atype := .long) (a0 := (1, .inr (.inl (fun _ => 0)))) B.1.1 B.1.2.1 (B.1.2.2.2.2 _ harr) (ty := .long) rfl B.2.1 hP hD h2 B.2.2.1 (N' := 1) (fun cA => rfl) (by decide) (by decide) (by decide) hcells hslots hd (fun q cA H1 hK1 hP1 hD1 hS1 => ?_)
  have e1 : s.vm.findClass ("[" ++ FieldType.long.toString) = some cA := (hK1.2 4 (cA, .long) rfl).2
  have e2 : s.vm.findClass ("[" ++ FieldType.long.toString) = some (wL w) := (B.2.1.2 3 (wL w, .long) rfl).2
  have e3 : cA = wL w := Option.some.inj (e1.symm.trans e2)
  subst e3
  have hperm : ((va_pl L1 (cellOf w S1) ++ va_pl L (cellOf w S)) ++ [(q, (.inl (wL w, 1, .inr (.inl (fun _ => 0))) : va_E))]).Perm (((q, (.inl (wL w, 1, .inr (.inl (fun _ => 0))) : va_E)) :: va_pl L (cellOf w S)) ++ va_pl L1 (cellOf w S1)) := by
    refine List.perm_append_comm.trans ?_
    exact List.Perm.cons _ (List.perm_append_comm (l₁ := va_pl L1 (cellOf w S1)) (l₂ := va_pl L (cellOf w S)))
  obtain ⟨p1, p2⟩ := PD_perm hperm hP1 hD1
  exact kk q L hL H1 locs ls ⟨L1, h1L, p1, p2⟩ hS1 h3
end LWN
section LWO
variable {p : Program} {l : Launch} {e : Env} {s : State} {m : MethodId} {args : Array Value} {below : List Frame} {meth : Method} {c : Code} {w : Wd} {nmL : String}
theorem law_body (B : Bd p s m args meth c cL_law 9 WS RL w (some .boolean) nmL) {b L : Nat} {xs : Nat → Int32} {Q : State → Prop} (hw : wX w = []) (hl : l.stackTraces = false) (hX : va_X b L xs s s.heap) (hbl : b < s.heap.size) (hbA : ¬ wA w b) (hL : L ≤ 3072)
    (hx : ∀ (S1 S2 : St) (f : Nat → Int64) (L2 : List Nat) (x m2 out k n i : Nat), k ≤ 601024 → n ≤ 7293034 → K p l e rLaw s m args below meth c 9 (sW w out f S2 L2) k n Q S1 1776 (lawL b x m2 out i) []) : K p l e rLaw s m args below meth c 9 w 0 0 Q S00 0 [(0, .ref b)] [] := by
  refine k_new B 12 rfl rfl (by decide) tyX11 tyX11_ok (by decide +kernel) (fun w h => uw_12 w h) qkRL_8 qn12 qzRX11 (Nat.le_of_ble_eq_true rfl) (Nat.le_of_ble_eq_true rfl) dL_law_0 (fun x fx => ?_)
  refine k_dup B rfl dL_law_3 ?_
  refine callC_V (st := [.ref x]) B [] (c_clI (α := al0) (by rw [kd_nw, if_pos rfl]) rfl rfl rfl rfl rfl rfl rfl rfl) (cwI 0 B.1.2.2.2.2 (gB0 qcX11_init) rfl rfl rfl (B.1.2.2.2.2 _ qzRX11) (B.1.2.2.2.2 _ qlRL_83) (B.1.2.2.2.2 _ qiX11_init) rfl (by decide +kernel) ⟨Nat.le_of_ble_eq_true rfl, Nat.le_of_ble_eq_true rfl⟩) rfl (Nat.le_of_ble_eq_true rfl) rfl dL_law_4 ⟨Nat.le_of_ble_eq_true rfl, Nat.le_of_ble_eq_true rfl⟩ (fun S1 h1 => ?_)
  obtain ⟨T, rfl, hT⟩ := h1
  refine k_astore_n (lst' := [(1, .ref (T 0 0)), (0, .ref b)]) B rfl (by decide) rfl dL_law_7 ?_
  refine k_mv1 hw (fun L1 hL1 => ?_)
  have B1 : Bd p s m args meth c cL_law 9 WS RL (wset w (va_pl L1 (cellOf w S1))) (some .boolean) nmL := B
  refine k_new B1 14 rfl rfl (by decide) tyX13 tyX13_ok (by decide +kernel) (fun w h => uw_14 w h) qkRL_84 qn14 qzRX13 (Nat.le_of_ble_eq_true rfl) (Nat.le_of_ble_eq_true rfl) dL_law_8 (fun m2 fm => ?_)
  refine k_dup B1 rfl dL_law_11 ?_
  refine callC_V (st := [.ref m2]) B1 [] (c_mdI (by rw [kd_nw, if_pos rfl]) (fun G => by rw [gI_nw, if_pos rfl])) (cwI 0 B.1.2.2.2.2 (gB0 qcX13_init) rfl rfl rfl (B.1.2.2.2.2 _ qzRX13) (B.1.2.2.2.2 _ qlRL_86) (B.1.2.2.2.2 _ qiX13_init) rfl (by decide +kernel) ⟨Nat.le_of_ble_eq_true rfl, Nat.le_of_ble_eq_true rfl⟩) rfl (Nat.le_of_ble_eq_true rfl) rfl dL_law_12 ⟨Nat.le_of_ble_eq_true rfl, Nat.le_of_ble_eq_true rfl⟩ (fun S2 h2 => ?_)
  obtain ⟨s0, ah, A, hM⟩ := h2
  refine k_astore_n (lst' := [(2, .ref m2), (1, .ref (T 0 0)), (0, .ref b)]) B1 rfl (by decide) rfl dL_law_15 ?_
  refine k_iconst (v := 1) B1 (by decide) dL_law_16 ?_
  refine k_newL B hL1 qarrL (Nat.le_of_ble_eq_true rfl) (Nat.le_of_ble_eq_true rfl) dL_law_17 (fun out L2 hL2 => ?_)
  have B2 : Bd p s m args meth c cL_law 9 WS RL (sW w out (fun _ => 0) S2 L2) (some .boolean) nmL := B
  refine k_astore_n (lst' := [(3, .ref out), (2, .ref m2), (1, .ref (T 0 0)), (0, .ref b)]) B2 rfl (by decide) rfl dL_law_19 ?_
  refine k_iconst (v := 0) B2 (by decide) dL_law_20 ?_
  refine k_istore (lst' := [(4, .int 0), (3, .ref out), (2, .ref m2), (1, .ref (T 0 0)), (0, .ref b)]) B2 (by decide) rfl dL_law_21 ?_
  refine k_sub (lst' := lawL b (T 0 0) m2 out 0) [4, 3, 2, 1, 0] rfl ?_
  exact law_loop B hl hX hbl hbA hL (k0 := 2000) (n0 := 20000) (Nat.le_refl _) (Nat.le_refl _) (fun S1 S2 f L2 k n i h3 h4 => hx S1 S2 f L2 _ _ _ k n i h3 h4) 512 0 (Nat.le_refl _) 0 _ _ rfl (Nat.zero_le _) (Nat.le_of_ble_eq_true rfl) (Nat.le_of_ble_eq_true rfl) S1 S2 _ L2 ⟨T, s0, ah, A, al0, rfl, hT, hM, y_al0, hL2⟩
end LWO
