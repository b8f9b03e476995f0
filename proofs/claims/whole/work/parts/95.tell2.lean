section CNT
variable {p : Program} {l : Launch} {e : Env} {s : State} {m : MethodId} {args : Array Value} {below : List Frame} {meth : Method} {c : Code} {w : Wd} {S : St}
variable {T : Tb}
theorem l_wait (B : Bd p s m args meth c cX11_waitingFor 5 (wsOf yX11_waitingFor cX11_waitingFor 5 (some .int)) RX11 w (some .int) "waitingFor") {Q : State → Prop} {α : Ab} {i : Nat} (hA : AI1 α) (h : CR w S T α) (hx : K p l e rX11_waitingFor s m args below meth c 5 w 0 0 Q S 54 [(2, .int (waN α i (nP α)))] []) :
    ∀ d q, q + d = nP α → K p l e rX11_waitingFor s m args below meth c 5 w 0 0 Q S 4 [(0, .ref (T 0 0)), (1, .int (nI i)), (2, .int (waN α i q)), (3, .int (nI q))] [] := by
  have n30 := hA.2.1.2.2.2.2
  intro d
  induction d with
  | zero =>
    intro q hq
    have hq : q = nP α := by omega
    subst hq
    refine bX11_waitingFor_4 B h.x.1 h.x.2.2.2.2.2.1 (c_npar h) (h.k1 7 (by decide)) (fun r S1 hq1 => ?_)
    obtain ⟨rfl, rfl⟩ := hq1
    exact bX11_waitingFor_12 B (fun _ => hx) (fun c => absurd (Int32.le_refl _) c)
  | succ d ih =>
    intro q hq
    have hqp : q < nP α := by omega
    have go := ih (q + 1) (by omega)
    obtain ⟨⟨b1, b2, b3, b4, -⟩, d1, d2, d3, -⟩ := h.pa hqp
    have nx : ∀ v2 : Int32, waN α i (q + 1) = v2 → K p l e rX11_waitingFor s m args below meth c 5 w 0 0 Q S 48 [(0, .ref (T 0 0)), (1, .int (nI i)), (2, .int v2), (3, .int (nI q))] [] := fun v2 ev => by
      refine bX11_waitingFor_48 B ?_
      rw [nI_1, ← ev]; exact go
    refine bX11_waitingFor_4 B h.x.1 h.x.2.2.2.2.2.1 (c_npar h) (h.k1 7 (by decide)) (fun r S1 hq1 => ?_)
    obtain ⟨rfl, rfl⟩ := hq1
    refine bX11_waitingFor_12 B (fun c => absurd c (nI_ge hqp (by omega))) (fun _ => ?_)
    refine bX11_waitingFor_15 B h.x.1 h.x.2.2.2.2.2.1 (c_gpar h hqp) (h.k1 7 (by decide)) (fun r S1 hq1 => ?_)
    obtain ⟨rfl, rfl⟩ := hq1
    refine bX11_waitingFor_23 B (h.kp hqp) (fun c => ?_) (fun c => ?_)
    · rw [b4] at c
      exact nx _ (by show _ + (if _ then _ else _) = _; rw [if_neg (fun z => c z.1), i32_add0])
    · rw [b4] at c
      refine bX11_waitingFor_37 B (h.kp hqp) (fun c2 => ?_) (fun c2 => ?_)
      · rw [d3] at c2
        exact nx _ (by show _ + (if _ then _ else _) = _; rw [if_neg (fun z => c2 z.2), i32_add0])
      · rw [d3] at c2
        exact bX11_waitingFor_45 B (nx _ (by show _ + (if _ then _ else _) = _; rw [if_pos ⟨c, c2⟩]))
theorem l_lying (B : Bd p s m args meth c cX11_lyingAt 6 (wsOf yX11_lyingAt cX11_lyingAt 6 (some .int)) RX11 w (some .int) "lyingAt") {Q : State → Prop} {α : Ab} {i : Nat} {st : Int32} (hA : AI1 α) (h : CR w S T α) (hx : K p l e rX11_lyingAt s m args below meth c 6 w 0 0 Q S 58 [(3, .int (lyN α st i (nP α)))] []) :
    ∀ d q, q + d = nP α → K p l e rX11_lyingAt s m args below meth c 6 w 0 0 Q S 5 [(0, .ref (T 0 0)), (1, .int st), (2, .int (nI i)), (3, .int (lyN α st i q)), (4, .int (nI q))] [] := by
  have n30 := hA.2.1.2.2.2.2
  intro d
  induction d with
  | zero =>
    intro q hq
    have hq : q = nP α := by omega
    subst hq
    refine bX11_lyingAt_5 B h.x.1 h.x.2.2.2.2.2.1 (c_npar h) (h.k1 7 (by decide)) (fun r S1 hq1 => ?_)
    obtain ⟨rfl, rfl⟩ := hq1
    exact bX11_lyingAt_14 B (fun _ => hx) (fun c => absurd (Int32.le_refl _) c)
  | succ d ih =>
    intro q hq
    have hqp : q < nP α := by omega
    have go := ih (q + 1) (by omega)
    obtain ⟨-, d1, d2, d3, d4, -⟩ := h.pa hqp
    have nx : ∀ v2 : Int32, lyN α st i (q + 1) = v2 → K p l e rX11_lyingAt s m args below meth c 6 w 0 0 Q S 52 [(0, .ref (T 0 0)), (1, .int st), (2, .int (nI i)), (3, .int v2), (4, .int (nI q))] [] := fun v2 ev => by
      refine bX11_lyingAt_52 B ?_
      rw [nI_1, ← ev]; exact go
    refine bX11_lyingAt_5 B h.x.1 h.x.2.2.2.2.2.1 (c_npar h) (h.k1 7 (by decide)) (fun r S1 hq1 => ?_)
    obtain ⟨rfl, rfl⟩ := hq1
    refine bX11_lyingAt_14 B (fun c => absurd c (nI_ge hqp (by omega))) (fun _ => ?_)
    refine bX11_lyingAt_17 B h.x.1 h.x.2.2.2.2.2.1 (c_gpar h hqp) (h.k1 7 (by decide)) (fun r S1 hq1 => ?_)
    obtain ⟨rfl, rfl⟩ := hq1
    refine bX11_lyingAt_26 B (h.kp hqp) (fun c => ?_) (fun c => ?_)
    · rw [d3] at c
      exact nx _ (by show _ + (if _ then _ else _) = _; rw [if_neg (fun z => c z.1), i32_add0])
    · rw [d3] at c
      refine bX11_lyingAt_40 B (h.kp hqp) (fun c2 => ?_) (fun c2 => ?_)
      · rw [d4] at c2
        exact nx _ (by show _ + (if _ then _ else _) = _; rw [if_neg (fun z => c2 z.2), i32_add0])
      · rw [d4] at c2
        exact bX11_lyingAt_49 B (nx _ (by show _ + (if _ then _ else _) = _; rw [if_pos ⟨c, c2⟩]))
theorem l_inSt (B : Bd p s m args meth c cX11_inState 4 (wsOf yX11_inState cX11_inState 4 (some .int)) RX11 w (some .int) "inState") {Q : State → Prop} {α : Ab} {st : Int32} (hA : AI1 α) (h : CR w S T α) (hx : K p l e rX11_inState s m args below meth c 4 w 0 0 Q S 42 [(2, .int (hwN α st (nP α)))] []) :
    ∀ d q, q + d = nP α → K p l e rX11_inState s m args below meth c 4 w 0 0 Q S 4 [(0, .ref (T 0 0)), (1, .int st), (2, .int (hwN α st q)), (3, .int (nI q))] [] := by
  have n30 := hA.2.1.2.2.2.2
  intro d
  induction d with
  | zero =>
    intro q hq
    have hq : q = nP α := by omega
    subst hq
    refine bX11_inState_4 B h.x.1 h.x.2.2.2.2.2.1 (c_npar h) (h.k1 7 (by decide)) (fun r S1 hq1 => ?_)
    obtain ⟨rfl, rfl⟩ := hq1
    exact bX11_inState_12 B (fun _ => hx) (fun c => absurd (Int32.le_refl _) c)
  | succ d ih =>
    intro q hq
    have hqp : q < nP α := by omega
    have go := ih (q + 1) (by omega)
    obtain ⟨-, d1, d2, d3, -⟩ := h.pa hqp
    have nx : ∀ v2 : Int32, hwN α st (q + 1) = v2 → K p l e rX11_inState s m args below meth c 4 w 0 0 Q S 36 [(0, .ref (T 0 0)), (1, .int st), (2, .int v2), (3, .int (nI q))] [] := fun v2 ev => by
      refine bX11_inState_36 B ?_
      rw [nI_1, ← ev]; exact go
    refine bX11_inState_4 B h.x.1 h.x.2.2.2.2.2.1 (c_npar h) (h.k1 7 (by decide)) (fun r S1 hq1 => ?_)
    obtain ⟨rfl, rfl⟩ := hq1
    refine bX11_inState_12 B (fun c => absurd c (nI_ge hqp (by omega))) (fun _ => ?_)
    refine bX11_inState_15 B h.x.1 h.x.2.2.2.2.2.1 (c_gpar h hqp) (h.k1 7 (by decide)) (fun r S1 hq1 => ?_)
    obtain ⟨rfl, rfl⟩ := hq1
    refine bX11_inState_23 B (h.kp hqp) (fun c => ?_) (fun c => ?_)
    · rw [d3] at c
      exact nx _ (by show _ + (if _ then _ else _) = _; rw [if_neg c, i32_add0])
    · rw [d3] at c
      exact bX11_inState_33 B (nx _ (by show _ + (if _ then _ else _) = _; rw [if_pos c]))
theorem l_loosP (B : Bd p s m args meth c cX11_looseParcels 3 (wsOf yX11_looseParcels cX11_looseParcels 3 (some .int)) RX11 w (some .int) "looseParcels") {Q : State → Prop} {α : Ab} (hA : AI1 α) (h : CR w S T α) (hx : K p l e rX11_looseParcels s m args below meth c 3 w 0 0 Q S 41 [(1, .int (lsN α (nP α)))] []) :
    ∀ d q, q + d = nP α → K p l e rX11_looseParcels s m args below meth c 3 w 0 0 Q S 4 [(0, .ref (T 0 0)), (1, .int (lsN α q)), (2, .int (nI q))] [] := by
  have n30 := hA.2.1.2.2.2.2
  intro d
  induction d with
  | zero =>
    intro q hq
    have hq : q = nP α := by omega
    subst hq
    refine bX11_looseParcels_4 B h.x.1 h.x.2.2.2.2.2.1 (c_npar h) (h.k1 7 (by decide)) (fun r S1 hq1 => ?_)
    obtain ⟨rfl, rfl⟩ := hq1
    exact bX11_looseParcels_12 B (fun _ => hx) (fun c => absurd (Int32.le_refl _) c)
  | succ d ih =>
    intro q hq
    have hqp : q < nP α := by omega
    have go := ih (q + 1) (by omega)
    have nx : ∀ v2 : Int32, lsN α (q + 1) = v2 → K p l e rX11_looseParcels s m args below meth c 3 w 0 0 Q S 35 [(0, .ref (T 0 0)), (1, .int v2), (2, .int (nI q))] [] := fun v2 ev => by
      refine bX11_looseParcels_35 B ?_
      rw [nI_1, ← ev]; exact go
    refine bX11_looseParcels_4 B h.x.1 h.x.2.2.2.2.2.1 (c_npar h) (h.k1 7 (by decide)) (fun r S1 hq1 => ?_)
    obtain ⟨rfl, rfl⟩ := hq1
    refine bX11_looseParcels_12 B (fun c => absurd c (nI_ge hqp (by omega))) (fun _ => ?_)
    refine bX11_looseParcels_15 B h.x.1 h.x.2.2.2.2.2.1 (c_gpar h hqp) (h.k1 7 (by decide)) (fun r S1 hq1 => ?_)
    obtain ⟨rfl, rfl⟩ := hq1
    refine bX11_looseParcels_23 B (h.kp hqp) (c_loose h hqp) (fun r S1 hq1 => ?_)
    obtain ⟨rfl, hL⟩ := hq1
    rcases hL with ⟨rfl, hL⟩ | ⟨rfl, hL⟩
    · exact bX11_looseParcels_29 B (fun z => absurd z (by decide)) (fun _ => bX11_looseParcels_32 B (nx _ (by show _ + (if _ then _ else _) = _; rw [if_pos hL])))
    · exact bX11_looseParcels_29 B (fun _ => nx _ (by show _ + (if _ then _ else _) = _; rw [if_neg hL, i32_add0])) (fun z => absurd rfl z)
theorem l_ctAll (B : Bd p s m args meth c cX11_costOfAll 3 (wsOf yX11_costOfAll cX11_costOfAll 3 (some .int)) RX11 w (some .int) "costOfAll") {Q : State → Prop} {α : Ab} (hA : AIz α) (hx : ∀ S', CR w S' T α → K p l e rX11_costOfAll s m args below meth c 3 w 0 0 Q S' 56 [(1, .int (ctN α (nV α)))] []) :
    ∀ d v, v + d = nV α → ∀ S, CR w S T α → K p l e rX11_costOfAll s m args below meth c 3 w 0 0 Q S 4 [(0, .ref (T 0 0)), (1, .int (ctN α v)), (2, .int (nI v))] [] := by
  have n4 := hA.1.1.2.1.2.2.1.2
  intro d
  induction d with
  | zero =>
    intro v hv S h
    have hv : v = nV α := by omega
    subst hv
    refine bX11_costOfAll_4 B h.x.1 h.x.2.2.2.2.1 (c_nvan h) (h.k1 6 (by decide)) (fun r S1 hq1 => ?_)
    obtain ⟨rfl, rfl⟩ := hq1
    exact bX11_costOfAll_12 B (fun _ => hx S h) (fun c => absurd (Int32.le_refl _) c)
  | succ d ih =>
    intro v hv S h
    have hvv : v < nV α := by omega
    have m12 := hA.1.1.m12 (hA.1.1.v4 hvv)
    refine bX11_costOfAll_4 B h.x.1 h.x.2.2.2.2.1 (c_nvan h) (h.k1 6 (by decide)) (fun r S1 hq1 => ?_)
    obtain ⟨rfl, rfl⟩ := hq1
    refine bX11_costOfAll_12 B (fun c => absurd c (nI_ge hvv (by omega))) (fun _ => ?_)
    refine bX11_costOfAll_15 B h.x.1 h.x.2.2.2.2.2.2.1 h.x.2.2.2.2.1 (c_gvan h hvv) (h.k1 6 (by decide)) (fun r S1 hq1 => ?_)
    obtain ⟨rfl, rfl⟩ := hq1
    refine bX11_costOfAll_28 B (h.kv hvv).1 h.x.1 h.x.2.2.2.2.1 (c_gvan h hvv) (h.k1 6 (by decide)) (fun r S1 hq1 => ?_)
    obtain ⟨rfl, rfl⟩ := hq1
    refine bX11_costOfAll_39 B (h.kv hvv).1 (h.kv hvv).2.1 (c_fol h hA hvv (h.rv hA.1.1 hvv) m12 (rw_P hA.1.1 hvv)) (h.k1 8 (by decide)) (fun r S1 hq1 => ?_)
    obtain ⟨rfl, fq⟩ := hq1
    refine bX11_costOfAll_48 B ?_
    rw [nI_1]
    exact ih (v + 1) (by omega) S1 (h.frx (FrX.ofS fq.frs))
end CNT
section TELL2
variable {l : Launch} {w : Wd} {S : St} {T : Tb} {α : Ab}
theorem c_wait {i : Nat} (h : CR w S T α) (hA : AI1 α) : ConI l yX11_waitingFor (wsOf yX11_waitingFor cX11_waitingFor 5 (some .int)) rX11_waitingFor w S [.ref (T 0 0), .int (nI i)] (fun r S' => S = S' ∧ r = waN α i (nP α)) := by
  refine con_I (by decide +kernel) rfl (Nat.le_of_ble_eq_true rfl) (fun p e s m args below meth c B => ?_)
  exact bX11_waitingFor_0 B (l_wait B hA h (bX11_waitingFor_54 B ⟨rfl, rfl⟩) (nP α) 0 (by omega))
theorem c_lying {i : Nat} {st : Int32} (h : CR w S T α) (hA : AI1 α) : ConI l yX11_lyingAt (wsOf yX11_lyingAt cX11_lyingAt 6 (some .int)) rX11_lyingAt w S [.ref (T 0 0), .int st, .int (nI i)] (fun r S' => S = S' ∧ r = lyN α st i (nP α)) := by
  refine con_I (by decide +kernel) rfl (Nat.le_of_ble_eq_true rfl) (fun p e s m args below meth c B => ?_)
  exact bX11_lyingAt_0 B (l_lying B hA h (bX11_lyingAt_58 B ⟨rfl, rfl⟩) (nP α) 0 (by omega))
theorem c_inSt {st : Int32} (h : CR w S T α) (hA : AI1 α) : ConI l yX11_inState (wsOf yX11_inState cX11_inState 4 (some .int)) rX11_inState w S [.ref (T 0 0), .int st] (fun r S' => S = S' ∧ r = hwN α st (nP α)) := by
  refine con_I (by decide +kernel) rfl (Nat.le_of_ble_eq_true rfl) (fun p e s m args below meth c B => ?_)
  exact bX11_inState_0 B (l_inSt B hA h (bX11_inState_42 B ⟨rfl, rfl⟩) (nP α) 0 (by omega))
theorem c_loosP (h : CR w S T α) (hA : AI1 α) : ConI l yX11_looseParcels (wsOf yX11_looseParcels cX11_looseParcels 3 (some .int)) rX11_looseParcels w S [.ref (T 0 0)] (fun r S' => S = S' ∧ r = lsN α (nP α)) := by
  refine con_I (by decide +kernel) rfl (Nat.le_of_ble_eq_true rfl) (fun p e s m args below meth c B => ?_)
  exact bX11_looseParcels_0 B (l_loosP B hA h (bX11_looseParcels_41 B ⟨rfl, rfl⟩) (nP α) 0 (by omega))
theorem c_ctAll (h : CR w S T α) (hA : AIz α) : ConI l yX11_costOfAll (wsOf yX11_costOfAll cX11_costOfAll 3 (some .int)) rX11_costOfAll w S [.ref (T 0 0)] (fun r S' => r = ctN α (nV α) ∧ CR w S' T α) := by
  refine con_I (by decide +kernel) rfl (Nat.le_of_ble_eq_true rfl) (fun p e s m args below meth c B => ?_)
  exact bX11_costOfAll_0 B (l_ctAll B hA (fun S' h' => bX11_costOfAll_56 B ⟨rfl, h'⟩) (nV α) 0 (by omega) S h)
theorem c_fhom {i u : Nat} (h : CR w S T α) (hA : AI1 α) (hi : i < nH α) (hu : u < 6) : ConI l yX11_factOfHome (wsOf yX11_factOfHome cX11_factOfHome 4 (some .int)) rX11_factOfHome w S [.ref (T 0 0), .int (nI i), .int (nI u)] (fun r S' => S = S' ∧ r = homV α i u) := by
  obtain ⟨b1, b2, b3, b4, -⟩ := h.hm hi
  have k20 : kd S (T 20 i) = 3 := h.k (cnH (by decide) (by decide) hi)
  have k21 : kd S (T 21 i) = 6 := h.k (cnH (by decide) (by decide) hi)
  have l128 : gP S 128 (T 20 i) = some (T 21 i) := h.lk (20, 128, 21) (by decide) (cnH (by decide) (by decide) hi)
  have hz : ∀ j : Nat, j < 10 → nI u = nI j → u = j := fun j hj e => (nI_i u j (by omega) (by omega)).mp e
  refine con_I (by decide +kernel) rfl (Nat.le_of_ble_eq_true rfl) (fun p e s m args below meth c B => ?_)
  refine bX11_factOfHome_0 B h.x.1 h.x.2.2.1 (c_ghom h hi) (h.k1 4 (by decide)) (fun r S1 hq1 => ?_)
  obtain ⟨rfl, rfl⟩ := hq1
  refine bX11_factOfHome_8 B k20 (fun c => ?_) (fun c => ?_) (fun c => ?_) (fun c => ?_) (fun c => ?_) (fun c => ?_)
  · rw [nI_toInt (by omega)] at c
    obtain rfl : u = 5 := by omega
    exact bX11_factOfHome_80 B (c_lying h hA) h.x.1 (fun r S1 hq1 => bX11_factOfHome_86 B hq1)
  · obtain rfl := hz 0 (by omega) c; exact bX11_factOfHome_48 B k20 l128 k21 ⟨rfl, b1⟩
  · obtain rfl := hz 1 (by omega) c; exact bX11_factOfHome_56 B k20 l128 k21 ⟨rfl, b2⟩
  · obtain rfl := hz 2 (by omega) c; exact bX11_factOfHome_64 B k20 ⟨rfl, b3⟩
  · obtain rfl := hz 3 (by omega) c; exact bX11_factOfHome_69 B k20 ⟨rfl, b4⟩
  · obtain rfl := hz 4 (by omega) c; exact bX11_factOfHome_74 B (c_wait h hA) h.x.1 (fun r S1 hq1 => bX11_factOfHome_79 B hq1)
theorem c_floc {i u : Nat} (h : CR w S T α) (hA : AI1 α) (hi : i < nL α) (hu : u < 6) : ConI l yX11_factOfLocker (wsOf yX11_factOfLocker cX11_factOfLocker 4 (some .int)) rX11_factOfLocker w S [.ref (T 0 0), .int (nI i), .int (nI u)] (fun r S' => S = S' ∧ r = locV α i u) := by
  obtain ⟨b1, b2, b3⟩ := h.lo hi
  have k23 : kd S (T 23 i) = 4 := h.k (cnL (by decide) (by decide) hi)
  have k24 : kd S (T 24 i) = 6 := h.k (cnL (by decide) (by decide) hi)
  have k25 : kd S (T 25 i) = 21 := h.k (cnL (by decide) (by decide) hi)
  have n25 : ln S (T 25 i) = 3 := h.lnn (cnL (by decide) (by decide) hi) (by decide)
  have l192 : gP S 192 (T 23 i) = some (T 24 i) := h.lk (23, 192, 24) (by decide) (cnL (by decide) (by decide) hi)
  have l193 : gP S 193 (T 23 i) = some (T 25 i) := h.lk (23, 193, 25) (by decide) (cnL (by decide) (by decide) hi)
  have hz : ∀ j : Nat, j < 10 → nI u = nI j → u = j := fun j hj e => (nI_i u j (by omega) (by omega)).mp e
  refine con_I (by decide +kernel) rfl (Nat.le_of_ble_eq_true rfl) (fun p e s m args below meth c B => ?_)
  refine bX11_factOfLocker_0 B h.x.1 h.x.2.2.2.1 (c_gloc h hi) (h.k1 5 (by decide)) (fun r S1 hq1 => ?_)
  obtain ⟨rfl, rfl⟩ := hq1
  have mid : ∀ b, b < 3 → u = b + 2 → K p l e rX11_factOfLocker s m args below meth c 4 w 0 0 (MQ below (va_Qi (fun r S' => S = S' ∧ r = locV α i u) (fun S' t => Hd w S' t.heap) (wA w)) args s rX11_factOfLocker.cells rX11_factOfLocker.slots (wA w)) S 64 [(2, .int (nI u)), (3, .ref (T 23 i))] [] := by
    intro b hb hub
    have ed : nI u - 2 = nI b := by rw [show (2 : Int32) = nI 2 from rfl, pk_sub (by omega), hub, Nat.add_sub_cancel]
    refine bX11_factOfLocker_64 B k23 l193 k25 (by rw [ed, n25]; exact vp_in_nI hb (by decide)) ⟨rfl, ?_⟩
    rw [ed, nI_clamp (by omega), b3 b hb]
    unfold locV
    rw [if_neg (by omega), if_neg (by omega), if_pos (by omega)]
    congr 1; omega
  refine bX11_factOfLocker_8 B k23 (fun c => ?_) (fun c => ?_) (fun c => ?_) (fun c => ?_) (fun c => ?_) (fun c => ?_)
  · rw [nI_toInt (by omega)] at c
    obtain rfl : u = 5 := by omega
    exact bX11_factOfLocker_73 B (c_lying h hA) h.x.1 (fun r S1 hq1 => bX11_factOfLocker_79 B hq1)
  · obtain rfl := hz 0 (by omega) c; exact bX11_factOfLocker_48 B k23 l192 k24 ⟨rfl, b1⟩
  · obtain rfl := hz 1 (by omega) c; exact bX11_factOfLocker_56 B k23 l192 k24 ⟨rfl, b2⟩
  · obtain rfl := hz 2 (by omega) c; exact mid 0 (by omega) rfl
  · obtain rfl := hz 3 (by omega) c; exact mid 1 (by omega) rfl
  · obtain rfl := hz 4 (by omega) c; exact mid 2 (by omega) rfl
theorem c_fpar {q u : Nat} (h : CR w S T α) (hA : AI1 α) (hq : q < nP α) (hu : u < 9) : ConI l yX11_factOfParcel (wsOf yX11_factOfParcel cX11_factOfParcel 3 (some .int)) rX11_factOfParcel w S [.ref (T 0 0), .ref (T 30 q), .int (nI u)] (fun r S' => S = S' ∧ r = parV α q u) := by
  obtain ⟨⟨b1, b2, b3, b4, b5, b6, b7⟩, d1, d2, d3, d4, d5, d6⟩ := h.pa hq
  have k := h.kp hq
  have hz : ∀ j : Nat, j < 10 → nI u = nI j → u = j := fun j hj e => (nI_i u j (by omega) (by omega)).mp e
  refine con_I (by decide +kernel) rfl (Nat.le_of_ble_eq_true rfl) (fun p e s m args below meth c B => ?_)
  refine bX11_factOfParcel_0 B (fun c => ?_) (fun c => ?_) (fun c => ?_) (fun c => ?_) (fun c => ?_) (fun c => ?_) (fun c => ?_) (fun c => ?_) (fun c => ?_)
  · rw [nI_toInt (by omega)] at c
    obtain rfl : u = 8 := by omega
    exact bX11_factOfParcel_102 B k ⟨rfl, d4⟩
  · obtain rfl := hz 0 (by omega) c; exact bX11_factOfParcel_48 B k ⟨rfl, b2⟩
  · obtain rfl := hz 1 (by omega) c; exact bX11_factOfParcel_53 B k ⟨rfl, b3⟩
  · obtain rfl := hz 2 (by omega) c; exact bX11_factOfParcel_58 B k ⟨rfl, b4⟩
  · obtain rfl := hz 3 (by omega) c; exact bX11_factOfParcel_63 B k ⟨rfl, b6⟩
  · obtain rfl := hz 4 (by omega) c; exact bX11_factOfParcel_68 B k ⟨rfl, b7⟩
  · obtain rfl := hz 5 (by omega) c; exact bX11_factOfParcel_73 B k ⟨rfl, d2⟩
  · obtain rfl := hz 6 (by omega) c; exact bX11_factOfParcel_78 B k ⟨rfl, d3⟩
  · obtain rfl := hz 7 (by omega) c
    have ev : parV α q 7 = vof α q := rfl
    rcases vof_cases hA q with ⟨v, i, on, e1, e2⟩ | ⟨on, e1⟩
    · rw [vop_on hA on] at d1
      refine bX11_factOfParcel_83 B k (fun y _ => ?_) (fun c2 => by rw [d1] at c2; cases c2)
      exact bX11_factOfParcel_94 B k d1 (h.kv on.1).1 (bX11_factOfParcel_101 B ⟨rfl, by rw [ev, e1]; exact (h.va on.1).1⟩)
    · have e3 : vop T α q = none := by unfold vop; rw [if_pos e1]
      rw [e3] at d1
      refine bX11_factOfParcel_83 B k (fun y c2 => by rw [d1] at c2; cases c2) (fun _ => ?_)
      exact bX11_factOfParcel_90 B (bX11_factOfParcel_101 B ⟨rfl, by rw [ev, e1]⟩)
theorem c_cnted {u : Nat} (h : CR w S T α) (hA : AIz α) (hu : u < 12) : ConI l yX11_counted (wsOf yX11_counted cX11_counted 2 (some .int)) rX11_counted w S [.ref (T 0 0), .int (nI u)] (fun r S' => r = cntV α u ∧ CR w S' T α) := by
  have hz : ∀ j : Nat, j < 12 → nI u = nI j → u = j := fun j hj e => (nI_i u j (by omega) (by omega)).mp e
  obtain ⟨ac1, ac2, ac3, ac4⟩ := hA.1.1.2.1
  refine con_I (by decide +kernel) rfl (Nat.le_of_ble_eq_true rfl) (fun p e s m args below meth c B => ?_)
  refine bX11_counted_0 B (fun c => ?_) (fun c => ?_) (fun c => ?_) (fun c => ?_) (fun c => ?_) (fun c => ?_) (fun c => ?_) (fun c => ?_) (fun c => ?_) (fun c => ?_) (fun c => ?_) (fun c => ?_)
  · rw [nI_toInt (by omega)] at c
    obtain rfl : u = 11 := by omega
    exact bX11_counted_132 B (c_ctAll h hA) h.x.1 (fun r S1 hq1 => bX11_counted_136 B hq1)
  · obtain rfl := hz 0 (by omega) c; exact bX11_counted_60 B h.x.1 ⟨h.to.2.2.2, h⟩
  · obtain rfl := hz 1 (by omega) c; exact bX11_counted_65 B h.x.1 h.x.2.2.1 (c_nhom h) (h.k1 4 (by decide)) (fun r S1 hq1 => bX11_counted_72 B ⟨hq1.2.trans ac1.1.symm, hq1.1 ▸ h⟩)
  · obtain rfl := hz 2 (by omega) c; exact bX11_counted_73 B h.x.1 h.x.2.2.2.1 (c_nloc h) (h.k1 5 (by decide)) (fun r S1 hq1 => bX11_counted_80 B ⟨hq1.2.trans ac2.1.symm, hq1.1 ▸ h⟩)
  · obtain rfl := hz 3 (by omega) c; exact bX11_counted_81 B h.x.1 h.x.2.2.2.2.1 (c_nvan h) (h.k1 6 (by decide)) (fun r S1 hq1 => bX11_counted_88 B ⟨hq1.2.trans ac3.1.symm, hq1.1 ▸ h⟩)
  · obtain rfl := hz 4 (by omega) c; exact bX11_counted_89 B h.x.1 h.x.2.2.2.2.2.1 (c_npar h) (h.k1 7 (by decide)) (fun r S1 hq1 => bX11_counted_96 B ⟨hq1.2.trans ac4.1.symm, hq1.1 ▸ h⟩)
  · obtain rfl := hz 5 (by omega) c; exact bX11_counted_97 B (c_inSt h hA.1.1) h.x.1 (fun r S1 hq1 => bX11_counted_102 B ⟨hq1.2, hq1.1 ▸ h⟩)
  · obtain rfl := hz 6 (by omega) c; exact bX11_counted_103 B (c_loosP h hA.1.1) h.x.1 (fun r S1 hq1 => bX11_counted_107 B ⟨hq1.2, hq1.1 ▸ h⟩)
  · obtain rfl := hz 7 (by omega) c; exact bX11_counted_108 B (c_inSt h hA.1.1) h.x.1 (fun r S1 hq1 => bX11_counted_113 B ⟨hq1.2, hq1.1 ▸ h⟩)
  · obtain rfl := hz 8 (by omega) c; exact bX11_counted_114 B (c_inSt h hA.1.1) h.x.1 (fun r S1 hq1 => bX11_counted_119 B ⟨hq1.2, hq1.1 ▸ h⟩)
  · obtain rfl := hz 9 (by omega) c; exact bX11_counted_120 B (c_inSt h hA.1.1) h.x.1 (fun r S1 hq1 => bX11_counted_125 B ⟨hq1.2, hq1.1 ▸ h⟩)
  · obtain rfl := hz 10 (by omega) c; exact bX11_counted_126 B (c_inSt h hA.1.1) h.x.1 (fun r S1 hq1 => bX11_counted_131 B ⟨hq1.2, hq1.1 ▸ h⟩)
end TELL2
