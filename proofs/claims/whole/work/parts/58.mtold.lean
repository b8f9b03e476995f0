/-! WHAT IS TOLD -/
/-- how many are in a state, at a number -/
def lyN (α : Ab) (st : Int32) (k : Nat) : Nat → Int32
  | 0 => 0
  | q + 1 => lyN α st k q + (if α 834 q = st ∧ α 836 q = nI k then 1 else 0)
theorem lyN_congr {α β : Ab} (f : FrM α β) (st : Int32) (k n : Nat) : lyN β st k n = lyN α st k n := by
  induction n with
  | zero => rfl
  | succ n ih => unfold lyN; rw [ih, f 834 rfl, f 836 rfl]
def locV (α : Ab) (k what : Nat) : Int32 := if what = 0 then α 907 k else if what = 1 then α 908 k else if what < 5 then α 839 (3 * k + what - 2) else lyN α 2 k (nP α)
theorem locV_congr {α β : Ab} (f : FrM α β) (k what : Nat) : locV β k what = locV α k what := by
  unfold locV; rw [lyN_congr f, nP_congr f, f 907 rfl, f 908 rfl, f 839 rfl]
def opTellL (α : Ab) (a b : Int32) : Out := if isIx a (nL α) ∧ isIx b 6 then (0, locV α (cl a) (cl b), α) else (1, 0, α)
section MTO
variable {p : Program} {l : Launch} {e : Env} {s : State} {m : MethodId} {args : Array Value} {below : List Frame} {meth : Method} {c : Code} {w : Wd} {S : St}
theorem l_lockerTold (B : Bd p s m args meth c cX13_lockerTold 5 (wsOf yX13_lockerTold cX13_lockerTold 5 (some .int)) RX13 w (some .int) "lockerTold") {Q : State → Prop} {m0 s0 ah k : Nat} {A : Nat → Nat} {α : Ab} (h : MR S m0 s0 ah A α) (hC : AIc α)
    (hx : K p l e rX13_lockerTold s m args below meth c 5 w 0 0 Q S 102 [(3, .int (lyN α 2 k (nP α)))] []) : ∀ d q, q + d = nP α → K p l e rX13_lockerTold s m args below meth c 5 w 0 0 Q S 51 [(0, .ref m0), (1, .int (nI k)), (3, .int (lyN α 2 k q)), (4, .int (nI q))] [] := by
  have n30 := hC.2.2.2.2
  have e9 : gI S 913 m0 = nI (nP α) := (h.sc 913 (by decide)).trans hC.2.2.2.1
  obtain ⟨⟨g1, g2, g3, g4, g5, g6, g7, g8⟩, -⟩ := id h
  obtain ⟨a1, a2, a3, a4⟩ := h.ar 834 (by decide)
  obtain ⟨b1, b2, b3, b4⟩ := h.ar 836 (by decide)
  intro d
  induction d with
  | zero =>
    intro q hq
    have hq : q = nP α := by omega
    subst hq
    exact bX13_lockerTold_51 B g1 (fun _ => hx) (fun c => absurd (by rw [e9]; exact Int32.le_refl _) c)
  | succ d ih =>
    intro q hq
    have hql : q < nP α := by omega
    have go := ih (q + 1) (by omega)
    have es : lyN α 2 k (q + 1) = lyN α 2 k q + (if α 834 q = 2 ∧ α 836 q = nI k then 1 else 0) := rfl
    rw [es] at go
    have hin : ∀ {N}, N = 30 → vp_in (nI q) N := fun e0 => by rw [e0]; exact vp_in_nI (show q < 30 by omega) (by decide)
    have ev : rI S (A 834) (nI q).toNatClampNeg = α 834 q := by rw [a4, nI_clamp (by omega)]
    have ew : rI S (A 836) (nI q).toNatClampNeg = α 836 q := by rw [b4, nI_clamp (by omega)]
    refine bX13_lockerTold_51 B g1 (fun c => absurd c (by rw [e9]; exact nI_ge hql (by omega))) (fun _ => ?_)
    refine bX13_lockerTold_60 B g1 g5 g2 a1 a2 (hin a3) (fun c => ?_) (fun c => ?_)
    · rw [ev] at c
      rw [if_neg (fun z => c z.1)] at go
      exact bX13_lockerTold_93 B (bX13_lockerTold_94 B (by rw [nI_1]; exact go))
    · rw [ev] at c
      refine bX13_lockerTold_75 B g1 g5 g2 b1 b2 (hin b3) (fun c2 => ?_) (fun c2 => ?_)
      · rw [ew] at c2
        rw [if_neg (fun z => c2 z.2)] at go
        exact bX13_lockerTold_93 B (bX13_lockerTold_94 B (by rw [nI_1]; exact go))
      · rw [ew] at c2
        rw [if_pos ⟨c, c2⟩] at go
        exact bX13_lockerTold_89 B (bX13_lockerTold_94 B (by rw [nI_1]; exact go))
end MTO
section MTP
variable {l : Launch} {w : Wd} {S : St} {m0 s0 ah : Nat} {A : Nat → Nat}
theorem c_lockerTold {α : Ab} {k u : Nat} (h : MR S m0 s0 ah A α) (hC : AIc α) (hk : k < 4) (hu : u < 6) : ConI l yX13_lockerTold (wsOf yX13_lockerTold cX13_lockerTold 5 (some .int)) rX13_lockerTold w S [.ref m0, .int (nI k), .int (nI u)] (fun r S' => S = S' ∧ r = locV α k u) := by
  refine con_I (by decide +kernel) rfl (Nat.le_of_ble_eq_true rfl) (fun p e s m args below meth c B => ?_)
  obtain ⟨⟨g1, g2, g3, g4, g5, g6, g7, g8⟩, -⟩ := id h
  obtain ⟨a1, a2, a3, a4⟩ := h.ar 907 (by decide)
  obtain ⟨b1, b2, b3, b4⟩ := h.ar 908 (by decide)
  obtain ⟨d1, d2, d3, d4⟩ := h.ar 839 (by decide)
  have ek : (nI k).toNatClampNeg = k := nI_clamp (by omega)
  have hin : ∀ {N}, N = 4 → vp_in (nI k) N := fun e0 => by rw [e0]; exact vp_in_nI hk (by decide)
  refine bX13_lockerTold_0 B (fun c => ?_) (fun c => ?_)
  · rw [show (2 : Int32) = nI 2 from rfl, nI_leI (by omega) (by omega)] at c
    refine bX13_lockerTold_25 B (fun c2 => ?_) (fun c2 => ?_)
    · rw [show (5 : Int32) = nI 5 from rfl, nI_leI (by omega) (by omega)] at c2
      refine bX13_lockerTold_46 B (l_lockerTold B h hC (bX13_lockerTold_102 B ⟨rfl, ?_⟩) (nP α) 0 (by omega))
      unfold locV
      rw [if_neg (by omega), if_neg (by omega), if_neg (by omega)]
    · rw [show (5 : Int32) = nI 5 from rfl, nI_leI (by omega) (by omega)] at c2
      have ei : (3 : Int32) * nI k + nI u - 2 = nI (3 * k + u - 2) := by
        rw [show (3 : Int32) * nI k = nI (3 * k) from pk_mul 3 k, nI_add, show (2 : Int32) = nI 2 from rfl, pk_sub (by omega)]
      refine bX13_lockerTold_30 B g1 g5 g2 d1 d2 (by rw [ei, d3]; exact vp_in_nI (show 3 * k + u - 2 < 12 by omega) (by decide)) ⟨rfl, ?_⟩
      rw [ei, nI_clamp (by omega), d4]
      unfold locV
      rw [if_neg (by omega), if_neg (by omega), if_pos (by omega)]
  · rw [show (2 : Int32) = nI 2 from rfl, nI_leI (by omega) (by omega)] at c
    refine bX13_lockerTold_5 B (fun c2 => ?_) (fun c2 => ?_)
    · rw [show (0 : Int32) = nI 0 from rfl, nI_eq (by omega) (by omega)] at c2
      refine bX13_lockerTold_18 B g1 b1 b2 (hin b3) (bX13_lockerTold_24 B ⟨rfl, ?_⟩)
      rw [b4, ek]
      unfold locV
      rw [if_neg (by omega), if_pos (by omega)]
    · rw [show (0 : Int32) = nI 0 from rfl, nI_eq (by omega) (by omega)] at c2
      refine bX13_lockerTold_9 B g1 a1 a2 (hin a3) (bX13_lockerTold_24 B ⟨rfl, ?_⟩)
      rw [a4, ek]
      unfold locV
      rw [if_pos c2]
end MTP
