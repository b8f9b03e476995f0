def lsN (α : Ab) : Nat → Int32
  | 0 => 0
  | q + 1 => lsN α q + (if Loose α q then 1 else 0)
theorem lsN_congr {α β : Ab} (f : FrM α β) (n : Nat) : lsN β n = lsN α n := by
  induction n with
  | zero => rfl
  | succ n ih =>
    unfold lsN
    rw [ih]
    by_cases c : Loose α n
    · rw [if_pos c, if_pos ((Loose_congr f n).mpr c)]
    · rw [if_neg c, if_neg (fun z => c ((Loose_congr f n).mp z))]
def ctN (α : Ab) : Nat → Int32
  | 0 => 0
  | v + 1 => ctN α v + rc α v
theorem ctN_congr {α β : Ab} (f : FrM α β) (n : Nat) : ctN β n = ctN α n := by
  induction n with
  | zero => rfl
  | succ n ih => unfold ctN; rw [ih, rc_congr f]
theorem hwN_congr {α β : Ab} (f : FrM α β) (v : Int32) (n : Nat) : hwN β v n = hwN α v n := by
  induction n with
  | zero => rfl
  | succ n ih => unfold hwN; rw [ih, f 834 rfl]
def cntV (α : Ab) (what : Nat) : Int32 := if what = 0 then α 832 0 else if what = 1 then α 900 0 else if what = 2 then α 906 0 else if what = 3 then α 909 0 else if what = 4 then α 913 0 else if what = 5 then hwN α 0 (nP α) else if what = 6 then lsN α (nP α) else if what = 7 then hwN α 1 (nP α) else if what = 8 then hwN α 2 (nP α) else if what = 9 then hwN α 3 (nP α) else if what = 10 then hwN α 4 (nP α) else ctN α (nV α)
theorem cntV_congr {α β : Ab} (f : FrM α β) (what : Nat) : cntV β what = cntV α what := by
  unfold cntV; rw [hwN_congr f, hwN_congr f, hwN_congr f, hwN_congr f, hwN_congr f, lsN_congr f, ctN_congr f, nP_congr f, nV_congr f, f 832 rfl, f 900 rfl, f 906 rfl, f 909 rfl, f 913 rfl]
def opCount (α : Ab) (a : Int32) : Out := if isIx a 12 then (0, cntV α (cl a), α) else (1, 0, α)
section MCO
variable {p : Program} {l : Launch} {e : Env} {s : State} {m : MethodId} {args : Array Value} {below : List Frame} {meth : Method} {c : Code} {w : Wd} {S : St}
theorem l_ctLoose (B : Bd p s m args meth c cX13_counted 5 (wsOf yX13_counted cX13_counted 5 (some .int)) RX13 w (some .int) "counted") {Q : State → Prop} {m0 s0 ah : Nat} {v1 v3 : Int32} {A : Nat → Nat} {α : Ab} (h : MR S m0 s0 ah A α) (hA : AI1 α)
    (hx : K p l e rX13_counted s m args below meth c 5 w 0 0 Q S 39 [(0, .ref m0), (1, .int v1), (2, .int (lsN α (nP α))), (3, .int v3)] []) : ∀ d q, q + d = nP α → K p l e rX13_counted s m args below meth c 5 w 0 0 Q S 7 [(0, .ref m0), (1, .int v1), (2, .int (lsN α q)), (3, .int v3), (4, .int (nI q))] [] := by
  have n30 := hA.2.1.2.2.2.2
  have e9 : gI S 913 m0 = nI (nP α) := (h.sc 913 (by decide)).trans hA.2.1.2.2.2.1
  have g1 := h.1.1
  intro d
  induction d with
  | zero =>
    intro q hq
    have hq : q = nP α := by omega
    subst hq
    exact bX13_counted_7 B g1 (fun _ => hx) (fun c => absurd (by rw [e9]; exact Int32.le_refl _) c)
  | succ d ih =>
    intro q hq
    have hql : q < nP α := by omega
    have go := ih (q + 1) (by omega)
    have es : lsN α (q + 1) = lsN α q + (if Loose α q then 1 else 0) := rfl
    rw [es] at go
    refine bX13_counted_7 B g1 (fun c => absurd c (by rw [e9]; exact nI_ge hql (by omega))) (fun _ => ?_)
    refine bX13_counted_16 B (c_isFree h hA (show q < 30 by omega)) (Nat.le_of_ble_eq_true rfl) (Nat.le_of_ble_eq_true rfl) g1 (fun r S' hq1 => ?_)
    obtain ⟨rfl, hq1⟩ := hq1
    rcases hq1 with ⟨rfl, hL⟩ | ⟨rfl, hL⟩
    · rw [if_pos hL] at go
      exact bX13_counted_23 B (fun c => absurd c ne1) (fun _ => bX13_counted_26 B (bX13_counted_31 B (by rw [nI_1]; exact go)))
    · rw [if_neg hL] at go
      exact bX13_counted_23 B (fun _ => bX13_counted_30 B (bX13_counted_31 B (by rw [nI_1]; exact go))) (fun c => absurd rfl c)
theorem l_ctCost (B : Bd p s m args meth c cX13_counted 5 (wsOf yX13_counted cX13_counted 5 (some .int)) RX13 w (some .int) "counted") {Q : State → Prop} {m0 s0 ah : Nat} {v1 v2 : Int32} {A : Nat → Nat} {α : Ab} (hA : AI1 α)
    (hx : ∀ S' β, MR S' m0 s0 ah A β → FrC α β → K p l e rX13_counted s m args below meth c 5 w 0 0 Q S' 66 [(0, .ref m0), (1, .int v1), (2, .int v2), (3, .int (ctN α (nV α)))] []) : ∀ d v, v + d = nV α → ∀ S β, MR S m0 s0 ah A β → FrC α β → K p l e rX13_counted s m args below meth c 5 w 0 0 Q S 42 [(0, .ref m0), (1, .int v1), (2, .int v2), (3, .int (ctN α v)), (4, .int (nI v))] [] := by
  have n4 := hA.2.1.2.2.1.2
  intro d
  induction d with
  | zero =>
    intro v hv S β h f
    have hv : v = nV α := by omega
    subst hv
    have e9 : gI S 909 m0 = nI (nV α) := (h.sc 909 (by decide)).trans ((congrFun (f 909 rfl) 0).trans hA.2.1.2.2.1.1)
    exact bX13_counted_42 B h.1.1 (fun _ => hx S β h f) (fun c => absurd (by rw [e9]; exact Int32.le_refl _) c)
  | succ d ih =>
    intro v hv S β h f
    have hvl : v < nV α := by omega
    have v4 : v < 4 := by omega
    have hAb := hA.congr f.m
    have e9 : gI S 909 m0 = nI (nV α) := (h.sc 909 (by decide)).trans ((congrFun (f 909 rfl) 0).trans hA.2.1.2.2.1.1)
    have go := ih (v + 1) (by omega)
    have es : ctN α (v + 1) = ctN α v + rc α v := rfl
    rw [es] at go
    refine bX13_counted_42 B h.1.1 (fun c => absurd c (by rw [e9]; exact nI_ge hvl (by omega))) (fun _ => ?_)
    refine bX13_counted_51 B (c_routeCost h (hAb.rv v4) (hAb.1.tok v4 (by have := hAb.m12 v4; omega) (fun i hi => hAb.rw30 v4 hi))) (Nat.le_of_ble_eq_true rfl) (Nat.le_of_ble_eq_true rfl) h.1.1 (fun r S2 hq2 => ?_)
    obtain ⟨k1, γ, k2, k3, -, -⟩ := hq2
    have er : r = rc α v := by rw [k1, ← rc_congr f.m]; rfl
    subst er
    exact bX13_counted_58 B (by rw [nI_1]; exact go S2 γ k2 (f.tr k3))
end MCO
