/-! MEAN: both -/
def asN (α : Ab) : Nat → Nat
  | 0 => 0
  | q + 1 => asN α q + cl (α 835 q)
def meanV (α : Ab) : UInt64 := if nP α = 0 then FP.dconst0 else FP.ddiv (FP.i2d (nI (asN α (nP α)))) (FP.i2d (nI (nP α)))
theorem asN_congr {α β : Ab} (f : FrM α β) : ∀ q, asN β q = asN α q := by
  intro q
  induction q with
  | zero => rfl
  | succ q ih => unfold asN; rw [ih, f 835 rfl]
theorem meanV_congr {α β : Ab} (f : FrM α β) : meanV β = meanV α := by unfold meanV; rw [nP_congr f, asN_congr f]
theorem AIy.at3 {α : Ab} (h : AIy α) {q : Nat} (hq : q < nP α) : α 835 q = nI (cl (α 835 q)) ∧ cl (α 835 q) ≤ 3 := by
  obtain ⟨g1, g2⟩ := (h.gp hq).1.nI
  exact ⟨g1, by have : ((cl (α 835 q) : Nat) : Int) ≤ 3 := g2; omega⟩
theorem asN_le {α : Ab} (h : AIy α) : ∀ q, q ≤ nP α → asN α q ≤ 3 * q := by
  intro q
  induction q with
  | zero => intro _; exact Nat.le_refl _
  | succ q ih =>
    intro hq
    have h1 := ih (by omega)
    have h2 := (h.at3 (show q < nP α by omega)).2
    unfold asN
    omega
theorem mean_ok {α : Ab} (h : AIy α) (h0 : ¬ nP α = 0) : vf_n64 (FP.ddiv (FP.i2d (nI (asN α (nP α)))) (FP.i2d (nI (nP α)))) := by
  have n30 := h.1.1.1.2.1.2.2.2.2
  have := asN_le h (nP α) (Nat.le_refl _)
  exact dv_ok (by omega) (by omega) n30
section MEAN1
variable {p : Program} {l : Launch} {e : Env} {s : State} {m : MethodId} {args : Array Value} {below : List Frame} {meth : Method} {c : Code} {w : Wd} {S : St} {T : Tb} {m0 s0 ah : Nat} {A : Nat → Nat}
theorem c_empar {α : Ab} (h : CR w S T α) (n30 : nP α ≤ 30) : ConI l yJx4a65c_isEmpty_aae02 (wsOf yJx4a65c_isEmpty_aae02 cJx4a65c_isEmpty_aae02 1 (some .boolean)) rJx4a65c_isEmpty_aae02 w S [.ref (T 7 0)] (fun r S' => S = S' ∧ r = if nP α = 0 then 1 else 0) := by
  obtain ⟨N, g1, g2, g3, -⟩ := h.ls (j := 3) (by decide)
  have g3 : gI S 2 (T 7 0) = nI (nP α) := g3
  refine con_I (by decide +kernel) rfl (Nat.le_of_ble_eq_true rfl) (fun p e s m args below meth c B => ?_)
  refine bJx4a65c_isEmpty_aae02_0 B g1 (fun z => ?_) (fun z => ?_)
  · rw [g3] at z
    refine bJx4a65c_isEmpty_aae02_11 B (bJx4a65c_isEmpty_aae02_12 B (Or.inl rfl) ⟨rfl, ?_⟩)
    rw [if_neg (fun z2 => z (by rw [z2]; rfl))]
  · rw [g3, show (0 : Int32) = nI 0 from rfl, nI_eq (by omega) (by omega)] at z
    refine bJx4a65c_isEmpty_aae02_7 B (bJx4a65c_isEmpty_aae02_12 B (Or.inr rfl) ⟨rfl, ?_⟩)
    rw [if_pos z]
theorem l_mean (B : Bd p s m args meth c cX11_mean 3 (wsOf yX11_mean cX11_mean 3 (some .double)) RX11 w (some .double) "mean") {Q : State → Prop} {α : Ab} (hA : AIy α) (h : CR w S T α) (hx : K p l e rX11_mean s m args below meth c 3 w 0 0 Q S 38 [(0, .ref (T 0 0)), (1, .int (nI (asN α (nP α))))] []) :
    ∀ d q, q + d = nP α → K p l e rX11_mean s m args below meth c 3 w 0 0 Q S 4 [(0, .ref (T 0 0)), (1, .int (nI (asN α q))), (2, .int (nI q))] [] := by
  have n30 := hA.1.1.1.2.1.2.2.2.2
  intro d
  induction d with
  | zero =>
    intro q hq
    have hq : q = nP α := by omega
    subst hq
    refine bX11_mean_4 B h.x.1 h.x.2.2.2.2.2.1 (c_npar h) (h.k1 7 (by decide)) (fun r S1 hq1 => ?_)
    obtain ⟨rfl, rfl⟩ := hq1
    exact bX11_mean_12 B (fun _ => hx) (fun z => absurd (Int32.le_refl _) z)
  | succ d ih =>
    intro q hq
    have hqp : q < nP α := by omega
    have go := ih (q + 1) (by omega)
    obtain ⟨-, -, d2, -⟩ := h.pa hqp
    have e2 := d2.trans (hA.at3 hqp).1
    refine bX11_mean_4 B h.x.1 h.x.2.2.2.2.2.1 (c_npar h) (h.k1 7 (by decide)) (fun r S1 hq1 => ?_)
    obtain ⟨rfl, rfl⟩ := hq1
    refine bX11_mean_12 B (fun z => absurd z (nI_ge hqp (by omega))) (fun _ => ?_)
    refine bX11_mean_15 B h.x.1 h.x.2.2.2.2.2.1 (c_gpar h hqp) (h.k1 7 (by decide)) (fun r S1 hq1 => ?_)
    obtain ⟨rfl, rfl⟩ := hq1
    refine bX11_mean_24 B (h.kp hqp) ?_
    rw [e2, nI_add, nI_1]
    exact go
theorem k_mean {α : Ab} (h : CR w S T α) (hA : AIy α) : ConD l yX11_mean (wsOf yX11_mean cX11_mean 3 (some .double)) rX11_mean w S [.ref (T 0 0)] (fun r S' => r = meanV α ∧ CX0 w S' (T 0 0) α) := by
  have n30 := hA.1.1.1.2.1.2.2.2.2
  refine con_D (by decide +kernel) rfl (Nat.le_of_ble_eq_true rfl) (fun p e s m args below meth c B => ?_)
  refine bX11_mean_0 B (l_mean B hA h ?_ (nP α) 0 (by omega))
  refine bX11_mean_38 B h.x.1 h.x.2.2.2.2.2.1 (c_empar h n30) (h.k1 7 (by decide)) (fun r S1 hq1 => ?_)
  obtain ⟨rfl, rfl⟩ := hq1
  refine bX11_mean_45 B (fun z => ?_) (fun z => ?_)
  · have z0 : ¬ nP α = 0 := fun z0 => by rw [if_pos z0] at z; exact absurd z (by decide)
    refine bX11_mean_52 B h.x.1 h.x.2.2.2.2.2.1 (c_npar h) (h.k1 7 (by decide)) (fun r S1 hq1 => ?_)
    obtain ⟨rfl, rfl⟩ := hq1
    refine bX11_mean_61 B (mean_ok hA z0) (bX11_mean_63 B ⟨?_, CX0.mk h⟩)
    unfold meanV; rw [if_neg z0]
  · have z0 : nP α = 0 := by
      by_cases z0 : nP α = 0
      · exact z0
      · exact absurd (if_neg z0) z
    refine bX11_mean_48 B (bX11_mean_63 B ⟨?_, CX0.mk h⟩)
    unfold meanV; rw [if_pos z0]
theorem l_mmean (B : Bd p s m args meth c cX13_mean 3 (wsOf yX13_mean cX13_mean 3 (some .double)) RX13 w (some .double) "mean") {Q : State → Prop} {α : Ab} (hA : AIy α) (h : MR S m0 s0 ah A α) (hx : K p l e rX13_mean s m args below meth c 3 w 0 0 Q S 35 [(0, .ref m0), (1, .int (nI (asN α (nP α))))] []) :
    ∀ d q, q + d = nP α → K p l e rX13_mean s m args below meth c 3 w 0 0 Q S 9 [(0, .ref m0), (1, .int (nI (asN α q))), (2, .int (nI q))] [] := by
  have n30 := hA.1.1.1.2.1.2.2.2.2
  have e9 : gI S 913 m0 = nI (nP α) := (h.sc 913 (by decide)).trans hA.1.1.1.2.1.2.2.2.1
  obtain ⟨a1, a2, a3, a4⟩ := h.ar 835 (by decide)
  intro d
  induction d with
  | zero =>
    intro q hq
    have hq : q = nP α := by omega
    subst hq
    exact bX13_mean_9 B h.1.1 (fun _ => hx) (fun z => absurd (by rw [e9]; exact Int32.le_refl _) z)
  | succ d ih =>
    intro q hq
    have hqp : q < nP α := by omega
    have go := ih (q + 1) (by omega)
    refine bX13_mean_9 B h.1.1 (fun z => absurd z (by rw [e9]; exact nI_ge hqp (by omega))) (fun _ => ?_)
    refine bX13_mean_17 B h.1.1 h.1.2.2.2.2.1 h.1.2.1 a1 a2 (by rw [a3]; exact vp_in_nI (show q < 30 by omega) (by decide)) ?_
    rw [a4, nI_clamp (by omega), (hA.at3 hqp).1, nI_add, nI_1]
    exact go
theorem c_mmean {α : Ab} (h : MR S m0 s0 ah A α) (hA : AIy α) : ConD l yX13_mean (wsOf yX13_mean cX13_mean 3 (some .double)) rX13_mean w S [.ref m0] (fun r S' => r = meanV α ∧ ∃ β, MR S' m0 s0 ah A β ∧ FrH 0 α β) := by
  refine con_D (by decide +kernel) rfl (Nat.le_of_ble_eq_true rfl) (fun p e s m args below meth c B => ?_)
  have h1 : MR (sI S 896 m0 0) m0 s0 ah A (au α 896 0 0) := h.setS (F := 896) (by decide) 0
  have f1 : FrM α (au α 896 0 0) := FrM.th
  have hA1 : AIy (au α 896 0 0) := AIy.congr f1 hA
  have e0 := meanV_congr f1
  have t1 : au α 896 0 0 896 0 = 0 := au_same
  refine bX13_mean_0 B h.1.1 ?_
  revert h1 f1 hA1 e0 t1
  generalize au α 896 0 0 = β
  intro h1 f1 hA1 e0 t1
  refine l_mmean B hA1 h1 ?_ (nP β) 0 (by omega)
  have e9 : gI (sI S 896 m0 0) 913 m0 = nI (nP β) := (h1.sc 913 (by decide)).trans hA1.1.1.1.2.1.2.2.2.1
  have n30 := hA1.1.1.1.2.1.2.2.2.2
  refine bX13_mean_35 B h1.1.1 (fun z => ?_) (fun z => ?_)
  · rw [e9, show (0 : Int32) = nI 0 from rfl, nI_eq (by omega) (by omega)] at z
    refine bX13_mean_46 B h1.1.1 (by rw [e9]; exact mean_ok hA1 z) (bX13_mean_54 B ⟨?_, β, h1, f1, t1⟩)
    rw [e9, ← e0]
    unfold meanV; rw [if_neg z]
  · rw [e9, show (0 : Int32) = nI 0 from rfl, nI_eq (by omega) (by omega)] at z
    refine bX13_mean_42 B (bX13_mean_54 B ⟨?_, β, h1, f1, t1⟩)
    rw [← e0]
    unfold meanV; rw [if_pos z]
end MEAN1
