/-- the place of a parcel in a van's row -/
def plN (α : Ab) (q v : Nat) : Nat → Nat
  | 0 => 0
  | n + 1 => if rwf α v n = q then n else plN α q v n
def plc (α : Ab) (q v : Nat) : Nat := plN α q v (mny α v)
theorem plN_at {α : Ab} {q v i n : Nat} (hi : i < n) (h : rwf α v i = q) (hu : ∀ j, j < n → rwf α v j = q → j = i) : plN α q v n = i := by
  induction n with
  | zero => exact absurd hi (by omega)
  | succ n ih =>
    unfold plN
    by_cases c : rwf α v n = q
    · rw [if_pos c]; exact hu n (by omega) c
    · rw [if_neg c]
      refine ih (by rcases Nat.lt_or_ge i n with z | z; exact z; exact absurd (by rw [show n = i by omega]; exact h) c) (fun j hj => hu j (by omega))
theorem plc_at {α : Ab} (hA : AI1 α) {q v i : Nat} (h : OnAt α q v i) : plc α q v = i :=
  plN_at h.2.1 h.2.2 (fun j hj e => (hA.on_uniq (show OnAt α q v j from ⟨h.1, hj, e⟩) h).2)
/-- a parcel is taken out of its row -/
def takA (α : Ab) (v i : Nat) : Ab := setRow α v (mny α v - 1) (remF (rwf α v) i)
theorem remF_lt {f : Nat → Nat} {k j : Nat} (h : j < k) : remF f k j = f j := if_pos h
theorem remF_ge {f : Nat → Nat} {k j : Nat} (h : k ≤ j) : remF f k j = f (j + 1) := if_neg (by omega)
theorem remF_mem {f : Nat → Nat} {k j n : Nat} (hj : j < n - 1) : ∃ i, i < n ∧ i ≠ k ∧ remF f k j = f i := by
  rcases Nat.lt_or_ge j k with c | c
  · exact ⟨j, by omega, by omega, remF_lt c⟩
  · exact ⟨j + 1, by omega, by omega, remF_ge c⟩
theorem remF_inj {f : Nat → Nat} {k n : Nat} (hf : ∀ i j, i < n → j < n → f i = f j → i = j) : ∀ i j, i < n - 1 → j < n - 1 → remF f k i = remF f k j → i = j := by
  intro i j hi hj e
  rcases Nat.lt_or_ge i k with a | a <;> rcases Nat.lt_or_ge j k with b | b
  · rw [remF_lt a, remF_lt b] at e; exact hf i j (by omega) (by omega) e
  · rw [remF_lt a, remF_ge b] at e; have := hf i (j + 1) (by omega) (by omega) e; omega
  · rw [remF_ge a, remF_lt b] at e; have := hf (i + 1) j (by omega) (by omega) e; omega
  · rw [remF_ge a, remF_ge b] at e; have := hf (i + 1) (j + 1) (by omega) (by omega) e; omega
theorem AI1.tak {α : Ab} (hA : AI1 α) {v i : Nat} (hv : v < nV α) : AI1 (takA α v i) := by
  have v4 := hA.v4 hv
  have m12 := hA.m12 v4
  refine hA.rows hv (by omega) (fun j hj => ?_) (remF_inj (fun i j hi hj e => (hA.2.2.2.2.2 v v i j v4 v4 hi hj e).2)) (fun v' j j' hv' hne hj hj' e => ?_)
  · obtain ⟨x, hx, -, e⟩ := remF_mem (f := rwf α v) (k := i) hj
    rw [e]; exact (hA.2.2.2.2.1 v x v4 hx).2
  · obtain ⟨x, hx, -, e2⟩ := remF_mem (f := rwf α v) (k := i) hj'
    exact hne (hA.2.2.2.2.2 v' v j x hv' v4 hj hx (e.trans e2)).1
def opTake (α : Ab) (a : Int32) : Out :=
  if isIx a (nP α) then
    if vof α (cl a) = -1 then (2, 0, α)
    else (0, rc α (cl (vof α (cl a))) - costM α (cl (vof α (cl a))) (mny α (cl (vof α (cl a))) - 1) (remF (rwf α (cl (vof α (cl a)))) (plc α (cl a) (cl (vof α (cl a))))), takA α (cl (vof α (cl a))) (plc α (cl a) (cl (vof α (cl a)))))
  else (1, 0, α)
section MT
variable {p : Program} {l : Launch} {e : Env} {s : State} {m : MethodId} {args : Array Value} {below : List Frame} {meth : Method} {c : Code} {w : Wd} {S : St}
theorem l_mtake2 (B : Bd p s m args meth c cX13_take 5 (wsOf yX13_take cX13_take 5 (some .int)) RX13 w (some .int) "take") {Q : State → Prop} {m0 s0 ah i n q : Nat} {v2 v3 : Int32} {L : Nat → Nat} {A : Nat → Nat} (hi : i < n) (hn : n ≤ 12) (hLi : ∀ j, j < n → L j < 30 ∧ (L j = q → j = i)) (hq : q < 30)
    {α : Ab} (h : MR S m0 s0 ah A α) (hL : Line α (n - 1) (remF L i)) (hx : K p l e rX13_take s m args below meth c 5 w 0 0 Q S 81 [(0, .ref m0), (2, .int v2), (3, .int v3)] []) :
    ∀ j, j ≤ i → K p l e rX13_take s m args below meth c 5 w 0 0 Q S 53 [(0, .ref m0), (1, .int (nI q)), (2, .int v2), (3, .int v3), (4, .int (nI j + (-1)))] [] := by
  intro j
  induction j with
  | zero => exact fun _ => bX13_take_53 B (fun _ => hx) (fun c => absurd (by decide) c)
  | succ j ih =>
    intro hj
    have e0 : nI (j + 1) + (-1) = nI j := nI_m1 (by omega)
    rw [e0]
    obtain ⟨l1, l2, l3, l4⟩ := h.ar 921 (by decide)
    refine bX13_take_53 B (fun c => absurd c (nI_nn (by omega))) (fun _ => ?_)
    refine bX13_take_58 B h.1.1 l1 l2 (by rw [l3]; exact vp_in_nI (show j < 13 by omega) (by decide)) (fun _ => bX13_take_75 B (ih (by omega))) (fun c => ?_)
    rw [l4, nI_clamp (by omega), (hL.2.2 j (by omega)).1, remF_lt (by omega), nI_eq (by have := (hLi j (by omega)).1; omega) (by omega)] at c
    have := (hLi j (by omega)).2 c
    omega
theorem l_mtake1 (B : Bd p s m args meth c cX13_take 5 (wsOf yX13_take cX13_take 5 (some .int)) RX13 w (some .int) "take") {Q : State → Prop} {m0 s0 ah i n q : Nat} {v2 v3 : Int32} {L : Nat → Nat} {A : Nat → Nat} (hi : i < n) (hn : n ≤ 12) (hLi : ∀ j, j < n → L j < 30 ∧ (L j = q → j = i)) (hLq : L i = q) (hq : q < 30)
    {α : Ab} (h : MR S m0 s0 ah A α) (hL : Line α n L) (hx : ∀ S' β, MR S' m0 s0 ah A β → FrC α β → Line β (n - 1) (remF L i) → K p l e rX13_take s m args below meth c 5 w 0 0 Q S' 81 [(0, .ref m0), (2, .int v2), (3, .int v3)] []) :
    ∀ j, i < j → j ≤ n → K p l e rX13_take s m args below meth c 5 w 0 0 Q S 53 [(0, .ref m0), (1, .int (nI q)), (2, .int v2), (3, .int v3), (4, .int (nI j + (-1)))] [] := by
  intro j
  induction j with
  | zero => exact fun z => absurd z (by omega)
  | succ j ih =>
    intro hj hjn
    have e0 : nI (j + 1) + (-1) = nI j := nI_m1 (by omega)
    rw [e0]
    obtain ⟨l1, l2, l3, l4⟩ := h.ar 921 (by decide)
    refine bX13_take_53 B (fun c => absurd c (nI_nn (by omega))) (fun _ => ?_)
    have er : rI S (A 921) (nI j).toNatClampNeg = nI (L j) := by rw [l4, nI_clamp (by omega)]; exact (hL.2.2 j (by omega)).1
    have hLj := hLi j (by omega)
    refine bX13_take_58 B h.1.1 l1 l2 (by rw [l3]; exact vp_in_nI (show j < 13 by omega) (by decide)) (fun c => bX13_take_75 B (ih ?_ (by omega))) (fun c => ?_)
    · rw [er, nI_eq (by omega) (by omega)] at c
      rcases Nat.lt_or_ge i j with z | z
      · exact z
      · exact absurd (by rw [show j = i by omega]; exact hLq) c
    · rw [er, nI_eq (by omega) (by omega)] at c
      have hji := hLj.2 c
      subst hji
      refine bX13_take_69 B (c_removeL h hL (by omega)) h.1.1 (fun S' hq1 => bX13_take_75 B ?_)
      obtain ⟨β, g1, g2, g3⟩ := hq1
      exact l_mtake2 B hi hn hLi hq g1 g3 (hx S' β g1 g2 g3) j (Nat.le_refl _)
end MT
section MT2
variable {l : Launch} {w : Wd} {S : St} {m0 s0 ah : Nat} {A : Nat → Nat}
theorem setRow_D {α β : Ab} {v n : Nat} {L : Nat → Nat} (f : FrM (setRow α v n L) β) : FrD α β := fun F h1 h2 => (f.d F h1 h2).trans (setRow_d F h1 h2)
theorem c_take {α : Ab} {ia : Int32} (h : MR S m0 s0 ah A α) (hA : AI1 α) : ConI l yX13_take (wsOf yX13_take cX13_take 5 (some .int)) rX13_take w S [.ref m0, .int ia] (PM m0 s0 ah A (opTake α ia)) := by
  refine con_I (by decide +kernel) rfl (Nat.le_of_ble_eq_true rfl) (fun p e s m args below meth c B => ?_)
  have h1 : MR (sI S 896 m0 0) m0 s0 ah A (au α 896 0 0) := h.setS (F := 896) (by decide) 0
  have f1 : FrM α (au α 896 0 0) := FrM.th
  have hA1 := hA.congr f1
  refine bX13_take_0 B h.1.1 (c_isParcel h1 hA1.2.1) (fun r S' hq => ?_)
  obtain ⟨rfl, hq⟩ := hq
  rw [nP_congr f1] at hq
  unfold opTake
  rcases hq with ⟨rfl, ha⟩ | ⟨rfl, ha⟩
  rotate_left
  · rw [if_neg ha]
    exact bX13_take_10 B (fun z => absurd rfl z) (fun _ => bX13_take_13 B (c_no h1) h1.1.1 (fun r S' hq => bX13_take_18 B (hq.back f1)))
  rw [if_pos ha]
  obtain ⟨q, hq, rfl⟩ := ha.nI
  have q30 := hA.p30 hq
  rw [cl_nI (by omega)]
  obtain ⟨⟨g1, g2, g3, g4, g5, g6, g7, g8⟩, -⟩ := id h1
  refine bX13_take_10 B (fun _ => ?_) (fun z => absurd z ne1)
  refine bX13_take_19 B g1 g5 (c_vof h1 hA1 q30) g2 (fun r S' hq1 => ?_)
  obtain ⟨rfl, rfl⟩ := hq1
  rw [vof_congr f1]
  rcases vof_cases hA q with ⟨v, i, o, e1, e2⟩ | ⟨o, e⟩
  rotate_left
  · rw [if_pos e]
    exact bX13_take_27 B (fun z => absurd e z) (fun _ => bX13_take_33 B (c_no h1) h1.1.1 (fun r S' hq => bX13_take_38 B (hq.back f1)))
  rw [if_neg e2]
  refine bX13_take_27 B (fun _ => ?_) (fun z => absurd z e2)
  have v4 := hA.v4 o.1
  have m12 := hA.m12 v4
  rw [e1, cl_nI (by omega), plc_at hA o]
  refine bX13_take_39 B (c_routeCost h1 (hA1.rv v4) (hA1.1.tok v4 (by rw [mny_congr f1]; omega) (fun i hi => hA1.rw30 v4 hi))) h1.1.1 (fun r S2 hq2 => ?_)
  rw [mny_congr f1, show rwf (au α 896 0 0) v = rwf α v from funext fun i => rwf_congr f1 v i] at hq2
  obtain ⟨k1, γ, k2, k3, k4, -⟩ := hq2
  have f2 := f1.tr k3.m
  have o2 := o.2.1
  have er : r = rc α v := by rw [k1, costM_congr f1]; rfl
  have el : gI S2 922 m0 - 1 = nI (mny α v) + (-1) := by
    have : gI S2 922 m0 = nI (mny α v) := (k2.sc 922 (by decide)).trans k4.1
    rw [this, nI_s1 (by omega), nI_m1 (by omega)]
  refine bX13_take_44 B k2.1.1 ?_
  rw [el]
  refine l_mtake1 (L := rwf α v) (i := i) B o2 m12 (fun j hj => ⟨hA.rw30 v4 hj, fun e => (hA.on_uniq (show OnAt α q v j from ⟨o.1, hj, e⟩) o).2⟩) o.2.2 q30 k2 k4 (fun S3 δ d1 d2 d3 => ?_) (mny α v) o2 (Nat.le_refl _)
  have f3 := f2.tr d2.m
  refine bX13_take_81 B (c_keepL d1 v4 (n := mny α v - 1) (L := remF (rwf α v) i) (by omega) d3.1 (fun j hj => (d3.2.2 j hj).1)) d1.1.1 (fun S4 hq4 => ?_)
  obtain ⟨ε, x1, x2, x3⟩ := hq4
  have fD : FrD α ε := fun F a b => (setRow_D x2 F a b).trans (f3.d F a b)
  have hl4 : Line ε (mny α v - 1) (remF (rwf α v) i) := d3.D (setRow_D x2) (x3 921 (by decide) (by decide)) (x3 922 (by decide) (by decide))
  refine bX13_take_86 B (c_costL x1 (hA.1.D fD) hl4 v4) x1.1.1 (fun r4 S5 hq5 => ?_)
  obtain ⟨y1, ζ, y2, y3, y4, -⟩ := hq5
  refine bX13_take_92 B (PM.rf y2 ?_ ?_ ?_)
  · rw [y3 896 rfl, x3 896 (by decide) (by decide), d2 896 rfl, k3 896 rfl]; exact au_same
  · exact (FrM.tr (fun F hF => by rw [x2 F hF]; exact setRow_fr f3 F hF) y3.m)
  · rw [er, y1, costM_D fD]
end MT2
