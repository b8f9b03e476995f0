/-! WEIGHING: the choice as a value, what weighing a row of places makes of it -/
section ACC
variable {l : Launch} {w : Wd} {S : St} {T : Tb} {α : Ab}
theorem c_gvan (h : CR w S T α) {v : Nat} (hv : v < nV α) : ConR l yJx4a65c_get_915e3 (wsOf yJx4a65c_get_915e3 cJx4a65c_get_915e3 2 (some (.object "java/lang/Object"))) rJx4a65c_get_915e3 w S [.ref (T 6 0), .int (nI v)] (fun x S' => S = S' ∧ x = T 27 v) := by
  obtain ⟨N, hL⟩ := h.ls (j := 2) (by decide)
  exact c_lget hL hv
theorem c_gpar (h : CR w S T α) {q : Nat} (hq : q < nP α) : ConR l yJx4a65c_get_915e3 (wsOf yJx4a65c_get_915e3 cJx4a65c_get_915e3 2 (some (.object "java/lang/Object"))) rJx4a65c_get_915e3 w S [.ref (T 7 0), .int (nI q)] (fun x S' => S = S' ∧ x = T 30 q) := by
  obtain ⟨N, hL⟩ := h.ls (j := 3) (by decide)
  exact c_lget hL hq
theorem c_ghom (h : CR w S T α) {i : Nat} (hi : i < nH α) : ConR l yJx4a65c_get_915e3 (wsOf yJx4a65c_get_915e3 cJx4a65c_get_915e3 2 (some (.object "java/lang/Object"))) rJx4a65c_get_915e3 w S [.ref (T 4 0), .int (nI i)] (fun x S' => S = S' ∧ x = T 20 i) := by
  obtain ⟨N, hL⟩ := h.ls (j := 0) (by decide)
  exact c_lget hL hi
theorem c_gloc (h : CR w S T α) {k : Nat} (hk : k < nL α) : ConR l yJx4a65c_get_915e3 (wsOf yJx4a65c_get_915e3 cJx4a65c_get_915e3 2 (some (.object "java/lang/Object"))) rJx4a65c_get_915e3 w S [.ref (T 5 0), .int (nI k)] (fun x S' => S = S' ∧ x = T 23 k) := by
  obtain ⟨N, hL⟩ := h.ls (j := 1) (by decide)
  exact c_lget hL hk
theorem c_nvan (h : CR w S T α) : ConI l yJx4a65c_size_8abf5 (wsOf yJx4a65c_size_8abf5 cJx4a65c_size_8abf5 1 (some .int)) rJx4a65c_size_8abf5 w S [.ref (T 6 0)] (fun r S' => S = S' ∧ r = nI (nV α)) := by
  obtain ⟨N, hL⟩ := h.ls (j := 2) (by decide)
  exact conI_mono (c_lsize hL.1) (fun r S' hq => ⟨hq.1, hq.2.trans hL.2.2.1⟩)
theorem c_npar (h : CR w S T α) : ConI l yJx4a65c_size_8abf5 (wsOf yJx4a65c_size_8abf5 cJx4a65c_size_8abf5 1 (some .int)) rJx4a65c_size_8abf5 w S [.ref (T 7 0)] (fun r S' => S = S' ∧ r = nI (nP α)) := by
  obtain ⟨N, hL⟩ := h.ls (j := 3) (by decide)
  exact conI_mono (c_lsize hL.1) (fun r S' hq => ⟨hq.1, hq.2.trans hL.2.2.1⟩)
theorem c_nhom (h : CR w S T α) : ConI l yJx4a65c_size_8abf5 (wsOf yJx4a65c_size_8abf5 cJx4a65c_size_8abf5 1 (some .int)) rJx4a65c_size_8abf5 w S [.ref (T 4 0)] (fun r S' => S = S' ∧ r = nI (nH α)) := by
  obtain ⟨N, hL⟩ := h.ls (j := 0) (by decide)
  exact conI_mono (c_lsize hL.1) (fun r S' hq => ⟨hq.1, hq.2.trans hL.2.2.1⟩)
theorem c_nloc (h : CR w S T α) : ConI l yJx4a65c_size_8abf5 (wsOf yJx4a65c_size_8abf5 cJx4a65c_size_8abf5 1 (some .int)) rJx4a65c_size_8abf5 w S [.ref (T 5 0)] (fun r S' => S = S' ∧ r = nI (nL α)) := by
  obtain ⟨N, hL⟩ := h.ls (j := 1) (by decide)
  exact conI_mono (c_lsize hL.1) (fun r S' hq => ⟨hq.1, hq.2.trans hL.2.2.1⟩)
/-- the links of the planner -/
theorem CR.x (h : CR w S T α) : kd S (T 0 0) = 13 ∧ gP S 768 (T 0 0) = some (T 1 0) ∧ gP S 769 (T 0 0) = some (T 4 0) ∧ gP S 770 (T 0 0) = some (T 5 0) ∧ gP S 771 (T 0 0) = some (T 6 0) ∧ gP S 772 (T 0 0) = some (T 7 0) ∧ gP S 773 (T 0 0) = some (T 8 0) ∧ gP S 774 (T 0 0) = some (T 13 0) ∧ gP S 775 (T 0 0) = some (T 15 0) ∧ gP S 776 (T 0 0) = some (T 16 0) ∧ gP S 777 (T 0 0) = some (T 18 0) :=
  ⟨h.k (cn1 (by decide)), h.lk (0, 768, 1) (by decide) (cn1 (by decide)), h.lk (0, 769, 4) (by decide) (cn1 (by decide)), h.lk (0, 770, 5) (by decide) (cn1 (by decide)), h.lk (0, 771, 6) (by decide) (cn1 (by decide)), h.lk (0, 772, 7) (by decide) (cn1 (by decide)), h.lk (0, 773, 8) (by decide) (cn1 (by decide)), h.lk (0, 774, 13) (by decide) (cn1 (by decide)), h.lk (0, 775, 15) (by decide) (cn1 (by decide)), h.lk (0, 776, 16) (by decide) (cn1 (by decide)), h.lk (0, 777, 18) (by decide) (cn1 (by decide))⟩
theorem CR.k1 (h : CR w S T α) (c : Nat) (hc : c < 20) : kd S (T c 0) = cKd c := h.k (cn1 hc)
theorem CR.kv (h : CR w S T α) {v : Nat} (hv : v < nV α) : kd S (T 27 v) = 12 ∧ gP S 708 (T 27 v) = some (T 28 v) ∧ kd S (T 28 v) = 8 := ⟨h.k (cnV (by decide) (by decide) hv), h.lk (27, 708, 28) (by decide) (cnV (by decide) (by decide) hv), h.k (cnV (by decide) (by decide) hv)⟩
theorem CR.kp (h : CR w S T α) {q : Nat} (hq : q < nP α) : kd S (T 30 q) = 5 := h.k (cnP (by decide) (by decide) hq)
/-- a loose parcel -/
theorem c_loose (h : CR w S T α) {q : Nat} (hq : q < nP α) : ConI l yX11_isLoose (wsOf yX11_isLoose cX11_isLoose 1 (some .boolean)) rX11_isLoose w S [.ref (T 30 q)] (fun r S' => S = S' ∧ (r = 1 ∧ Loose α q ∨ r = 0 ∧ ¬ Loose α q)) := by
  obtain ⟨-, d1, -, d3, -⟩ := h.pa hq
  have k := h.kp hq
  refine con_I (by decide +kernel) rfl (Nat.le_of_ble_eq_true rfl) (fun p e s m args below meth c B => ?_)
  refine bX11_isLoose_0 B k (fun c1 => ?_) (fun c1 => ?_)
  · rw [d3] at c1
    exact bX11_isLoose_18 B (bX11_isLoose_19 B (Or.inl rfl) ⟨rfl, Or.inr ⟨rfl, fun z => c1 z.1⟩⟩)
  · rw [d3] at c1
    refine bX11_isLoose_7 B k (fun x c2 => ?_) (fun c2 => ?_)
    · refine bX11_isLoose_18 B (bX11_isLoose_19 B (Or.inl rfl) ⟨rfl, Or.inr ⟨rfl, fun z => ?_⟩⟩)
      rw [d1, vop, if_pos z.2] at c2
      cases c2
    · refine bX11_isLoose_14 B (bX11_isLoose_19 B (Or.inr rfl) ⟨rfl, Or.inl ⟨rfl, c1, ?_⟩⟩)
      rw [d1, vop] at c2
      by_cases z : vof α q = -1
      · exact z
      · rw [if_neg z] at c2; cases c2
end ACC
abbrev Cho : Type := Option (Int32 × Nat × Int32)
def ChO (S : St) (T : Tb) : Cho → Prop
  | none => gP S 66 (T 15 0) = none
  | some c => gP S 66 (T 15 0) = some (T 30 c.2.1) ∧ gI S 64 (T 15 0) = c.1 ∧ gI S 65 (T 15 0) = c.2.2
def wgh (o : Cho) (x : Int32) (q : Nat) (sp : Int32) : Cho :=
  match o with
  | none => some (x, q, sp)
  | some c => if c.1 ≤ x then some c else some (x, q, sp)
theorem ChO.of {S S' : St} {T : Tb} {o : Cho} (h : ChO S T o) (h1 : gP S' 66 (T 15 0) = gP S 66 (T 15 0)) (h2 : gI S' 64 (T 15 0) = gI S 64 (T 15 0)) (h3 : gI S' 65 (T 15 0) = gI S 65 (T 15 0)) : ChO S' T o := by
  cases o with
  | none => exact h1.trans h
  | some c => exact ⟨h1.trans h.1, h2.trans h.2.1, h3.trans h.2.2⟩
theorem ChO.frs {mi la lo : Nat} {S S' : St} {T : Tb} {o : Cho} (h : ChO S T o) (f : FrS mi la lo S S') : ChO S' T o :=
  h.of (f.2.2.1 _ _ (by decide)) (f.2.1 _ _ (by decide) (by decide) (by decide) (by decide) (by decide)) (f.2.1 _ _ (by decide) (by decide) (by decide) (by decide) (by decide))
theorem ChO.scr {r q : Nat} {S S' : St} {T : Tb} {o : Cho} (h : ChO S T o) (f : ScR r q S S') : ChO S' T o := by
  obtain ⟨g, v, rfl⟩ := f
  exact h.of rfl (by rw [gI_sI, if_neg (by simp), gI_sRP]) (by rw [gI_sI, if_neg (by simp), gI_sRP])
/-- all routes' cells stay -/
def RtA (S S' : St) : Prop := ∀ r q n f, Rt S r q n f → Rt S' r q n f
/-- a row of places is weighed -/
def wK (α : Ab) (q t n : Nat) (L : Nat → Nat) (sv : Int32) (o : Cho) : Nat → Cho
  | 0 => o
  | k + 1 => if fitsM α t (n + 1) (insL L k q) then wgh (wK α q t n L sv o k) (costM α t (n + 1) (insL L k q) - costM α t n L - sv) q (nI (16 * t + k)) else wK α q t n L sv o k
section WG
variable {l : Launch} {w : Wd} {S : St} {T : Tb} {α : Ab}
theorem c_forget (h : CR w S T α) : ConV l yX0_forget (wsOf yX0_forget cX0_forget 1 none) rX0_forget w S [.ref (T 15 0)] (fun S' => FrX T S S' ∧ ChO S' T none) := by
  refine con_V (by decide +kernel) rfl (Nat.le_of_ble_eq_true rfl) (fun p e s m args below meth c B => ?_)
  refine bX0_forget_0 B (h.k1 15 (by decide)) ⟨⟨fun _ => rfl, fun _ => rfl, fun _ _ _ _ => rfl, fun f a _ h2 => ?_, fun _ _ _ _ => rfl, fun _ _ _ => rfl⟩, ?_⟩
  · rw [gP_sP, if_neg (fun z => h2 z.1)]
  · show gP _ _ _ = none
    rw [gP_sP, if_pos ⟨rfl, rfl⟩]
theorem c_weigh (h : CR w S T α) {o : Cho} (ho : ChO S T o) {x sp : Int32} {q : Nat} : ConV l yX0_weigh (wsOf yX0_weigh cX0_weigh 4 none) rX0_weigh w S [.ref (T 15 0), .int x, .ref (T 30 q), .int sp] (fun S' => FrX T S S' ∧ ChO S' T (wgh o x q sp) ∧ RtA S S') := by
  refine con_V (by decide +kernel) rfl (Nat.le_of_ble_eq_true rfl) (fun p e s m args below meth c B => ?_)
  have k := h.k1 15 (by decide)
  have go : FrX T S (sI (sP (sI S 64 (T 15 0) x) 66 (T 15 0) (some (T 30 q))) 65 (T 15 0) sp) ∧ ChO (sI (sP (sI S 64 (T 15 0) x) 66 (T 15 0) (some (T 30 q))) 65 (T 15 0) sp) T (some (x, q, sp)) ∧ RtA S (sI (sP (sI S 64 (T 15 0) x) 66 (T 15 0) (some (T 30 q))) 65 (T 15 0) sp) := by
    refine ⟨⟨fun _ => rfl, fun _ => rfl, fun f a h1 _ => ?_, fun f a _ h2 => ?_, fun _ _ _ _ => rfl, fun _ _ _ => rfl⟩, ⟨?_, ?_, ?_⟩, fun r q' n f' ⟨a1, a2, a3, a4, a5, a6, a7⟩ => ⟨a1, ?_, a3, a4, ?_, a6, a7⟩⟩
    · unfold scrF at h1
      simp only [Bool.or_eq_false_iff, beq_eq_false_iff_ne] at h1
      rw [gI_sI, if_neg (fun z => h1.1.1.2 z.1), gI_sP, gI_sI, if_neg (fun z => h1.1.1.1.2 z.1)]
    · rw [gP_sI, gP_sP, if_neg (fun z => h2 z.1), gP_sI]
    · rw [gP_sI, gP_sP, if_pos ⟨rfl, rfl⟩]
    · rw [gI_sI, if_neg (by simp), gI_sP, gI_sI, if_pos ⟨rfl, rfl⟩]
    · rw [gI_sI, if_pos ⟨rfl, rfl⟩]
    · rw [gP_sI, gP_sP, if_neg (by simp), gP_sI]; exact a2
    · rw [gI_sI, if_neg (by simp), gI_sP, gI_sI, if_neg (by simp)]; exact a5
  refine bX0_weigh_0 B k (fun c1 => ?_) (fun y c1 => ?_)
  · cases o with
    | some c => rw [ho.1] at c1; cases c1
    | none => exact bX0_weigh_15 B k (bX0_weigh_30 B go)
  · cases o with
    | none => rw [show gP S 66 (T 15 0) = none from ho] at c1; cases c1
    | some z =>
      refine bX0_weigh_7 B k (fun c2 => ?_) (fun c2 => ?_)
      · rw [ho.2.1] at c2
        refine bX0_weigh_30 B ⟨FrX.rf, ?_, fun _ _ _ _ z => z⟩
        unfold wgh; simp only [if_pos c2]; exact ho
      · rw [ho.2.1] at c2
        refine bX0_weigh_15 B k (bX0_weigh_30 B ?_)
        unfold wgh; simp only [if_neg c2]; exact go
end WG
section WP
variable {p : Program} {l : Launch} {e : Env} {s : State} {m : MethodId} {args : Array Value} {below : List Frame} {meth : Method} {c : Code} {w : Wd} {S : St}
variable {T : Tb}
theorem FQ.frs {sc tr mi la lo : Nat} {sl : Nat → Int32} {D : Nat → Pda} {dx dy st : Int32} {n : Nat} {S S' : St} (h : FQ sc tr mi la lo sl D dx dy st n S S') : FrS mi la lo S S' := h.1
theorem RtK.tr {r q : Nat} {S1 S2 S3 : St} (h : RtK r q S1 S2) (g : RtK r q S2 S3) : RtK r q S1 S3 := fun r' q' n' f' a b z => g r' q' n' f' a b (h r' q' n' f' a b z)
theorem RtK.ofS {r q mi la lo : Nat} {S S' : St} (f : FrS mi la lo S S') : RtK r q S S' := fun _ _ _ _ _ _ z => z.fr f
theorem RtK.ofA {r q : Nat} {S S' : St} (f : RtA S S') : RtK r q S S' := fun _ _ _ _ _ _ z => f _ _ _ _ z
theorem l_weighPlaces (B : Bd p s m args meth c cX11_weighPlaces 8 (wsOf yX11_weighPlaces cX11_weighPlaces 8 none) RX11 w none "weighPlaces") {Q : State → Prop} {α : Ab} {q t n r rq : Nat} {L : Nat → Nat} {sv : Int32} {o : Cho} (hA : AIz α) (ht : t < nV α) (hq : q < nP α) (hn : n ≤ 12) (hL : ∀ j, j < n → L j < nP α) (hr1 : r ≠ T 16 0) (hr2 : rq ≠ T 17 0)
    {S0 : St} (hx : ∀ S', CR w S' T α → Rl S' T r rq n L → ChO S' T (wK α q t n L sv o (n + 1)) → RtK (T 16 0) (T 17 0) S0 S' → K p l e rX11_weighPlaces s m args below meth c 8 w 0 0 Q S' 101 [] []) :
    ∀ d k, k + d = n + 1 → ∀ S, CR w S T α → Rl S T r rq n L → ChO S T (wK α q t n L sv o k) → RtK (T 16 0) (T 17 0) S0 S → K p l e rX11_weighPlaces s m args below meth c 8 w 0 0 Q S 14 [(0, .ref (T 0 0)), (1, .ref (T 30 q)), (2, .ref (T 27 t)), (3, .ref r), (4, .int sv), (5, .int (costM α t n L)), (6, .int (nI k))] [] := by
  intro d
  induction d with
  | zero =>
    intro k hk S h hR ho hK
    have hk : k = n + 1 := by omega
    subst hk
    exact bX11_weighPlaces_14 B hR.1 (fun _ => hx S h hR ho hK) (fun c => absurd (by rw [hR.2.2.2.2.1]; exact nI_lt (by omega) (by omega)) c)
  | succ d ih =>
    intro k hk S h hR ho hK
    have go := ih (k + 1) (by omega)
    have hx0 := h.x
    refine bX11_weighPlaces_14 B hR.1 (fun c => absurd c (by rw [hR.2.2.2.2.1]; exact nI_nlt (by omega) (by omega))) (fun _ => ?_)
    refine bX11_weighPlaces_23 B hx0.1 hx0.2.2.2.2.2.2.2.2.2.1 (c_copyX h (Or.inl rfl) hR hL hr1 hr2) (h.k1 16 (by decide)) (fun S1 hq1 => ?_)
    obtain ⟨f1, m1⟩ := hq1
    have h1 := h.frx (f1.frx (Or.inl rfl))
    have hR1 : Rl S1 T r rq n L := f1.rtk _ _ _ _ hr1 hr2 hR
    have hx1 := h1.x
    refine bX11_weighPlaces_31 B hx1.1 hx1.2.2.2.2.2.2.2.2.2.1 (c_insX h1 (Or.inl rfl) m1 hn (show k ≤ n by omega) hL hq) (h1.k1 16 (by decide)) (fun S2 hq2 => ?_)
    obtain ⟨f2, m2⟩ := hq2
    have h2 := h1.frx (f2.frx (Or.inl rfl))
    have hR2 : Rl S2 T r rq n L := f2.rtk _ _ _ _ hr1 hr2 hR1
    have hx2 := h2.x
    have ho2 := (ho.scr f1).scr f2
    have hL2 := insL_P (L := L) (q := q) (show k ≤ n by omega) hL hq
    refine bX11_weighPlaces_41 B hx2.1 hx2.2.2.2.2.2.2.2.2.2.1 (h2.kv ht).1 (c_fitX (v := t) h2 ht m2 hL2) (h2.k1 16 (by decide)) (fun x S3 hq3 => ?_)
    obtain ⟨rfl, hf⟩ := hq3
    rcases hf with ⟨rfl, hf⟩ | ⟨rfl, hf⟩
    · refine bX11_weighPlaces_52 B (fun z => absurd z (by decide)) (fun _ => ?_)
      refine bX11_weighPlaces_55 B hx2.1 hx2.2.2.2.2.2.2.1 hx2.2.2.2.2.2.2.2.2.2.1 (c_fol h2 hA ht m2 hf.1 hL2) (h2.k1 8 (by decide)) (fun x S3 hq3 => ?_)
      obtain ⟨rfl, fq⟩ := hq3
      have h3 := h2.frx (FrX.ofS fq.frs)
      have hx3 := h3.x
      have hR3 : Rl S3 T r rq n L := hR2.fr fq.frs
      have e16 : (16 : Int32) * gI S3 704 (T 27 t) + nI k = nI (16 * t + k) := by rw [(h3.va ht).1, show (16 : Int32) * nI t = nI (16 * t) from pk_mul 16 t, nI_add]
      refine bX11_weighPlaces_67 B hx3.1 hx3.2.2.2.2.2.2.2.2.1 (h3.kv ht).1 (c_weigh (q := q) h3 (ho2.frs fq.frs)) (h3.k1 15 (by decide)) (fun S4 hq4 => ?_)
      obtain ⟨f4, ho4, hk4⟩ := hq4
      rw [e16] at ho4
      refine bX11_weighPlaces_95 B ?_
      rw [nI_1]
      refine go S4 (h3.frx f4) (hk4 _ _ _ _ hR3) ?_ ((((hK.tr f1.rtk).tr f2.rtk).tr (RtK.ofS fq.frs)).tr (RtK.ofA hk4))
      rw [show wK α q t n L sv o (k + 1) = wgh (wK α q t n L sv o k) (costM α t (n + 1) (insL L k q) - costM α t n L - sv) q (nI (16 * t + k)) from if_pos hf]
      exact ho4
    · refine bX11_weighPlaces_52 B (fun _ => bX11_weighPlaces_95 B ?_) (fun z => absurd rfl z)
      rw [nI_1]
      refine go S2 h2 hR2 ?_ ((hK.tr f1.rtk).tr f2.rtk)
      rw [show wK α q t n L sv o (k + 1) = wK α q t n L sv o k from if_neg hf]
      exact ho2
end WP
section WP2
variable {l : Launch} {w : Wd} {S : St} {T : Tb} {α : Ab}
theorem c_weighPlaces {q t n r rq : Nat} {L : Nat → Nat} {sv : Int32} {o : Cho} (h : CR w S T α) (hA : AIz α) (ht : t < nV α) (hq : q < nP α) (hR : Rl S T r rq n L) (hn : n ≤ 12) (hL : ∀ j, j < n → L j < nP α) (hr1 : r ≠ T 16 0) (hr2 : rq ≠ T 17 0) (ho : ChO S T o) :
    ConV l yX11_weighPlaces (wsOf yX11_weighPlaces cX11_weighPlaces 8 none) rX11_weighPlaces w S [.ref (T 0 0), .ref (T 30 q), .ref (T 27 t), .ref r, .int sv] (fun S' => CR w S' T α ∧ Rl S' T r rq n L ∧ ChO S' T (wK α q t n L sv o (n + 1)) ∧ RtK (T 16 0) (T 17 0) S S') := by
  refine con_V (by decide +kernel) rfl (Nat.le_of_ble_eq_true rfl) (fun p e s m args below meth c B => ?_)
  have hx0 := h.x
  refine bX11_weighPlaces_0 B hx0.1 hx0.2.2.2.2.2.2.1 (c_fol h hA ht hR hn hL) (h.k1 8 (by decide)) (fun x S1 hq1 => ?_)
  obtain ⟨rfl, fq⟩ := hq1
  refine bX11_weighPlaces_9 B (l_weighPlaces B hA ht hq hn hL hr1 hr2 (fun S' a b c d => bX11_weighPlaces_101 B ⟨a, b, c, d⟩) (n + 1) 0 (by omega) S1 (h.frx (FrX.ofS fq.frs)) (hR.fr fq.frs) (ho.frs fq.frs) (RtK.ofS fq.frs))
end WP2
