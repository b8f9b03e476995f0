/-! WHAT ALWAYS HOLDS of the numbers, behind every call: rows, drive -/
theorem AIy.of {α β : Ab} (h : AIy α) (hz : AIz β) (e1 : β 913 = α 913) (e2 : β 915 = α 915) (e3 : β 834 = α 834) (e4 : β 838 = α 838) : AIy β := by
  refine ⟨hz, ?_, ?_⟩
  · unfold nP; rw [e1, e2]; exact h.2.1
  · unfold nP; rw [e1, e3, e4]; exact h.2.2
theorem AIy.row {α : Ab} (h : AIy α) {v n : Nat} {L : Nat → Nat} (hz : AIz (setRow α v n L)) : AIy (setRow α v n L) :=
  h.of hz (setRow_ne (by decide) (by decide)) (setRow_ne (by decide) (by decide)) (setRow_ne (by decide) (by decide)) (setRow_ne (by decide) (by decide))
theorem AIy.congr {α β : Ab} (f : FrM α β) (h : AIy α) : AIy β := h.of (h.1.congr f) (f 913 rfl) (f 915 rfl) (f 834 rfl) (f 838 rfl)
theorem y_put {α : Ab} (h : AIy α) (a b c' : Int32) : AIy (opPut α a b c').2.2 := by
  unfold opPut
  split
  · rename_i hc
    obtain ⟨h1, h2, h3⟩ := hc
    split
    · rename_i hc2
      obtain ⟨q, hq, rfl⟩ := h1.nI
      obtain ⟨v, hv, rfl⟩ := h2.nI
      have v4 := h.1.1.1.v4 hv
      have m12 := h.1.1.1.m12 v4
      have q30 := h.1.1.1.p30 hq
      rw [cl_nI (by omega)] at h3
      obtain ⟨k, hk, rfl⟩ := h3.nI
      rw [cl_nI (by omega), cl_nI (by omega), cl_nI (by omega)] at hc2
      show AIy (putA α (cl (nI q)) (cl (nI v)) (cl (nI k)))
      rw [cl_nI (by omega), cl_nI (by omega), cl_nI (by omega)]
      exact h.row (h.1.put hv (show k ≤ mny α v by omega) hq (mv_fit hc2.2) hc2.1)
    · exact h
  · exact h
theorem y_take {α : Ab} (h : AIy α) (a : Int32) : AIy (opTake α a).2.2 := by
  unfold opTake
  split
  · split
    · exact h
    · rename_i h1 h2
      obtain ⟨q, hq, rfl⟩ := h1.nI
      have q30 := h.1.1.1.p30 hq
      rw [cl_nI (by omega)] at h2
      show AIy (takA α (cl (vof α (cl (nI q)))) (plc α (cl (nI q)) (cl (vof α (cl (nI q))))))
      rcases vof_cases h.1.1.1 q with ⟨v, i, o, e1, e2⟩ | ⟨o, e1⟩
      · rw [cl_nI (k := q) (by omega), e1, cl_nI (by have := h.1.1.1.v4 o.1; omega), plc_at h.1.1.1 o]
        exact h.row (h.1.tak o)
      · exact absurd e1 h2
  · exact h
theorem y_improve {α : Ab} (h : AIy α) (a : Int32) : AIy (opImprove α a).2.2 := by
  unfold opImprove
  split
  · split
    · exact h
    · rename_i h1 h2
      obtain ⟨v, hv, rfl⟩ := h1.nI
      have v4 := h.1.1.1.v4 hv
      have m12 := h.1.1.1.m12 v4
      rw [cl_nI (by omega)] at h2
      show AIy (setRow α (cl (nI v)) (mny α (cl (nI v))) (revF (rwf α (cl (nI v))) (cl (imA α (cl (nI v)) (mny α (cl (nI v)))).2.1) (cl (imA α (cl (nI v)) (mny α (cl (nI v)))).2.2)))
      rw [cl_nI (k := v) (by omega)]
      rcases imA_at α v (mny α v) (Nat.le_refl _) with z | ⟨x, y, hab, hb, z⟩
      · exact absurd (by rw [z]) h2
      · have ea : (imA α v (mny α v)).2.1 = nI x := congrArg Prod.fst z
        have eb : (imA α v (mny α v)).2.2 = nI y := congrArg Prod.snd z
        rw [ea, eb, cl_nI (k := x) (by omega), cl_nI (k := y) (by omega)]
        exact h.row (h.1.rev hv hb (by omega))
  · exact h
theorem y_move {α : Ab} (h : AIy α) : AIy (opMove α).2.2 := by
  have hA1 := h.1.1.1
  unfold opMove
  split
  · exact h
  · rename_i h2
    rcases mvQ_ok hA1 (nP α) (Nat.le_refl _) with z | ⟨q, v, i, t, k, i1, on, i3, i4, i5, i6⟩
    · exact absurd (by rw [z]) h2
    · have q30 := hA1.p30 i1
      have v4 := hA1.v4 on.1
      have t4 := hA1.v4 i3
      have m12 := hA1.m12 v4
      have mt12 := hA1.m12 t4
      have hk13 : k ≤ mny (takA α v i) t ∧ mny (takA α v i) t + 1 ≤ 12 ∧ k < 13 := by
        rw [mny_takA hA1 v4]
        unfold nPl at i4
        by_cases c : t = v
        · subst c; rw [if_pos rfl] at i4 ⊢; omega
        · rw [if_neg c] at i4 ⊢; have := mvd_fit i6 c; omega
      show AIy (putA (takA α (cl (vof α (cl (mvQ α (nP α)).2.1))) (plc α (cl (mvQ α (nP α)).2.1) (cl (vof α (cl (mvQ α (nP α)).2.1))))) (cl (mvQ α (nP α)).2.1) (cl (mvQ α (nP α)).2.2 / 16) (cl (mvQ α (nP α)).2.2 % 16))
      rw [i5]
      show AIy (putA (takA α (cl (vof α (cl (nI q)))) (plc α (cl (nI q)) (cl (vof α (cl (nI q)))))) (cl (nI q)) (cl (nI (16 * t + k)) / 16) (cl (nI (16 * t + k)) % 16))
      rw [cl_nI (k := q) (by omega), vof_on hA1 on, cl_nI (k := v) (by omega), plc_at hA1 on, cl_nI (k := 16 * t + k) (by omega), show (16 * t + k) / 16 = t by omega, show (16 * t + k) % 16 = k by omega]
      have h1 : AIy (takA α v i) := h.row (h.1.tak on)
      have hoff : ¬ On (takA α v i) q := fun z => ((On_takA hA1 on q).mp z).2 rfl
      have hz : α 834 q = 0 := h.1.2.2.2.1 q ⟨v, i, on⟩
      refine AIy.row (α := takA α v i) h1 (h1.1.put (by rw [nV_takA]; exact i3) hk13.1 (by rw [nP_takA]; exact i1) hk13.2.1 ⟨?_, (vof_iff h1.1.1.1 q).mpr hoff⟩)
      show setRow α v (mny α v - 1) (remF (rwf α v) i) 834 q = 0
      rw [setRow_ne (by decide) (by decide)]; exact hz
theorem y_plA : ∀ n (α : Ab), AIy α → AIy (plA α n).2 := by
  intro n
  induction n with
  | zero => intro α h; exact h
  | succ n ih =>
    intro α h
    unfold plA
    split
    · exact h
    · rename_i h2
      obtain ⟨q, v, k, i1, i2, i3, i4, i5, i6, i7, i8, i9⟩ := plS_ok h.1.1.1 h2
      show AIy (plA (plS α) n).2
      rw [i8]
      exact ih _ (h.row (h.1.put i2 i3 i1 i4 i5))
theorem y_plan {α : Ab} (h : AIy α) : AIy (opPlan α).2.2 := y_plA _ _ h
/-- behind a day -/
theorem stV_gg {v N : Nat} : ∀ d k cn (D D0 : Ab), AIy D0 → FrD D0 D → D 841 = D0 841 → v < nV D0 → k + d = mny D0 v → N = nP D0 → (∀ x, x < N → Gp D x ∧ Gw D x) → (∀ i, k ≤ i → i < mny D0 v → D 834 (rwf D0 v i) = 0) → ∀ x, x < N → Gp (stV v d k cn D).2 x ∧ Gw (stV v d k cn D).2 x := by
  intro d
  induction d with
  | zero => intro k cn D D0 _ _ _ _ _ _ hg _; exact hg
  | succ d ih =>
    intro k cn D D0 hA f h41 hv hk hN hg hz
    unfold stV
    split
    · exact hg
    · have v4 := hA.1.1.1.v4 hv
      have hkm : k < mny D0 v := by omega
      have hq := (hA.1.1.1.2.2.2.2.1 v k v4 hkm).2
      have z0 := hz k (Nat.le_refl _) hkm
      have er := rwD h41 v k
      rw [er]
      have hh : cl (D 916 (rwf D0 v k)) < nH D0 := by rw [f 916 (by decide) (by decide)]; exact hA.1.2.1 _ hq
      have n4 : nL D ≤ 4 := by rw [f.n.2.1]; exact hA.1.1.1.2.1.2.1.2
      have n16 : nH D ≤ 16 := by rw [f.n.1]; exact hA.1.1.1.2.1.1.2
      refine ih (k + 1) _ _ D0 hA (fun F h1 h2 => (doneD_D F h1 h2).trans (f F h1 h2)) ((doneD_40 (by omega)).trans h41) hv (by omega) hN (done_gg hg (by rw [hN]; exact hq) z0 (hA.ordL f hh) n4 n16) (fun i hi hi2 => ?_)
      have ne : rwf D0 v i ≠ rwf D0 v k := fun y => by
        have := (hA.1.1.1.2.2.2.2.2 v v i k v4 v4 hi2 hkm y).2
        omega
      rw [done_x (by decide) (by decide) ne]
      exact hz i (by omega) hi2
theorem stV_D {v : Nat} : ∀ d k cn (D : Ab), FrD D (stV v d k cn D).2 := by
  intro d
  induction d with
  | zero => intro k cn D F _ _; rfl
  | succ d ih =>
    intro k cn D
    unfold stV
    split
    · exact fun _ _ _ => rfl
    · exact fun F h1 h2 => (ih _ _ _ F h1 h2).trans (doneD_D F h1 h2)
theorem endV_D {D : Ab} {v : Nat} : FrD D (endV D v) := fun F h1 h2 => by unfold endV lateV; rw [aset_ne (by omega), au_neF (by omega), wkD_hi (by omega)]
theorem begV_D {D : Ab} {v : Nat} : FrD D (begV D v) := fun F h1 h2 => by unfold begV; rw [au_neF (by omega), au_neF (by omega), au_neF (by omega), au_neF (by omega)]
theorem drV_D {D0 : Ab} : ∀ n, FrD D0 (drV D0 n).2 := by
  intro n
  induction n with
  | zero => exact fun F h1 h2 => by show au D0 833 0 0 F = _; rw [au_neF (by omega)]
  | succ n ih =>
    rw [drV_succ]
    exact fun F h1 h2 => (endV_D F h1 h2).trans ((stV_D _ _ _ _ F h1 h2).trans ((begV_D F h1 h2).trans (ih F h1 h2)))
theorem drV_41 {D0 : Ab} : ∀ n, (drV D0 n).2 841 = D0 841 := by
  intro n
  induction n with
  | zero => show au D0 833 0 0 841 = _; rw [au_neF (by decide)]
  | succ n ih =>
    rw [drV_succ]
    show endV _ n 841 = _
    rw [endV_lo (by decide) (by decide) (by decide), stV_40 (by omega), begV_lo (by decide)]; exact ih
theorem drV_gg {D0 : Ab} (hA : AIy D0) : ∀ n, n ≤ nV D0 → (∀ x, x < nP D0 → Gp (drV D0 n).2 x ∧ Gw (drV D0 n).2 x) ∧ ∀ v', n ≤ v' → v' < nV D0 → ∀ i, i < mny D0 v' → (drV D0 n).2 834 (rwf D0 v' i) = 0 := by
  intro n
  induction n with
  | zero =>
    intro _
    refine ⟨fun x hx => ?_, fun v _ hv i hi => ?_⟩
    · show Gp (au D0 833 0 0) x ∧ Gw (au D0 833 0 0) x
      exact gp_lo (fun F h1 h2 => by rw [au_neF (by omega)]) (by unfold nL; rw [au_neF (by decide)]) ⟨hA.gp hx, hA.gw hx⟩
    · show au D0 833 0 0 834 _ = 0
      rw [au_neF (by decide)]
      exact hA.1.2.2.2.1 _ ⟨v, i, hv, hi, rfl⟩
  | succ n ih =>
    intro hn
    obtain ⟨h1, h2⟩ := ih (by omega)
    have hvn : n < nV D0 := by omega
    have v4 := hA.1.1.1.v4 hvn
    have f0 := drV_D (D0 := D0) n
    have fb : FrD D0 (begV (drV D0 n).2 n) := fun F a b => (begV_D F a b).trans (f0 F a b)
    have b41 : begV (drV D0 n).2 n 841 = D0 841 := by rw [begV_lo (by decide)]; exact drV_41 n
    rw [drV_succ]
    refine ⟨fun x hx => ?_, fun v' hv' hv2 i hi => ?_⟩
    · show Gp (endV (stV n (mny D0 n) 0 (drV D0 n).1 (begV (drV D0 n).2 n)).2 n) x ∧ Gw (endV (stV n (mny D0 n) 0 (drV D0 n).1 (begV (drV D0 n).2 n)).2 n) x
      refine gp_lo (fun F a b => by rw [endV_lo (by omega) (by omega) (by omega)]) (endV_D.n.2.1) ?_
      refine stV_gg (mny D0 n) 0 _ _ D0 hA fb b41 hvn (by omega) rfl (fun x hx => gp_lo (fun F a b => by rw [begV_lo (by omega)]) begV_D.n.2.1 (h1 x hx)) (fun i _ hi => ?_) x hx
      rw [begV_lo (by decide)]
      exact h2 n (Nat.le_refl _) hvn i hi
    · show endV (stV n (mny D0 n) 0 (drV D0 n).1 (begV (drV D0 n).2 n)).2 n 834 (rwf D0 v' i) = 0
      rw [endV_lo (by decide) (by decide) (by decide), stV_x, begV_lo (by decide)]
      · exact h2 v' (by omega) hv2 i hi
      · intro i' _ hi' y
        rw [rwD b41] at y
        have := (hA.1.1.1.2.2.2.2.2 n v' i' i v4 (hA.1.1.1.v4 hv2) (by omega) hi y).1
        omega
/-- a parcel behind its night -/
def Gn (D : Ab) (x : Nat) : Prop := Gp D x ∧ Gw D x
theorem niD_gg {D : Ab} {q : Nat} (g : Gn D q) : Gn (niD D q) q := by
  obtain ⟨⟨g1, g2, g3⟩, gw⟩ := g
  have e5 : ∀ v, opnD (nigA D q) q v 835 = D 835 := fun v => by unfold opnD nigA; rw [aset_ne (by decide), aset_ne (by decide), aset_ne (by decide), aset_ne (by decide)]
  have e4 : ∀ v, opnD (nigA D q) q v 834 q = v := fun v => by unfold opnD; rw [aset_same, va_up_self]
  have N : ∀ F, F ≠ 838 → nigA D q F = D F := fun F hF => by unfold nigA; rw [aset_ne hF]
  have N8 : nigA D q 838 q = D 838 q + 1 := by unfold nigA; rw [aset_same, va_up_self]
  unfold niD
  split
  · rename_i c1
    obtain ⟨k1, b1, i2⟩ := g3 c1
    split
    · refine ⟨⟨by rw [e5]; exact g1, fun y => ?_, fun y => ?_⟩, fun y => ?_⟩
      · rw [e4] at y; exact absurd y (by decide)
      · rw [e4] at y; exact absurd y (by decide)
      · rw [e4] at y; exact absurd y (by decide)
    · split
      · refine ⟨⟨by rw [e5]; exact g1, fun y => ?_, fun y => ?_⟩, fun y => ?_⟩
        · rw [e4] at y; exact absurd y (by decide)
        · rw [e4] at y; exact absurd y (by decide)
        · rw [e4] at y; exact absurd y (by decide)
      · rename_i c3
        refine ⟨⟨by rw [N _ (by decide)]; exact g1, fun y => ?_, fun y => ⟨?_, ?_, ?_⟩⟩, fun y => ?_⟩
        · rw [N _ (by decide), c1] at y; exact absurd y (by decide)
        · rw [N _ (by decide)]
          have : nL (nigA D q) = nL D := by unfold nL; rw [N _ (by decide)]
          rw [this]; exact k1
        · rw [N _ (by decide)]; exact b1
        · rw [N8] at c3 ⊢; exact isN_3 (isN_up i2) c3
        · rw [N _ (by decide), c1] at y; exact absurd y (by decide)
  · exact ⟨⟨g1, g2, g3⟩, gw⟩
theorem niN_gg {E : Ab} {N : Nat} (hg : ∀ x, x < N → Gn E x) : ∀ n, n ≤ N → ∀ x, x < N → Gn (niN E n) x := by
  intro n
  induction n with
  | zero => intro _; exact hg
  | succ n ih =>
    intro hn x hx
    have h := ih (by omega)
    show Gn (niD (niN E n) n) x
    by_cases z : x = n
    · subst z; exact niD_gg (h x hx)
    · exact gp_lo (fun F a b => niD_x a b z) niD_n (h x hx)
theorem niN_x {E : Ab} {F x : Nat} (h1 : 834 ≤ F) (h2 : F ≤ 838) : ∀ n, n ≤ x → niN E n F x = E F x := by
  intro n
  induction n with
  | zero => intro _; rfl
  | succ n ih => intro hn; show niD (niN E n) n F x = _; rw [niD_x h1 h2 (by omega)]; exact ih (by omega)
theorem done_y {D : Ab} {q : Nat} {N : Nat} (hq : q < N) {F x : Nat} (h1 : 834 ≤ F) (h2 : F ≤ 838) (hx : N ≤ x) : (doneD D q).2 F x = D F x := done_x h1 h2 (by omega)
theorem stV_y {v N F x : Nat} (h1 : 834 ≤ F) (h2 : F ≤ 838) (hx : N ≤ x) : ∀ d k cn (D : Ab), (∀ i, k ≤ i → i < k + d → rwf D v i < N) → (stV v d k cn D).2 F x = D F x := by
  intro d
  induction d with
  | zero => intro k cn D _; rfl
  | succ d ih =>
    intro k cn D h
    unfold stV
    split
    · rfl
    · rw [ih (k + 1) _ _ (fun i a b => by rw [rwD (doneD_40 (by omega))]; exact h i (by omega) (by omega))]
      exact done_y (h k (Nat.le_refl _) (by omega)) h1 h2 hx
theorem drV_y {D0 : Ab} (hA : AIy D0) {F x : Nat} (h1 : 834 ≤ F) (h2 : F ≤ 838) (hx : nP D0 ≤ x) : ∀ n, n ≤ nV D0 → (drV D0 n).2 F x = D0 F x := by
  intro n
  induction n with
  | zero => intro _; show au D0 833 0 0 F x = _; rw [au_neF (by omega)]
  | succ n ih =>
    intro hn
    have hvn : n < nV D0 := by omega
    have v4 := hA.1.1.1.v4 hvn
    have b41 : begV (drV D0 n).2 n 841 = D0 841 := by rw [begV_lo (by decide)]; exact drV_41 n
    rw [drV_succ]
    show endV _ n F x = _
    rw [endV_lo (by omega) (by omega) (by omega), stV_y h1 h2 hx _ _ _ _ (fun i _ hi => by rw [rwD b41]; exact (hA.1.1.1.2.2.2.2.1 n i v4 (by omega)).2), begV_lo (by omega)]
    exact ih (by omega)
theorem y_drive {α : Ab} (h : AIy α) : AIy (driveD α).2 := by
  have hA1 := h.1.1.1
  have n4 := hA1.2.1.2.2.1.2
  have n30 := hA1.2.1.2.2.2.2
  have E : ∀ F, F ≠ 832 → (driveD α).2 F = niN (drV α (nV α)).2 (nP α) F := fun F hF => driveD_ne hF
  have f : FrD α (driveD α).2 := fun F a b => by rw [E F (by omega), niN_st (by omega)]; exact drV_D _ F a b
  obtain ⟨nh, nl, nv, np⟩ := f.n
  have eM : ∀ v, v < 4 → mny (driveD α).2 v = 0 := fun v hv => by
    have e1 : (driveD α).2 840 v = if v < nV α then 0 else α 840 v := by rw [E _ (by decide), niN_st (by omega)]; exact drV_40 _ _
    unfold mny
    rw [e1]
    split
    · rfl
    · exact hA1.2.2.2.1 v (by omega) hv
  have e40 : ∀ v, v < 4 → (driveD α).2 840 v = nI (mny (driveD α).2 v) := fun v hv => by
    rw [eM v hv]
    have e1 : (driveD α).2 840 v = if v < nV α then 0 else α 840 v := by rw [E _ (by decide), niN_st (by omega)]; exact drV_40 _ _
    rw [e1]
    split
    · rfl
    · have := (hA1.2.2.1 v hv).1
      rw [hA1.2.2.2.1 v (by omega) hv] at this; exact this
  have G : ∀ x, x < nP α → Gn (driveD α).2 x := fun x hx => by
    have := niN_gg (drV_gg h (nV α) (Nat.le_refl _)).1 (nP α) (Nat.le_refl _) x hx
    exact gp_lo (fun F a b => by rw [E F (by omega)]) (by unfold nL; rw [E _ (by decide)]) this
  have Z : ∀ F x, 834 ≤ F → F ≤ 838 → nP α ≤ x → (driveD α).2 F x = α F x := fun F x a b hx => by rw [E F (by omega), niN_x a b _ hx]; exact drV_y h a b hx _ (Nat.le_refl _)
  have noOn : ∀ q, ¬ On (driveD α).2 q := fun q ⟨v, i, a, b, _⟩ => by
    rw [nv] at a
    rw [eM v (by omega)] at b
    omega
  obtain ⟨x1, x2, x3, x4, x5, x6, x7, x8⟩ := h.1.2
  refine ⟨⟨⟨⟨hA1.1.D f, ?_, ⟨fun v hv => ⟨e40 v hv, by rw [eM v hv]; omega⟩, fun v _ hv => eM v hv, fun v i hv hi => absurd hi (by rw [eM v hv]; omega), fun v v' i i' hv _ hi _ _ => absurd hi (by rw [eM v hv]; omega)⟩⟩, h.1.1.2.1.D f, fun q hq z => ?_⟩, fun q hq => ?_, fun i hi k hk => ?_, fun q hq => absurd hq (noOn q), fun q hq z => ?_, fun q hq => ?_, fun q hq z => ?_, fun i a b => ?_, fun q a b => ?_⟩, fun q hq => ?_, fun q hq z => ?_⟩
  · obtain ⟨c1, c2, c3, c4⟩ := hA1.2.1
    exact ⟨by rw [nh, f 900 (by decide) (by decide)]; exact c1, by rw [nl, f 906 (by decide) (by decide)]; exact c2, by rw [nv, f 909 (by decide) (by decide)]; exact c3, by rw [np, f 913 (by decide) (by decide)]; exact c4⟩
  · rcases Nat.lt_or_ge q (nP α) with y | y
    · obtain ⟨⟨k, hk, e1⟩, b, -⟩ := (G q y).1.2.2 z
      rw [nl] at hk
      exact ⟨⟨k, by have := hA1.2.1.2.1.2; omega, e1⟩, b⟩
    · rw [Z 834 q (by decide) (by decide) y, (x8 q y hq).1] at z
      exact absurd z (by decide)
  · rw [np] at hq
    rw [nh, f 916 (by decide) (by decide)]; exact x1 q hq
  · rw [nh] at hi
    rw [f 904 (by decide) (by decide)] at hk
    rw [nh, nl, f 905 (by decide) (by decide)]; exact x2 i hi k hk
  · rw [np] at hq
    exact ⟨(G q hq).1.2.1 z, (G q hq).2 z⟩
  · rw [np] at hq
    exact (G q hq).1.1
  · rw [np] at hq
    obtain ⟨⟨k, hk, e1⟩, -⟩ := (G q hq).1.2.2 z
    rw [e1, cl_nI (by have := hA1.2.1.2.1.2; rw [nl] at hk; omega)]; exact hk
  · rw [nh] at a
    rw [f 904 (by decide) (by decide)]; exact x7 i a b
  · rw [np] at a
    rw [Z 834 q (by decide) (by decide) a, Z 835 q (by decide) (by decide) a, Z 838 q (by decide) (by decide) a]; exact x8 q a b
  · rw [np] at hq
    rw [f 915 (by decide) (by decide)]; exact h.2.1 q hq
  · rw [np] at hq
    exact ((G q hq).1.2.2 z).2.2
