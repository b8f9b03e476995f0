/-! THE CLASS'S DAY: vans, nights -/
theorem au_self {D : Ab} {F : Nat} : au D F 0 (D F 0) = D := by
  funext G i
  unfold au
  split
  · rename_i z; rw [z.1, z.2]
  · rfl
theorem aset_self {D : Ab} {F : Nat} : aset D F (D F) = D := by
  funext G
  unfold aset
  split
  · rename_i z; rw [z]
  · rfl
theorem endV_lo {D : Ab} {v F : Nat} (h : F < 842) (h1 : F ≠ 833) (h2 : F ≠ 840) : endV D v F = D F := by unfold endV lateV; rw [aset_ne h2, au_neF h1, wkD_hi (by omega)]
theorem begV_lo {D : Ab} {v F : Nat} (h : F < 842) : begV D v F = D F := by unfold begV; rw [au_neF (by omega), au_neF (by omega), au_neF (by omega), au_neF (by omega)]
theorem stV_x {v x : Nat} : ∀ d k cn (D : Ab), (∀ i, k ≤ i → i < k + d → rwf D v i ≠ x) → (stV v d k cn D).2 834 x = D 834 x := by
  intro d
  induction d with
  | zero => intro k cn D _; rfl
  | succ d ih =>
    intro k cn D h
    unfold stV
    split
    · rfl
    · rw [ih (k + 1) _ _ (fun i h1 h2 => by rw [rwD (doneD_40 (by omega))]; exact h i (by omega) (by omega))]
      exact done_x (by decide) (by decide) (Ne.symm (h k (Nat.le_refl _) (by omega)))
theorem gp_lo {D D' : Ab} {x : Nat} (h : ∀ F, 834 ≤ F → F ≤ 838 → D' F x = D F x) (hn : nL D' = nL D) (g : Gp D x ∧ Gw D x) : Gp D' x ∧ Gw D' x := by
  obtain ⟨g1, g2⟩ := g
  unfold Gp at g1 ⊢
  unfold Gw at g2 ⊢
  rw [h 834 (by decide) (by decide), h 835 (by decide) (by decide), h 836 (by decide) (by decide), h 837 (by decide) (by decide), h 838 (by decide) (by decide), hn]
  exact ⟨g1, g2⟩
section DRV
variable {l : Launch} {w : Wd} {S : St} {T : Tb} {D0 D : Ab} {R : Ke} {cn : Int32}
theorem DC0.row (h : DC0 w S T D0 R D cn) (g : Nat → Int32) : DC0 w S T D0 R (aset D 840 g) cn := by
  obtain ⟨⟨f1, f2⟩, hC, h4, h5, h6⟩ := h
  refine ⟨⟨f1.lo (fun F h1 _ => aset_ne (by omega)), (aset_ne (by decide)).trans f2⟩, ?_, h4, ?_, h6⟩
  · have : dE D0 (aset D 840 g) = dE D0 D := by
      funext F
      unfold dE aset
      split
      · rfl
      · rfl
    rw [this]; exact hC
  · rw [aset_ne (by decide)]; exact h5
theorem c_ddrive (h : DC0 w S T D0 R D cn) (hA : AIy D0) {v : Nat} (hv : v < nV D0) (hg : ∀ x, x < nP D0 → Gp D x ∧ Gw D x) (hz : ∀ i, i < mny D0 v → D 834 (rwf D0 v i) = 0) :
    ConV l yX5_driveVan (wsOf yX5_driveVan cX5_driveVan 4 none) rX5_driveVan w S [.ref (T 13 0), .ref (T 27 v)] (fun S' => DC0 w S' T D0 R (endV (stV v (mny D0 v) 0 cn (begV D v)).2 v) (stV v (mny D0 v) 0 cn (begV D v)).1 ∧ ∀ x, x < nP D0 → Gp (endV (stV v (mny D0 v) 0 cn (begV D v)).2 v) x ∧ Gw (endV (stV v (mny D0 v) 0 cn (begV D v)).2 v) x) := by
  obtain ⟨r1, r2, r3, -, -, -, r7, r8, r9, r10, r11, r12, -⟩ := h.rn
  have hv' : v < nV (dE D0 D) := by rw [(dE_n h.f).2.2.1]; exact hv
  have v4 := hA.1.1.1.v4 hv
  have b3 := (h.c.va hv').2.2.1
  rw [dE_F (by decide)] at b3
  have hw := hA.1.1.2.1.D h.f
  refine con_V (by decide +kernel) rfl (Nat.le_of_ble_eq_true rfl) (fun p e s m args below meth c B => ?_)
  refine bX5_driveVan_0 B r1 r2 (h.c.kv hv').1 (c_begin r3 r12 r7 r8) r3 (fun S1 hq1 => ?_)
  subst hq1
  rw [b3]
  have h1 : DC w (sTr S (T 14 0) (T 3 0) (D 911 v) (D 911 v) 0 0) T D0 R (begV D v) cn := by
    have b844 : begV D v 844 0 = D 898 0 := by unfold begV; rw [au_neF (by decide), au_same]
    have b845 : begV D v 845 0 = D 899 0 := by unfold begV; rw [au_same]
    have b843 : begV D v 843 0 = D 911 v := by unfold begV; rw [au_neF (by decide), au_neF (by decide), au_same]
    have b842 : begV D v 842 0 = D 911 v := by unfold begV; rw [au_neF (by decide), au_neF (by decide), au_neF (by decide), au_same]
    exact h.tripS (g := T 3 0) (tr := (0, 0, D 911 v, D 911 v, 0, 0)) r9 (r10.trans b844.symm) (r11.trans b845.symm) b843.symm b842.symm (fun F hF => by unfold begV; rw [au_neF (by omega), au_neF (by omega), au_neF (by omega), au_neF (by omega)])
  have ht : trOk (trD (begV D v)) 4086 := ⟨hw.1.2.1, hw.1.2.2.1, by
    have := (hw.1.2.2.2.2.1 v v4).1
    exact ⟨this.1, by have h2 := this.2; show (D 911 v).toInt ≤ 4086; omega⟩⟩
  have bn : nL (begV D v) = nL D := by unfold nL begV; rw [au_neF (by decide), au_neF (by decide), au_neF (by decide), au_neF (by decide)]
  refine bX5_driveVan_11 B ?_
  refine l_dvan (Z := stV v (mny D0 v) 0 cn (begV D v)) B hA hv (fun S2 h2 hg2 ht2 => ?_) (mny D0 v) 0 _ cn _ (by omega) h1 (fun x hx => gp_lo (fun F _ h2 => by rw [begV_lo (by omega)]) bn (hg x hx)) (fun i _ hi => by rw [begV_lo (by decide)]; exact hz i hi) ht rfl
  generalize stV v (mny D0 v) 0 cn (begV D v) = Z at h2 hg2 ht2 ⊢
  obtain ⟨s1, s2, s3, s4, -, -, s7, s8, s9, s10, s11, -⟩ := h2.rn
  refine bX5_driveVan_86 B s1 s2 s4 s7 s8 (c_dgo h2 s9 s10 s11 ht2 (by omega)) s3 (fun S3 h3 => ?_)
  obtain ⟨u1, u2, u3, -⟩ := h3.rn
  obtain ⟨pl, -, -, -, -, -, u6⟩ := h3.2.2.1
  have hgE : ∀ x, x < nP D0 → Gp (endV Z.2 v) x ∧ Gw (endV Z.2 v) x := fun x hx => gp_lo (fun F h1 h2 => by rw [endV_lo (by omega) (by omega) (by omega)]) (by unfold nL endV lateV; rw [aset_ne (by decide), au_neF (by decide), wkD_hi (by omega)]) (hg2 x hx)
  refine bX5_driveVan_100 B u1 u2 u3 (fun c1 => ?_) (fun c1 => ?_)
  · rw [u6, h3.2.2.2.2.1] at c1
    refine bX5_driveVan_125 B ⟨?_, hgE⟩
    unfold endV lateV
    rw [if_neg (Int32.not_lt.mpr c1), au_self]
    exact h3.z.row _
  · rw [u6, h3.2.2.2.2.1] at c1
    refine bX5_driveVan_114 B u1 u2 u3 (bX5_driveVan_125 B ⟨?_, hgE⟩)
    unfold endV lateV
    rw [if_pos (Int32.not_le.mp c1), u6]
    have r := (h3.rnd Z.1 (wkD Z.2 (Z.2 898 0) (Z.2 899 0) 842 0)).z.row (va_up (au (wkD Z.2 (Z.2 898 0) (Z.2 899 0)) 833 0 (wkD Z.2 (Z.2 898 0) (Z.2 899 0) 842 0) 840) v 0)
    have e1 : sI S3 388 (T 13 0) Z.1 = S3 := by
      have := sI_self S3 388 (T 13 0)
      rw [h3.2.2.2.1] at this; exact this
    rw [e1, au_neF (F' := 840) (by decide)] at r
    exact r
end DRV
section DL1
variable {p : Program} {l : Launch} {e : Env} {s : State} {m : MethodId} {args : Array Value} {below : List Frame} {meth : Method} {c : Code} {w : Wd}
theorem l_dl1 (B : Bd p s m args meth c cX11_driveVans 2 (wsOf yX11_driveVans cX11_driveVans 2 none) RX11 w none "driveVans") {Q : State → Prop} {T : Tb} {D0 : Ab} {R : Ke} (hA : AIy D0) (hx : ∀ S', DC0 w S' T D0 R (drV D0 (nV D0)).2 (drV D0 (nV D0)).1 → (∀ x, x < nP D0 → Gp (drV D0 (nV D0)).2 x ∧ Gw (drV D0 (nV D0)).2 x) → K p l e rX11_driveVans s m args below meth c 2 w 0 0 Q S' 44 [(0, .ref (T 0 0))] []) :
    ∀ d v S, v + d = nV D0 → DC0 w S T D0 R (drV D0 v).2 (drV D0 v).1 → (∀ x, x < nP D0 → Gp (drV D0 v).2 x ∧ Gw (drV D0 v).2 x) → (∀ v', v ≤ v' → v' < nV D0 → ∀ i, i < mny D0 v' → (drV D0 v).2 834 (rwf D0 v' i) = 0) →
      K p l e rX11_driveVans s m args below meth c 2 w 0 0 Q S 9 [(0, .ref (T 0 0)), (1, .int (nI v))] [] := by
  have n4 := hA.1.1.1.2.1.2.2.1.2
  intro d
  induction d with
  | zero =>
    intro v S hv h hg hz
    have : v = nV D0 := by omega
    subst this
    have hn := c_nvan (l := l) h.c
    rw [(dE_n h.f).2.2.1] at hn
    refine bX11_driveVans_9 B h.c.x.1 h.c.x.2.2.2.2.1 hn (h.c.k1 6 (by decide)) (fun r S' hq => ?_)
    obtain ⟨rfl, rfl⟩ := hq
    exact bX11_driveVans_17 B (fun _ => hx S h hg) (fun cc => absurd (Int32.le_refl _) cc)
  | succ d ih =>
    intro v S hv h hg hz
    have hvl : v < nV D0 := by omega
    have hn := c_nvan (l := l) h.c
    rw [(dE_n h.f).2.2.1] at hn
    have hv' : v < nV (dE D0 (drV D0 v).2) := by rw [(dE_n h.f).2.2.1]; exact hvl
    have v4 := hA.1.1.1.v4 hvl
    refine bX11_driveVans_9 B h.c.x.1 h.c.x.2.2.2.2.1 hn (h.c.k1 6 (by decide)) (fun r S' hq => ?_)
    obtain ⟨rfl, rfl⟩ := hq
    refine bX11_driveVans_17 B (fun cc => absurd cc (Int32.not_le.mpr (nI_lt hvl (by omega)))) (fun _ => ?_)
    refine bX11_driveVans_20 B h.c.x.1 h.c.x.2.2.2.2.2.2.2.1 h.c.x.2.2.2.2.1 (c_gvan h.c hv') (h.c.k1 6 (by decide)) (fun r S' hq => ?_)
    obtain ⟨rfl, rfl⟩ := hq
    refine bX11_driveVans_32 B (h.c.kv hv').1 (c_ddrive h hA hvl hg (hz v (Nat.le_refl _) hvl)) h.rn.1 (fun S' hq => bX11_driveVans_38 B ?_)
    rw [nI_1]
    obtain ⟨h2, hg2⟩ := hq
    refine ih (v + 1) S' (by omega) h2 hg2 (fun v' h1 h2' i hi => ?_)
    show endV (stV v (mny D0 v) 0 (drV D0 v).1 (begV (drV D0 v).2 v)).2 v 834 (rwf D0 v' i) = 0
    rw [endV_lo (by decide) (by decide) (by decide), stV_x, begV_lo (by decide)]
    · exact hz v' (by omega) h2' i hi
    · intro i' _ hi' y
      have e1 : rwf (begV (drV D0 v).2 v) v i' = rwf D0 v i' := rwD (by rw [begV_lo (by decide)]; exact h.1.2) v i'
      rw [e1] at y
      have := (hA.1.1.1.2.2.2.2.2 v v' i' i v4 (hA.1.1.1.v4 h2') (by omega) hi y).1
      omega
end DL1
section NIG
variable {l : Launch} {w : Wd} {S : St} {T : Tb} {D0 D : Ab} {R : Ke} {cn : Int32}
theorem c_dempty (h : DC0 w S T D0 R D cn) (hA : AIy D0) {q k b : Nat} {v : Int32} (hq : q < nP D0) (hk : k < nL D0) (hb : b < 3) (e6 : D 836 q = nI k) (e7 : D 837 q = nI b) (e4 : D 834 q = 2) (hv : ¬ v = 2) :
    ConV l yX5_emptyBox (wsOf yX5_emptyBox cX5_emptyBox 3 none) rX5_emptyBox w S [.ref (T 30 q), .ref (T 23 k), .int v] (fun S' => DC0 w S' T D0 R (opnD D q v) cn) := by
  obtain ⟨⟨a1, -, -⟩, -, p1, p2, p3, p4, p5⟩ := h.par hA hq
  obtain ⟨k1, k2, k3, k4, k5, k6, k7, k8, k9⟩ := h.lok hk
  have nl4 : k < 4 := by have := hA.1.1.1.2.1.2.1.2; omega
  have e267 : gI S 267 (T 30 q) = nI b := (p4 e4).trans e7
  have eb : (nI b).toNatClampNeg = b := nI_clamp (by omega)
  refine con_V (by decide +kernel) rfl (Nat.le_of_ble_eq_true rfl) (fun p e s m args below meth c B => ?_)
  refine bX5_emptyBox_0 B k1 k6 a1 k7 (by rw [e267, k8]; exact vp_in_nI hb (by decide)) ?_
  rw [e267, eb]
  have c6 : cl (D 836 q) = k := by rw [e6]; exact cl_nI (by omega)
  have c7 : cl (D 837 q) = b := by rw [e7]; exact cl_nI (by omega)
  have L8 : ∀ F, F ≠ 834 → F ≠ 836 → F ≠ 839 → opnD D q v F = D F := fun F h4 h6 h9 => by unfold opnD; rw [aset_ne h4, aset_ne h6, aset_ne h9]
  have L4 : opnD D q v 834 = va_up (D 834) q v := by unfold opnD; rw [aset_same]
  have L6 : opnD D q v 836 = va_up (D 836) q (-1) := by unfold opnD; rw [aset_ne (by decide), aset_same]
  have L9 : opnD D q v 839 = va_up (D 839) (3 * k + b) (D 839 (3 * k + b) + 1) := by unfold opnD; rw [aset_ne (by decide), aset_ne (by decide), aset_same, c6, c7]
  refine h.parX (q := q) (fun _ => rfl) (fun _ => rfl) (fun _ _ => rfl) (fun g a hg => by rw [gI_sI, if_neg (fun z => hg (by omega)), gI_sI, if_neg (fun z => hg (by omega)), gI_sRI]) (fun a ha => by rw [rI_sI, rI_sI, rI_sRI, if_neg (ha k hk)]) (fun _ => rfl) hq (fun F hF => L8 F (by omega) (by omega) (by omega)) (fun F x h1 h2' hx => ?_) ⟨?_, ?_, ?_, ?_, ?_⟩ (fun i hi b' hb' => ?_)
  · by_cases z4 : F = 834
    · subst z4; rw [L4, va_up_ne _ _ hx]
    by_cases z6 : F = 836
    · subst z6; rw [L6, va_up_ne _ _ hx]
    rw [L8 F z4 z6 (by omega)]
  · rw [gI_sI, if_neg (fun z => absurd z.1 (by decide)), gI_sI, if_neg (fun z => absurd z.1 (by decide)), gI_sRI, L8 _ (by decide) (by decide) (by decide)]; exact p1
  · rw [gI_sI, if_neg (fun z => absurd z.1 (by decide)), gI_sI, if_pos ⟨rfl, rfl⟩, L4, va_up_self]
  · rw [gI_sI, if_pos ⟨rfl, rfl⟩, L6, va_up_self]
  · rw [L4, va_up_self]; exact fun z => absurd z hv
  · rw [gI_sI, if_neg (fun z => absurd z.1 (by decide)), gI_sI, if_neg (fun z => absurd z.1 (by decide)), gI_sRI, L8 _ (by decide) (by decide) (by decide)]; exact p5
  · rw [rI_sI, rI_sI, rI_sRI, L9]
    by_cases z : i = k
    · subst z
      rw [if_pos rfl]
      by_cases y : b' = b
      · subst y; rw [va_up_self, va_up_self, k9 _ hb']
      · rw [va_up_ne _ _ y, va_up_ne _ _ (by omega)]; exact k9 b' hb'
    · rw [if_neg (h.c.ne (cnL (by decide) (by decide) (by rw [(dE_n h.f).2.1]; exact hi)) (cnL (by decide) (by decide) (by rw [(dE_n h.f).2.1]; exact hk)) (Or.inr z)), va_up_ne _ _ (by omega)]
      exact (h.lok hi).2.2.2.2.2.2.2.2 b' hb'
theorem c_dend (h : DC0 w S T D0 R D cn) (hA : AIy D0) {q : Nat} (hq : q < nP D0) (g : Gp D q) : ConV l yX5_endDay (wsOf yX5_endDay cX5_endDay 3 none) rX5_endDay w S [.ref (T 13 0), .ref (T 30 q)] (fun S' => DC0 w S' T D0 R (niD D q) cn) := by
  obtain ⟨⟨a1, a2, a3⟩, -, p1, p2, p3, p4, p5⟩ := h.par hA hq
  obtain ⟨r1, -, -, -, -, r6, -⟩ := h.rn
  refine con_V (by decide +kernel) rfl (Nat.le_of_ble_eq_true rfl) (fun p e s m args below meth c B => ?_)
  unfold niD
  refine bX5_endDay_0 B a1 (fun c1 => ?_) (fun c1 => ?_)
  rotate_left
  · rw [p2] at c1
    exact bX5_endDay_8 B (by rw [if_neg c1]; exact h)
  rw [p2] at c1
  rw [if_pos c1]
  obtain ⟨⟨k, hk, e6⟩, ⟨b, hb, e7⟩, h8⟩ := g.2.2 c1
  rw [h.f.n.2.1] at hk
  have nl4 : k < 4 := by have := hA.1.1.1.2.1.2.1.2; omega
  have hw := hA.1.1.2.1.D h.f
  have n16 : cl (D 916 q) < 16 := by have := hA.1.1.1.2.1.1.2; omega
  have c6 : cl (D 836 q) = k := by rw [e6]; exact cl_nI (by omega)
  have hk' : k < nL (dE D0 D) := by rw [(dE_n h.f).2.1]; exact hk
  have hgl := c_gloc (l := l) h.c hk'
  rw [← e6, ← p3] at hgl
  refine bX5_endDay_9 B r1 r6 a1 hgl (h.c.k1 5 (by decide)) (fun r S' hq1 => ?_)
  obtain ⟨rfl, rfl⟩ := hq1
  have h1 : DC0 w (sI S 268 (T 30 q) (gI S 268 (T 30 q) + 1)) T D0 R (nigA D q) cn := by
    have L : ∀ F, F ≠ 838 → nigA D q F = D F := fun F hF => by unfold nigA; rw [aset_ne hF]
    have L8 : nigA D q 838 = va_up (D 838) q (D 838 q + 1) := by unfold nigA; rw [aset_same]
    refine h.parX (q := q) (fun _ => rfl) (fun _ => rfl) (fun _ _ => rfl) (fun g a hg => by rw [gI_sI, if_neg (fun z => hg (by omega))]) (fun _ _ => rfl) (fun _ => rfl) hq (fun F hF => L F (by omega)) (fun F x h1 h2' hx => ?_) ⟨?_, ?_, ?_, ?_, ?_⟩ (fun i hi b' hb' => ?_)
    · by_cases z : F = 838
      · subst z; rw [L8, va_up_ne _ _ hx]
      · rw [L F z]
    · rw [L _ (by decide), gI_sI, if_neg (fun z => absurd z.1 (by decide))]; exact p1
    · rw [L _ (by decide), gI_sI, if_neg (fun z => absurd z.1 (by decide))]; exact p2
    · rw [L _ (by decide), gI_sI, if_neg (fun z => absurd z.1 (by decide))]; exact p3
    · rw [L _ (by decide), L _ (by decide), gI_sI, if_neg (fun z => absurd z.1 (by decide))]; exact p4
    · rw [L8, va_up_self, gI_sI, if_pos ⟨rfl, rfl⟩, p5]
    · rw [L _ (by decide)]; exact (h.lok hi).2.2.2.2.2.2.2.2 b' hb'
  have N : ∀ F, F ≠ 838 → nigA D q F = D F := fun F hF => by unfold nigA; rw [aset_ne hF]
  have N8 : nigA D q 838 q = D 838 q + 1 := by unfold nigA; rw [aset_same, va_up_self]
  obtain ⟨k1, k2, k3, k4, k5, -⟩ := h1.lok hk
  obtain ⟨b1, b2, b3, b4, b5⟩ := h1.hom a3
  refine bX5_endDay_20 B (h.lok hk).1 a1 (h.lok hk).2.1 a2 (h.hom a3).1 (h.hom a3).2.1 (c_dist k3 b3) (h.lok hk).2.2.1 (fun r S' hq1 => ?_)
  obtain ⟨rfl, rfl⟩ := hq1
  rw [N _ (by decide)] at k4 k5 b4 b5
  rw [k4, k5, b4, b5, dist_comm (hw.2.1 k nl4).1 (hw.2.1 k nl4).2 (hw.1.2.2.2.1 _ n16).1 (hw.1.2.2.2.1 _ n16).2, c6]
  have N6 : nigA D q 836 q = nI k := by rw [N _ (by decide)]; exact e6
  have N7 : nigA D q 837 q = nI b := by rw [N _ (by decide)]; exact e7
  have N4 : nigA D q 834 q = 2 := by rw [N _ (by decide)]; exact c1
  refine bX5_endDay_48 B (fun c2 => ?_) (fun c2 => ?_)
  · rw [if_neg (Int32.not_le.mpr c2)]
    obtain ⟨⟨a1', -, -⟩, -, -, -, -, -, p5'⟩ := h1.par hA hq
    refine bX5_endDay_62 B a1' (fun c3 => ?_) (fun c3 => ?_)
    · rw [p5', N8] at c3
      exact bX5_endDay_76 B (by rw [if_neg (by rw [N8]; exact (lt3 (isN_up h8)).mp c3)]; exact h1)
    · rw [p5', N8] at c3
      have e3 : D 838 q + 1 = 3 := by
        by_cases z : D 838 q + 1 = 3
        · exact z
        · exact absurd ((lt3 (isN_up h8)).mpr z) c3
      rw [if_pos (by rw [N8]; exact e3)]
      exact bX5_endDay_70 B (c_dempty h1 hA hq hk hb N6 N7 N4 (by decide)) (fun S' hq => bX5_endDay_76 B hq)
  · rw [if_pos (Int32.not_lt.mp c2)]
    exact bX5_endDay_53 B (c_dempty h1 hA hq hk hb N6 N7 N4 (by decide)) (fun S' hq => bX5_endDay_59 B (bX5_endDay_76 B hq))
theorem niD_x {D : Ab} {q F x : Nat} (h1 : 834 ≤ F) (h : F ≤ 838) (hx : x ≠ q) : niD D q F x = D F x := by
  have hn : nigA D q F x = D F x := by
    unfold nigA
    by_cases z : F = 838
    · subst z; rw [aset_same, va_up_ne _ _ hx]
    · rw [aset_ne z]
  have ho : ∀ v, opnD (nigA D q) q v F x = D F x := fun v => by
    unfold opnD
    by_cases z4 : F = 834
    · subst z4; rw [aset_same, va_up_ne _ _ hx]; exact hn
    rw [aset_ne z4]
    by_cases z6 : F = 836
    · subst z6; rw [aset_same, va_up_ne _ _ hx]; exact hn
    rw [aset_ne z6, aset_ne (by omega)]; exact hn
  unfold niD
  split
  · split
    · exact ho 1
    · split
      · exact ho 4
      · exact hn
  · rfl
theorem niD_n {D : Ab} {q : Nat} : nL (niD D q) = nL D := by
  have hn : nigA D q 906 = D 906 := by unfold nigA; rw [aset_ne (by decide)]
  have ho : ∀ v, opnD (nigA D q) q v 906 = D 906 := fun v => by unfold opnD; rw [aset_ne (by decide), aset_ne (by decide), aset_ne (by decide)]; exact hn
  unfold nL niD
  split
  · split
    · rw [ho 1]
    · split
      · rw [ho 4]
      · rw [hn]
  · rfl
end NIG
section DL2
variable {p : Program} {l : Launch} {e : Env} {s : State} {m : MethodId} {args : Array Value} {below : List Frame} {meth : Method} {c : Code} {w : Wd}
theorem l_dl2 (B : Bd p s m args meth c cX11_driveVans 2 (wsOf yX11_driveVans cX11_driveVans 2 none) RX11 w none "driveVans") {Q : State → Prop} {T : Tb} {D0 E : Ab} {R : Ke} {cn : Int32} (hA : AIy D0) (hx : ∀ S', DC0 w S' T D0 R (niN E (nP D0)) cn → K p l e rX11_driveVans s m args below meth c 2 w 0 0 Q S' 81 [] []) :
    ∀ d q S, q + d = nP D0 → DC0 w S T D0 R (niN E q) cn → (∀ x, q ≤ x → x < nP D0 → Gp (niN E q) x ∧ Gw (niN E q) x) → K p l e rX11_driveVans s m args below meth c 2 w 0 0 Q S 46 [(0, .ref (T 0 0)), (1, .int (nI q))] [] := by
  have n30 := hA.1.1.1.2.1.2.2.2.2
  intro d
  induction d with
  | zero =>
    intro q S hq h hg
    have : q = nP D0 := by omega
    subst this
    have hn := c_npar (l := l) h.c
    rw [(dE_n h.f).2.2.2] at hn
    refine bX11_driveVans_46 B h.c.x.1 h.c.x.2.2.2.2.2.1 hn (h.c.k1 7 (by decide)) (fun r S' hq => ?_)
    obtain ⟨rfl, rfl⟩ := hq
    exact bX11_driveVans_54 B (fun _ => hx S h) (fun cc => absurd (Int32.le_refl _) cc)
  | succ d ih =>
    intro q S hq h hg
    have hql : q < nP D0 := by omega
    have hn := c_npar (l := l) h.c
    rw [(dE_n h.f).2.2.2] at hn
    have hq' : q < nP (dE D0 (niN E q)) := by rw [(dE_n h.f).2.2.2]; exact hql
    refine bX11_driveVans_46 B h.c.x.1 h.c.x.2.2.2.2.2.1 hn (h.c.k1 7 (by decide)) (fun r S' hq => ?_)
    obtain ⟨rfl, rfl⟩ := hq
    refine bX11_driveVans_54 B (fun cc => absurd cc (Int32.not_le.mpr (nI_lt hql (by omega)))) (fun _ => ?_)
    refine bX11_driveVans_57 B h.c.x.1 h.c.x.2.2.2.2.2.2.2.1 h.c.x.2.2.2.2.2.1 (c_gpar h.c hq') (h.c.k1 7 (by decide)) (fun r S' hq => ?_)
    obtain ⟨rfl, rfl⟩ := hq
    refine bX11_driveVans_69 B (h.c.kp hq') (c_dend h hA hql (hg q (Nat.le_refl _) hql).1) h.rn.1 (fun S' hq => bX11_driveVans_75 B ?_)
    rw [nI_1]
    refine ih (q + 1) S' (by omega) hq (fun x h1 h2 => ?_)
    exact gp_lo (fun F h3 h4 => niD_x h3 h4 (by omega)) niD_n (hg x (by omega) h2)
end DL2
section DALL
variable {l : Launch} {w : Wd} {S : St} {T : Tb} {D0 : Ab} {R : Ke}
theorem dE_self {D0 : Ab} : dE D0 D0 = D0 := aset_self
theorem c_dall (h : CR w S T D0) (hK : KE S T D0 R) (hA : AIy D0) : ConV l yX11_driveVans (wsOf yX11_driveVans cX11_driveVans 2 none) rX11_driveVans w S [.ref (T 0 0)] (fun S' => DC0 w S' T D0 R (niN (drV D0 (nV D0)).2 (nP D0)) (drV D0 (nV D0)).1) := by
  have hb : ConV l yX5_begin (wsOf yX5_begin cX5_begin 1 none) rX5_begin w S [.ref (T 13 0)] (fun S' => S' = sI (sI S 388 (T 13 0) 0) 389 (T 13 0) 0) := by
    refine con_V (by decide +kernel) rfl (Nat.le_of_ble_eq_true rfl) (fun p e s m args below meth c B => ?_)
    exact bX5_begin_0 B (h.k1 13 (by decide)) rfl
  have hC : CR w S T (dE D0 D0) := by rw [dE_self]; exact h
  refine con_V (by decide +kernel) rfl (Nat.le_of_ble_eq_true rfl) (fun p e s m args below meth c B => ?_)
  refine bX11_driveVans_0 B h.x.1 h.x.2.2.2.2.2.2.2.1 hb (h.k1 13 (by decide)) (fun S' hq => bX11_driveVans_7 B ?_)
  subst hq
  have h0 := DC0.beg (D := D0) (R := R) (fun _ _ _ => rfl) rfl hC hK 0 0
  refine l_dl1 B hA (fun S2 h2 hg2 => bX11_driveVans_44 B (l_dl2 (E := (drV D0 (nV D0)).2) B hA (fun S3 h3 => bX11_driveVans_81 B h3) (nP D0) 0 S2 (by omega) h2 (fun x _ hx => hg2 x hx))) (nV D0) 0 _ (by omega) h0 (fun x hx => ?_) (fun v _ hv i hi => ?_)
  · show Gp (au D0 833 0 0) x ∧ Gw (au D0 833 0 0) x
    exact gp_lo (fun F h1 h2 => by rw [au_neF (by omega)]) (by unfold nL; rw [au_neF (by decide)]) ⟨hA.gp hx, hA.gw hx⟩
  · show au D0 833 0 0 834 _ = 0
    rw [au_neF (by decide)]
    exact hA.1.2.2.2.1 _ ⟨v, i, hv, hi, rfl⟩
end DALL
