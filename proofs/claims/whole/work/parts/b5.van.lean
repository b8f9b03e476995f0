/-! THE CLASS'S VAN: stop after stop -/
def midD (D : Ab) (q : Nat) : Ab := if visD D q 834 q = 0 ∧ ¬ D 914 q = 2 then (plF (visD D q) q).2 else visD D q
theorem isN_up {x : Int32} (h : isN x 2) : isN (x + 1) 3 := by
  obtain ⟨e1, h1⟩ := h.nI
  rw [e1]
  have : ∀ k : Nat, k < 3 → isN (nI k + 1) 3 := by
    intro k hk
    rw [nI_1]
    exact ⟨by rw [nI_toInt (by omega)]; omega, by rw [nI_toInt (by omega)]; omega⟩
  exact this _ (by omega)
theorem isN_3 {x : Int32} (h : isN x 3) (h3 : ¬ x = 3) : isN x 2 := by
  obtain ⟨e1, h1⟩ := h.nI
  have h4 : x.toNatClampNeg ≠ 3 := fun z => h3 (by rw [e1, z]; rfl)
  refine ⟨h.1, ?_⟩
  rw [e1, nI_toInt (by omega)]; omega
theorem tryA_gp {D : Ab} {q : Nat} (g : Gp D q) (gw : Gw D q) (z : D 834 q = 0) : Gp (tryA D q) q := by
  have t4 : tryA D q 834 = D 834 := tryA_hi (by omega) (by omega)
  have t5 : tryA D q 835 q = D 835 q + 1 := by unfold tryA; rw [aset_same, va_up_self, stayD_hi (by omega)]
  refine ⟨by rw [t5]; exact isN_up (gw z), fun _ => ?_, fun y => ?_⟩
  · rw [tryA_hi (by omega) (by omega)]; exact g.2.1 z
  · rw [t4, z] at y; exact absurd y (by decide)
theorem plF_tryA {D : Ab} {q : Nat} (g : Gp D q) (gw : Gw D q) (z : D 834 q = 0) (o : OrdL D (cl (D 916 q))) (n4 : nL D ≤ 4) (n16 : nH D ≤ 16) :
    Gp (plF (tryA D q) q).2 q ∧ ((plF (tryA D q) q).1 = true ↔ ¬ (plF (tryA D q) q).2 834 q = 0) := by
  have th : ∀ F, 846 ≤ F → tryA D q F = D F := fun F h => tryA_hi (by omega) (by omega)
  unfold plF
  refine Gp.plc _ 0 (tryA D q) (tryA_gp g gw z) (by rw [tryA_hi (by omega) (by omega)]; exact z) ?_ ?_ ?_ rfl (by omega)
  · unfold OrdL nL nH at o ⊢
    rw [th 904 (by decide), th 905 (by decide), th 906 (by decide), th 900 (by decide), th 916 (by decide)]; exact o
  · unfold nL at n4 ⊢; rw [th 906 (by decide)]; exact n4
  · unfold nH at n16 ⊢; rw [th 900 (by decide)]; exact n16
theorem vis_home {D : Ab} {q : Nat} (hb : homeB (waitD D q) (cl (D 916 q)) = true) : visD D q = aset (stayD D q) 834 (va_up ((stayD D q) 834) q 1) := if_pos hb
theorem vis_away {D : Ab} {q : Nat} (hb : ¬ homeB (waitD D q) (cl (D 916 q)) = true) : visD D q = tryA D q := if_neg hb
theorem vis_1 {D : Ab} {q : Nat} (hb : homeB (waitD D q) (cl (D 916 q)) = true) : visD D q 834 q = 1 := by rw [vis_home hb, aset_same, va_up_self]
theorem stop_eq {D : Ab} {q : Nat} (g : Gp D q) (gw : Gw D q) (z : D 834 q = 0) (o : OrdL D (cl (D 916 q))) (n4 : nL D ≤ 4) (n16 : nH D ≤ 16) (cn : Int32) :
    setD (midD D q) q cn = (cn + bI (doneD D q).1, (doneD D q).2) := by
  unfold doneD midD
  by_cases hb : homeB (waitD D q) (cl (D 916 q)) = true
  · have e1 := vis_1 hb
    rw [if_neg (fun y => by rw [e1] at y; exact absurd y.1 (by decide)), if_pos hb]
    unfold setD
    rw [if_neg (by rw [e1]; decide), vis_home hb]
    rfl
  · have t4 : tryA D q 834 q = 0 := by rw [tryA_hi (by omega) (by omega)]; exact z
    rw [vis_away hb, if_neg hb]
    by_cases c2 : D 914 q = 2
    · rw [if_neg (fun y => y.2 c2), if_pos c2]
      unfold setD
      rw [if_pos t4]
      show (cn, _) = (cn + 0, _)
      rw [Int32.add_zero]
    · rw [if_pos ⟨t4, c2⟩, if_neg c2]
      obtain ⟨-, pi⟩ := plF_tryA g gw z o n4 n16
      by_cases c3 : (plF (tryA D q) q).1 = true
      · rw [if_pos c3]
        unfold setD
        rw [if_neg (pi.mp c3)]
        rfl
      · rw [if_neg c3]
        have z2 : (plF (tryA D q) q).2 834 q = 0 := by
          by_cases y : (plF (tryA D q) q).2 834 q = 0
          · exact y
          · exact absurd (pi.mpr y) c3
        unfold setD
        rw [if_pos z2]
        show (cn, _) = (cn + 0, _)
        rw [Int32.add_zero]
theorem mid_gp {D : Ab} {q : Nat} (g : Gp D q) (gw : Gw D q) (z : D 834 q = 0) (o : OrdL D (cl (D 916 q))) (n4 : nL D ≤ 4) (n16 : nH D ≤ 16) : Gp (midD D q) q := by
  unfold midD
  by_cases hb : homeB (waitD D q) (cl (D 916 q)) = true
  · have e1 := vis_1 hb
    rw [if_neg (fun y => by rw [e1] at y; exact absurd y.1 (by decide))]
    refine ⟨?_, fun y => ?_, fun y => ?_⟩
    · rw [vis_home hb, aset_ne (by decide), stayD_hi (by omega)]; exact g.1
    · rw [e1] at y; exact absurd y (by decide)
    · rw [e1] at y; exact absurd y (by decide)
  · rw [vis_away hb]
    split
    · exact (plF_tryA g gw z o n4 n16).1
    · exact tryA_gp g gw z
theorem set_gp {D : Ab} {q : Nat} (g : Gp D q) (cn : Int32) : Gp (setD D q cn).2 q ∧ Gw (setD D q cn).2 q := by
  unfold setD
  by_cases c1 : D 834 q = 0
  · rw [if_pos c1]
    show Gp (lostD D q) q ∧ Gw (lostD D q) q
    unfold lostD
    by_cases c2 : D 835 q = 3
    · rw [if_pos c2]
      have e4 : aset D 834 (va_up (D 834) q 4) 834 q = 4 := by rw [aset_same, va_up_self]
      refine ⟨⟨?_, fun y => ?_, fun y => ?_⟩, fun y => ?_⟩
      · rw [aset_ne (by decide)]; exact g.1
      · rw [e4] at y; exact absurd y (by decide)
      · rw [e4] at y; exact absurd y (by decide)
      · rw [e4] at y; exact absurd y (by decide)
    · rw [if_neg c2]
      exact ⟨g, fun _ => isN_3 g.1 c2⟩
  · rw [if_neg c1]
    exact ⟨g, fun y => absurd y c1⟩
theorem vis_x {D : Ab} {q F x : Nat} (h : F < 842) (hx : x ≠ q) : visD D q F x = D F x := by
  unfold visD
  split
  · by_cases z : F = 834
    · subst z; rw [aset_same, va_up_ne _ _ hx, stayD_hi (by omega)]
    · rw [aset_ne z, stayD_hi (by omega)]
  · unfold tryA
    by_cases z : F = 835
    · subst z; rw [aset_same, va_up_ne _ _ hx, stayD_hi (by omega)]
    · rw [aset_ne z, stayD_hi (by omega)]
theorem done_x {D : Ab} {q F x : Nat} (h1 : 834 ≤ F) (h : F ≤ 838) (hx : x ≠ q) : (doneD D q).2 F x = D F x := by
  have ht : tryA D q F x = D F x := by
    unfold tryA
    by_cases z : F = 835
    · subst z; rw [aset_same, va_up_ne _ _ hx, stayD_hi (by omega)]
    · rw [aset_ne z, stayD_hi (by omega)]
  have hl : ∀ D', lostD D' q F x = D' F x := fun D' => by
    unfold lostD
    split
    · by_cases z : F = 834
      · subst z; rw [aset_same, va_up_ne _ _ hx]
      · rw [aset_ne z]
    · rfl
  have hp : (plF (tryA D q) q).2 F x = D F x := by
    unfold plF
    rw [plcD_x (by omega) hx (by omega)]; exact ht
  unfold doneD
  split
  · show aset (stayD D q) 834 (va_up ((stayD D q) 834) q 1) F x = D F x
    by_cases z : F = 834
    · subst z; rw [aset_same, va_up_ne _ _ hx, stayD_hi (by omega)]
    · rw [aset_ne z, stayD_hi (by omega)]
  · split
    · show lostD _ q F x = _
      rw [hl]; exact ht
    · split
      · exact hp
      · show lostD (plF (tryA D q) q).2 q F x = _
        rw [hl]; exact hp
theorem done_gg {D : Ab} {q N : Nat} (hg : ∀ x, x < N → Gp D x ∧ Gw D x) (hq : q < N) (z : D 834 q = 0) (o : OrdL D (cl (D 916 q))) (n4 : nL D ≤ 4) (n16 : nH D ≤ 16) : ∀ x, x < N → Gp (doneD D q).2 x ∧ Gw (doneD D q).2 x := by
  intro x hx
  by_cases y : x = q
  · subst y
    obtain ⟨g, gw⟩ := hg x hx
    have e1 := stop_eq g gw z o n4 n16 0
    have r := set_gp (mid_gp g gw z o n4 n16) 0
    rw [e1] at r
    exact r
  · obtain ⟨g, gw⟩ := hg x hx
    unfold Gp at g ⊢
    unfold Gw at gw ⊢
    rw [done_x (by decide) (by decide) y, done_x (by decide) (by decide) y, done_x (by decide) (by decide) y, done_x (by decide) (by decide) y, done_x (by decide) (by decide) y, (doneD_D (D := D) (q := q)).n.2.1]
    exact ⟨g, gw⟩
theorem vis_D {D : Ab} {q : Nat} : FrD D (visD D q) := fun F h1 h2 => by
  unfold visD
  split
  · rw [aset_ne (by omega), stayD_hi (by omega)]
  · exact tryA_hi (by omega) (by omega)
theorem vis_time {D : Ab} {q : Nat} (hA : AIw D) (hq : q < 30) (ht : trOk (trD D) 1500) : trOk (trD (visD D q)) 1894 := by
  have h := (stayD_time hA hq ht).2
  unfold visD
  split
  · exact h
  · exact h
theorem rwD {D0 D : Ab} (h : D 841 = D0 841) (v i : Nat) : rwf D v i = rwf D0 v i := by unfold rwf; rw [h]
section DVAN
variable {p : Program} {l : Launch} {e : Env} {s : State} {m : MethodId} {args : Array Value} {below : List Frame} {meth : Method} {c : Code} {w : Wd}
theorem l_dvan (B : Bd p s m args meth c cX5_driveVan 4 (wsOf yX5_driveVan cX5_driveVan 4 none) RX5 w none "driveVan") {Q : State → Prop} {T : Tb} {D0 : Ab} {R : Ke} {v : Nat} {Z : Int32 × Ab} (hA : AIy D0) (hv : v < nV D0) (hx : ∀ S', DC w S' T D0 R Z.2 Z.1 → (∀ x, x < nP D0 → Gp Z.2 x ∧ Gw Z.2 x) → trOk (trD Z.2) 4086 → K p l e rX5_driveVan s m args below meth c 4 w 0 0 Q S' 86 [(0, .ref (T 13 0))] []) :
    ∀ d k S cn D, k + d = mny D0 v → DC w S T D0 R D cn → (∀ x, x < nP D0 → Gp D x ∧ Gw D x) → (∀ i, k ≤ i → i < mny D0 v → D 834 (rwf D0 v i) = 0) → trOk (trD D) 4086 → stV v d k cn D = Z →
      K p l e rX5_driveVan s m args below meth c 4 w 0 0 Q S 13 [(0, .ref (T 13 0)), (1, .ref (T 27 v)), (2, .int (nI k))] [] := by
  have v4 := hA.1.1.1.v4 hv
  have m12 := hA.1.1.1.m12 v4
  have P : ∀ S cn D, DC w S T D0 R D cn → (kd S (T 27 v) = 12 ∧ gP S 708 (T 27 v) = some (T 28 v) ∧ kd S (T 28 v) = 8) ∧ gI S 449 (T 28 v) = nI (mny D0 v) ∧ gI S 707 (T 27 v) = D 912 v ∧ Rt S (T 28 v) (T 29 v) (mny D0 v) (fun i => T 30 (rwf D0 v i)) := fun S cn D h => by
    have hv' : v < nV (dE D0 D) := by rw [(dE_n h.f).2.2.1]; exact hv
    obtain ⟨b1, b2, b3, b4, b5, b6⟩ := h.c.va hv'
    have em : mny (dE D0 D) v = mny D0 v := by unfold mny dE; rw [aset_same]
    have er : ∀ i, rwf (dE D0 D) v i = rwf D0 v i := fun i => rwD (by rw [dE_F (by decide)]; exact h.1.2) v i
    rw [dE_F (by decide)] at b4
    rw [em] at b5 b6
    refine ⟨h.c.kv hv', b5, b4, h.c.k (cnV (by decide) (by decide) hv'), h.c.lk (28, 448, 29) (by decide) (cnV (by decide) (by decide) hv'), h.c.k (cnV (by decide) (by decide) hv'), h.c.lnn (cnV (by decide) (by decide) hv') (by decide), b5, by omega, fun i hi => ⟨by rw [b6 i hi, er], ?_⟩⟩
    exact h.c.kp (by rw [(dE_n h.f).2.2.2]; exact (hA.1.1.1.2.2.2.2.1 v i v4 hi).2)
  intro d
  induction d with
  | zero =>
    intro k S cn D hk h hg hz ht hZ
    obtain ⟨⟨p1, p2, p3⟩, p4, -⟩ := P S cn D h
    refine bX5_driveVan_13 B p1 p2 p3 (fun _ => ?_) (fun cc => absurd (by rw [p4, show k = mny D0 v by omega]; exact Int32.le_refl _) cc)
    have : Z = (cn, D) := hZ.symm
    subst this
    exact hx S h hg ht
  | succ d ih =>
    intro k S cn D hk h hg hz ht hZ
    obtain ⟨⟨p1, p2, p3⟩, p4, p5, p6⟩ := P S cn D h
    have hkm : k < mny D0 v := by omega
    obtain ⟨r1, r2, r3, -⟩ := h.rn
    obtain ⟨pl, -, -, -, -, -, u6⟩ := h.2.2.1
    have hw := hA.1.1.2.1.D h.f
    have es : stV v (d + 1) k cn D = if D 912 v + 60 < D 842 0 then (cn, D) else stV v d (k + 1) (cn + bI (doneD D (rwf D v k)).1) (doneD D (rwf D v k)).2 := rfl
    rw [es, rwD h.1.2] at hZ
    refine bX5_driveVan_13 B p1 p2 p3 (fun cc => absurd cc (by rw [p4]; exact Int32.not_le.mpr (nI_lt hkm (by omega)))) (fun _ => ?_)
    refine bX5_driveVan_24 B r1 r2 r3 p1 (fun c1 => ?_) (fun c1 => ?_)
    · rw [p5, u6] at c1
      rw [if_pos c1] at hZ
      subst hZ
      exact hx S h hg ht
    rw [p5, u6] at c1
    rw [if_neg c1] at hZ
    have t15 := le60 hw v4 ht c1
    have hq := (hA.1.1.1.2.2.2.2.1 v k v4 hkm).2
    have z0 := hz k (Nat.le_refl _) hkm
    revert hq z0 hZ
    obtain ⟨q, hqq⟩ : ∃ q, q = rwf D0 v k := ⟨_, rfl⟩
    rw [← hqq]
    intro hZ hq z0
    have q30 := hA.1.1.1.p30 hq
    obtain ⟨g, gw⟩ := hg q hq
    have hh : cl (D 916 q) < nH D0 := (h.par hA hq).1.2.2
    have ol := hA.ordL h.f hh
    have n4 : nL D ≤ 4 := by rw [h.f.n.2.1]; exact hA.1.1.1.2.1.2.1.2
    have n16 : nH D ≤ 16 := by rw [h.f.n.1]; exact hA.1.1.1.2.1.1.2
    have eS := stop_eq g gw z0 ol n4 n16 cn
    have hat : ConR l yX6_at (wsOf yX6_at cX6_at 2 (some (.object "LastMile$Parcel"))) rX6_at w S [.ref (T 28 v), .int (nI k)] (fun x S' => S = S' ∧ x = T 30 q) := by
      have := c_at (l := l) (w := w) p6 hkm
      rw [hqq]; exact this
    refine bX5_driveVan_41 B p1 p2 hat p3 (fun r S' hq1 => ?_)
    obtain ⟨rfl, rfl⟩ := hq1
    refine bX5_driveVan_49 B (c_dvisit h hA hq t15) r1 (fun S1 h1 => ?_)
    -- settling, and on
    have sett : ∀ S2, DC w S2 T D0 R (midD D q) cn → K p l e rX5_driveVan s m args below meth c 4 w 0 0 Q S2 75 [(0, .ref (T 13 0)), (1, .ref (T 27 v)), (2, .int (nI k)), (3, .ref (T 30 q))] [] := by
      intro S2 h2
      refine bX5_driveVan_75 B (c_dsettle h2 hA hq (mid_gp g gw z0 ol n4 n16).1) h2.rn.1 (fun S3 h3 => bX5_driveVan_80 B ?_)
      rw [eS] at h3
      rw [nI_1]
      refine ih (k + 1) S3 _ _ (by omega) h3 (done_gg hg hq z0 ol n4 n16) (fun i hi hi2 => ?_) (doneD_time hw q30 t15) hZ
      have ne : rwf D0 v i ≠ q := fun y => by
        have := (hA.1.1.1.2.2.2.2.2 v v i k v4 v4 hi2 hkm (y.trans hqq)).2
        omega
      show (doneD D q).2 834 (rwf D0 v i) = 0
      rw [done_x (by decide) (by decide) ne]
      exact hz i (by omega) hi2
    obtain ⟨⟨a1, -, -⟩, ⟨-, a5, -⟩, -, a7, -⟩ := h1.par hA hq
    have e14 : visD D q 914 q = D 914 q := by rw [vis_D 914 (by decide) (by decide)]
    rw [e14] at a5
    refine bX5_driveVan_55 B a1 (fun c2 => ?_) (fun c2 => ?_)
    · rw [a7] at c2
      refine sett S1 ?_
      unfold midD
      rw [if_neg (fun y => c2 y.1)]; exact h1
    rw [a7] at c2
    refine bX5_driveVan_62 B a1 (fun c3 => ?_) (fun c3 => ?_)
    · rw [a5] at c3
      refine sett S1 ?_
      unfold midD
      rw [if_neg (fun y => y.2 c3)]; exact h1
    rw [a5] at c3
    have hnb : ¬ homeB (waitD D q) (cl (D 916 q)) = true := fun y => by rw [vis_1 y] at c2; exact absurd c2 (by decide)
    have hgv : Gp (visD D q) q := by rw [vis_away hnb]; exact tryA_gp g gw z0
    refine bX5_driveVan_70 B (c_dorders h1 hA hq hgv c2 ((vis_time hw q30 t15).up (by omega))) h1.rn.1 (fun S2 h2 => sett S2 ?_)
    unfold midD
    rw [if_pos ⟨c2, c3⟩]; exact h2
end DVAN
