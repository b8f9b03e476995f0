/-! THE CLASS'S ORDERS: a box, a locker, a neighbour -/
def thr (i : Nat) : Int32 := if i = 0 then 5 else if i = 1 then 15 else 40
def bxf (v : Int32) (f : Nat → Int32) : Nat → Nat → Int32
  | 0, _ => -1
  | d + 1, i => if thr i < v then bxf v f d (i + 1) else if f i ≤ 0 then bxf v f d (i + 1) else nI i
theorem bxf_box {D : Ab} {q k : Nat} (h : D 915 q ≤ 40) : bxf (D 915 q) (fun b => D 839 (3 * k + b)) 3 0 = boxD D q k := by
  have t0 : thr 0 = 5 := rfl
  have t1 : thr 1 = 15 := rfl
  have t2 : thr 2 = 40 := rfl
  have h2 : ¬ thr 2 < D 915 q := by rw [t2]; exact Int32.not_lt.mpr h
  unfold boxD
  by_cases c1 : D 915 q ≤ 5
  · have h0 : ¬ thr 0 < D 915 q := by rw [t0]; exact Int32.not_lt.mpr c1
    have h1 : ¬ thr 1 < D 915 q := by rw [t1]; exact Int32.not_lt.mpr (Int32.le_trans c1 (by decide))
    rw [if_pos c1]
    simp only [bxf, boxN, if_neg h0, if_neg h1, if_neg h2]
  · have h0 : thr 0 < D 915 q := by rw [t0]; exact Int32.not_le.mp c1
    rw [if_neg c1]
    by_cases c2 : D 915 q ≤ 15
    · have h1 : ¬ thr 1 < D 915 q := by rw [t1]; exact Int32.not_lt.mpr c2
      rw [if_pos c2]
      simp only [bxf, boxN, if_pos h0, if_neg h1, if_neg h2]
    · have h1 : thr 1 < D 915 q := by rw [t1]; exact Int32.not_le.mp c2
      rw [if_neg c2]
      simp only [bxf, boxN, if_pos h0, if_pos h1, if_neg h2]
section BXF
variable {p : Program} {l : Launch} {e : Env} {s : State} {m : MethodId} {args : Array Value} {below : List Frame} {meth : Method} {c : Code} {w : Wd} {S : St}
theorem l_boxF (B : Bd p s m args meth c cX2_boxFor 3 (wsOf yX2_boxFor cX2_boxFor 3 (some .int)) RX2 w (some .int) "boxFor") {post : Int32 → Prop} {Q : State → Prop} {a x : Nat} {v : Int32} (k1 : kd S a = 4) (k2 : gP S 193 a = some x) (k3 : kd S x = 21) (k4 : ln S x = 3)
    (hf : ∀ r, post r → ∀ i, K p l e rX2_boxFor s m args below meth c 3 w 0 0 Q S 25 [(2, .int (nI i))] [] ∨ True) (hx : post (-1) → K p l e rX2_boxFor s m args below meth c 3 w 0 0 Q S 33 [] []) (hr : ∀ i, i < 3 → post (nI i) → K p l e rX2_boxFor s m args below meth c 3 w 0 0 Q S 25 [(2, .int (nI i))] []) :
    ∀ d i, i + d = 3 → post (bxf v (rI S x) d i) → K p l e rX2_boxFor s m args below meth c 3 w 0 0 Q S 2 [(0, .ref a), (1, .int v), (2, .int (nI i))] [] := by
  intro d
  induction d with
  | zero =>
    intro i hi hp
    have : i = 3 := by omega
    subst this
    exact bX2_boxFor_2 B (fun _ => hx hp) (fun cc => absurd (by decide) cc)
  | succ d ih =>
    intro i hi hp
    have i3 : i < 3 := by omega
    have ec : (nI i).toNatClampNeg = i := nI_clamp (by omega)
    have next : post (bxf v (rI S x) d (i + 1)) → K p l e rX2_boxFor s m args below meth c 3 w 0 0 Q S 27 [(0, .ref a), (1, .int v), (2, .int (nI i))] [] := fun hp2 => by
      refine bX2_boxFor_27 B ?_
      rw [nI_1]
      exact ih (i + 1) (by omega) hp2
    unfold bxf at hp
    refine bX2_boxFor_2 B (fun cc => absurd cc (Int32.not_le.mpr (nI_lt (a := i) (b := 3) (by omega) (by decide)))) (fun _ => bX2_boxFor_7 B (vp_in_nI i3 (by decide)) (fun cc => ?_) (fun cc => ?_))
    · rw [ec] at cc
      rw [if_pos (show thr i < v from cc)] at hp
      exact next hp
    · rw [ec] at cc
      rw [if_neg (show ¬ thr i < v from cc)] at hp
      refine bX2_boxFor_16 B k1 k2 k3 (by rw [k4]; exact vp_in_nI i3 (by decide)) (fun c2 => ?_) (fun c2 => ?_)
      · rw [ec] at c2
        rw [if_pos c2] at hp
        exact next hp
      · rw [ec] at c2
        rw [if_neg c2] at hp
        exact hr i i3 hp
end BXF
section TRY
variable {l : Launch} {w : Wd} {S : St} {T : Tb} {D0 D : Ab} {R : Ke} {cn : Int32}
theorem DC0.lok (h : DC0 w S T D0 R D cn) {k : Nat} (hk : k < nL D0) : kd S (T 23 k) = 4 ∧ gP S 192 (T 23 k) = some (T 24 k) ∧ kd S (T 24 k) = 6 ∧ gI S 320 (T 24 k) = D 907 k ∧ gI S 321 (T 24 k) = D 908 k ∧ gP S 193 (T 23 k) = some (T 25 k) ∧ kd S (T 25 k) = 21 ∧ ln S (T 25 k) = 3 ∧ ∀ b, b < 3 → rI S (T 25 k) b = D 839 (3 * k + b) := by
  have c := h.c
  have hk' : k < nL (dE D0 D) := by rw [(dE_n h.f).2.1]; exact hk
  obtain ⟨b1, b2, b3⟩ := c.lo hk'
  rw [dE_F (by decide)] at b1 b2 b3
  exact ⟨c.k (cnL (by decide) (by decide) hk'), c.lk (23, 192, 24) (by decide) (cnL (by decide) (by decide) hk'), c.k (cnL (by decide) (by decide) hk'), b1, b2, c.lk (23, 193, 25) (by decide) (cnL (by decide) (by decide) hk'), c.k (cnL (by decide) (by decide) hk'), c.lnn (cnL (by decide) (by decide) hk') (by decide), b3⟩
theorem DC.lok (h : DC w S T D0 R D cn) {k : Nat} (hk : k < nL D0) : kd S (T 23 k) = 4 ∧ gP S 192 (T 23 k) = some (T 24 k) ∧ kd S (T 24 k) = 6 ∧ gI S 320 (T 24 k) = D 907 k ∧ gI S 321 (T 24 k) = D 908 k ∧ gP S 193 (T 23 k) = some (T 25 k) ∧ kd S (T 25 k) = 21 ∧ ln S (T 25 k) = 3 ∧ ∀ b, b < 3 → rI S (T 25 k) b = D 839 (3 * k + b) := h.z.lok hk
theorem bxf_congr {v : Int32} {f g : Nat → Int32} (h : ∀ b, b < 3 → f b = g b) : ∀ d i, i + d = 3 → bxf v f d i = bxf v g d i := by
  intro d
  induction d with
  | zero => intro i _; rfl
  | succ d ih =>
    intro i hi
    unfold bxf
    rw [ih (i + 1) (by omega), h i (by omega)]
theorem c_dbox (h : DC w S T D0 R D cn) {q k : Nat} (hk : k < nL D0) (hv : D 915 q ≤ 40) : ConI l yX2_boxFor (wsOf yX2_boxFor cX2_boxFor 3 (some .int)) rX2_boxFor w S [.ref (T 23 k), .int (D 915 q)] (fun r S' => S = S' ∧ r = boxD D q k) := by
  obtain ⟨k1, -, -, -, -, k2, k3, k4, k5⟩ := h.lok hk
  refine con_I (by decide +kernel) rfl (Nat.le_of_ble_eq_true rfl) (fun p e s m args below meth c B => ?_)
  refine bX2_boxFor_0 B ?_
  refine l_boxF (post := fun r => r = boxD D q k) B k1 k2 k3 k4 (fun _ _ _ => Or.inr True.intro) (fun hp => bX2_boxFor_33 B ⟨rfl, hp⟩) (fun i _ hp => bX2_boxFor_25 B ⟨rfl, hp⟩) 3 0 (by omega) ?_
  rw [bxf_congr k5 3 0 (by omega)]
  exact bxf_box hv
def tlD (D : Ab) (q k h : Nat) : Ab := if D 914 q = 1 ∨ boxD D q k = -1 ∨ ¬ dist (D 901 h) (D 902 h) (D 907 k) (D 908 k) ≤ 15 then D else layD D q k (cl (boxD D q k))
def tnD (D : Ab) (q i h : Nat) : Ab := if dist (D 901 h) (D 902 h) (D 901 i) (D 902 i) ≤ 8 then (if ((goD D (D 901 i) (D 902 i)) 903 i >>> (hr ((goD D (D 901 i) (D 902 i)) 842 0) &&& 31)) &&& 1 = 1 then leftD (goD D (D 901 i) (D 902 i)) q i else goD D (D 901 i) (D 902 i)) else D
theorem c_dlock (h : DC w S T D0 R D cn) (hA : AIy D0) {q k : Nat} {b : Int} (hq : q < nP D0) (hk : k < nL D0) (hv : D 915 q ≤ 40) (h8 : D 838 q = 0) (ht : trOk (trD D) b) (hb : b ≤ 800000) : ConV l yX5_tryLocker (wsOf yX5_tryLocker cX5_tryLocker 6 none) rX5_tryLocker w S [.ref (T 13 0), .ref (T 30 q), .int (nI k)] (fun S' => DC w S' T D0 R (tlD D q k (cl (D 916 q))) cn) := by
  obtain ⟨⟨a1, a2, a3⟩, ⟨a4, a5, a6⟩, p1, p2, p3, p4, p5⟩ := h.par hA hq
  obtain ⟨b1, b2, b3, b4, b5⟩ := h.hom a3
  obtain ⟨k1, k2, k3, k4, k5, k6, k7, k8, k9⟩ := h.lok hk
  obtain ⟨r1, r2, r3, -, -, r6, -⟩ := h.rn
  have hw := hA.1.1.2.1.D h.f
  have n16 : cl (D 916 q) < 16 := by have := hA.1.1.1.2.1.1.2; omega
  have nl4 : k < 4 := by have := hA.1.1.1.2.1.2.1.2; omega
  have hk' : k < nL (dE D0 D) := by rw [(dE_n h.f).2.1]; exact hk
  refine con_V (by decide +kernel) rfl (Nat.le_of_ble_eq_true rfl) (fun p e s m args below meth c B => ?_)
  refine bX5_tryLocker_0 B r1 r6 (c_gloc h.c hk') (h.c.k1 5 (by decide)) (fun r S' hq1 => ?_)
  obtain ⟨rfl, rfl⟩ := hq1
  have hbx := c_dbox (l := l) h hk (q := q) hv
  rw [← a6] at hbx
  refine bX5_tryLocker_8 B k1 a1 hbx (fun r S' hq1 => ?_)
  obtain ⟨rfl, rfl⟩ := hq1
  refine bX5_tryLocker_20 B k1 k2 a1 a2 b1 b2 (c_dist k3 b3) k3 (fun r S' hq1 => ?_)
  obtain ⟨rfl, rfl⟩ := hq1
  rw [k4, k5, b4, b5, dist_comm (hw.2.1 k nl4).1 (hw.2.1 k nl4).2 (hw.1.2.2.2.1 _ n16).1 (hw.1.2.2.2.1 _ n16).2]
  unfold tlD
  have no : (D 914 q = 1 ∨ boxD D q k = -1 ∨ ¬ dist (D 901 (cl (D 916 q))) (D 902 (cl (D 916 q))) (D 907 k) (D 908 k) ≤ 15) → DC w S T D0 R (if D 914 q = 1 ∨ boxD D q k = -1 ∨ ¬ dist (D 901 (cl (D 916 q))) (D 902 (cl (D 916 q))) (D 907 k) (D 908 k) ≤ 15 then D else layD D q k (cl (boxD D q k))) cn := fun z => by rw [if_pos z]; exact h
  refine bX5_tryLocker_36 B (fun c1 => bX5_tryLocker_45 B ?_) (fun c1 => bX5_tryLocker_41 B ?_)
  rotate_left
  · refine bX5_tryLocker_46 B a1 (fun _ => bX5_tryLocker_66 B (no (Or.inr (Or.inr c1)))) (fun _ => bX5_tryLocker_56 B (fun _ => bX5_tryLocker_66 B (no (Or.inr (Or.inr c1)))) (fun z => absurd z (by decide)))
  refine bX5_tryLocker_46 B a1 (fun c2 => bX5_tryLocker_66 B (no (Or.inl (a5.symm.trans c2)))) (fun c2 => bX5_tryLocker_56 B (fun z => absurd rfl z) (fun _ => ?_))
  rw [a5] at c2
  rcases boxD_cases D q k with e1 | ⟨bx, hb3, e1⟩
  · exact bX5_tryLocker_61 B (fun z => absurd z (by rw [e1]; decide)) (fun _ => bX5_tryLocker_66 B (no (Or.inr (Or.inl e1))))
  have nbx : ¬ boxD D q k = -1 := by
    rw [e1]
    exact (show ∀ b, b < 3 → ¬ nI b = -1 from by decide) bx hb3
  rw [if_neg (fun z => z.elim c2 (fun z => z.elim nbx (fun z => z c1)))]
  refine bX5_tryLocker_61 B (fun _ => ?_) (fun z => absurd (by rw [e1]; exact (show ∀ b, b < 3 → (0 : Int32) ≤ nI b from by decide) bx hb3) z)
  refine bX5_tryLocker_67 B r1 r2 k1 k2 (c_dgoS h k3 k4 k5 ht hb) r3 (fun S1 h1 => ?_)
  obtain ⟨s1, s2, s3, -⟩ := h1.rn
  obtain ⟨pl, -, -, -, -, -, u6⟩ := h1.2.2.1
  refine bX5_tryLocker_78 B s1 s2 (c_stay s3) s3 (fun S2 hq2 => ?_)
  subst hq2
  rw [u6]
  have h2 := h1.minS (x := goD D (D 907 k) (D 908 k) 842 0 + 2)
  revert h2
  generalize sI S1 643 (T 14 0) (goD D (D 907 k) (D 908 k) 842 0 + 2) = S2
  intro h2
  obtain ⟨⟨a1, a2, a3⟩, -, p1, p2, p3, p4, p5⟩ := h2.par hA hq
  obtain ⟨k1, k2, k3, k4, k5, k6, k7, k8, k9⟩ := h2.lok hk
  have lo : ∀ F, F < 842 → au (goD D (D 907 k) (D 908 k)) 842 0 (goD D (D 907 k) (D 908 k) 842 0 + 2) F = D F := fun F hF => by rw [au_neF (by omega)]; exact goD_lo hF
  have eb : (boxD D q k).toNatClampNeg = bx := by rw [e1]; exact nI_clamp (by omega)
  have ecl : cl (boxD D q k) = bx := eb
  refine bX5_tryLocker_86 B k1 k6 k7 (by rw [k8, e1]; exact vp_in_nI hb3 (by decide)) a1 ?_
  rw [eb, ecl]
  have n30 : ∀ i, i < nL D0 → T 25 i ≠ T 30 q := fun i hi => h2.c.ne (cnL (by decide) (by decide) (by rw [(dE_n h2.f).2.1]; exact hi)) (cnP (by decide) (by decide) (by rw [(dE_n h2.f).2.2.2]; exact hq)) (Or.inl (by decide))
  have L8 : ∀ F, F ≠ 834 → F ≠ 836 → F ≠ 837 → F ≠ 838 → F ≠ 839 → layD D q k bx F = au (goD D (D 907 k) (D 908 k)) 842 0 (goD D (D 907 k) (D 908 k) 842 0 + 2) F := fun F h4 h6 h7 h8 h9 => by
    unfold layD; rw [aset_ne h9, aset_ne h8, aset_ne h7, aset_ne h6, aset_ne h4]
  have L4 : layD D q k bx 834 = va_up (D 834) q 2 := by unfold layD; rw [aset_ne (by decide), aset_ne (by decide), aset_ne (by decide), aset_ne (by decide), aset_same]
  have L6 : layD D q k bx 836 = va_up (D 836) q (nI k) := by unfold layD; rw [aset_ne (by decide), aset_ne (by decide), aset_ne (by decide), aset_same]
  have L7 : layD D q k bx 837 = va_up (D 837) q (nI bx) := by unfold layD; rw [aset_ne (by decide), aset_ne (by decide), aset_same]
  have L88 : layD D q k bx 838 = va_up (D 838) q 0 := by unfold layD; rw [aset_ne (by decide), aset_same]
  have L9 : layD D q k bx 839 = va_up (D 839) (3 * k + bx) (D 839 (3 * k + bx) - 1) := by unfold layD; rw [aset_same]
  rw [lo _ (by decide)] at p1 p2 p3 p5
  rw [lo _ (by decide), lo _ (by decide)] at p4
  rw [lo _ (by decide)] at k9
  refine h2.parX (q := q) (fun _ => rfl) (fun _ => rfl) (fun _ _ => rfl) (fun g a hg => by rw [gI_sI, if_neg (fun z => hg (by omega)), gI_sI, if_neg (fun z => hg (by omega)), gI_sI, if_neg (fun z => hg (by omega)), gI_sRI]) (fun a ha => by rw [rI_sI, rI_sI, rI_sI, rI_sRI, if_neg (ha k hk)]) (fun _ => rfl) hq (fun F hF => L8 F (by omega) (by omega) (by omega) (by omega) (by omega)) (fun F x h1 h2' hx => ?_) ⟨?_, ?_, ?_, ?_, ?_⟩ (fun i hi b' hb' => ?_)
  · rw [lo F (by omega)]
    by_cases z4 : F = 834
    · subst z4; rw [L4, va_up_ne _ _ hx]
    by_cases z6 : F = 836
    · subst z6; rw [L6, va_up_ne _ _ hx]
    by_cases z7 : F = 837
    · subst z7; rw [L7, va_up_ne _ _ hx]
    by_cases z8 : F = 838
    · subst z8; rw [L88, va_up_ne _ _ hx]
    rw [L8 F z4 z6 z7 z8 (by omega), lo F (by omega)]
  · rw [gI_sI, if_neg (fun z => absurd z.1 (by decide)), gI_sI, if_neg (fun z => absurd z.1 (by decide)), gI_sI, if_neg (fun z => absurd z.1 (by decide)), gI_sRI, L8 _ (by decide) (by decide) (by decide) (by decide) (by decide), lo _ (by decide)]; exact p1
  · rw [gI_sI, if_neg (fun z => absurd z.1 (by decide)), gI_sI, if_neg (fun z => absurd z.1 (by decide)), gI_sI, if_pos ⟨rfl, rfl⟩, L4, va_up_self]
  · rw [gI_sI, if_neg (fun z => absurd z.1 (by decide)), gI_sI, if_pos ⟨rfl, rfl⟩, L6, va_up_self]
  · rw [gI_sI, if_pos ⟨rfl, rfl⟩, L7, va_up_self]; exact fun _ => e1
  · rw [gI_sI, if_neg (fun z => absurd z.1 (by decide)), gI_sI, if_neg (fun z => absurd z.1 (by decide)), gI_sI, if_neg (fun z => absurd z.1 (by decide)), gI_sRI, L88, va_up_self]; exact p5.trans h8
  · rw [rI_sI, rI_sI, rI_sI, rI_sRI, L9]
    by_cases z : i = k
    · subst z
      rw [if_pos rfl]
      by_cases y : b' = bx
      · subst y; rw [va_up_self, va_up_self, k9 _ hb']
      · rw [va_up_ne _ _ y, va_up_ne _ _ (by omega)]; exact k9 b' hb'
    · rw [if_neg (h2.c.ne (cnL (by decide) (by decide) (by rw [(dE_n h2.f).2.1]; exact hi)) (cnL (by decide) (by decide) (by rw [(dE_n h2.f).2.1]; exact hk)) (Or.inr z)), va_up_ne _ _ (by omega)]
      have := (h2.lok hi).2.2.2.2.2.2.2.2 b' hb'
      rw [lo _ (by decide)] at this; exact this
theorem c_dnb (h : DC w S T D0 R D cn) (hA : AIy D0) {q i : Nat} {b : Int} (hq : q < nP D0) (hi : i < nH D0) (ht : trOk (trD D) b) (hb : b ≤ 800000) : ConV l yX5_tryNeighbour (wsOf yX5_tryNeighbour cX5_tryNeighbour 4 none) rX5_tryNeighbour w S [.ref (T 13 0), .ref (T 30 q), .int (nI i)] (fun S' => DC w S' T D0 R (tnD D q i (cl (D 916 q))) cn) := by
  obtain ⟨⟨a1, a2, a3⟩, -, -⟩ := h.par hA hq
  obtain ⟨b1, b2, b3, b4, b5⟩ := h.hom a3
  obtain ⟨k1, k2, k3, k4, k5⟩ := h.hom hi
  obtain ⟨r1, r2, r3, -, r5, -⟩ := h.rn
  have hw := hA.1.1.2.1.D h.f
  have nH16 := hA.1.1.1.2.1.1.2
  have n16 : cl (D 916 q) < 16 := by omega
  have hi' : i < nH (dE D0 D) := by rw [(dE_n h.f).1]; exact hi
  refine con_V (by decide +kernel) rfl (Nat.le_of_ble_eq_true rfl) (fun p e s m args below meth c B => ?_)
  refine bX5_tryNeighbour_0 B r1 r5 (c_ghom h.c hi') (h.c.k1 4 (by decide)) (fun r S' hq1 => ?_)
  obtain ⟨rfl, rfl⟩ := hq1
  refine bX5_tryNeighbour_8 B k1 k2 a1 a2 b1 b2 (c_dist k3 b3) k3 (fun r S' hq1 => ?_)
  obtain ⟨rfl, rfl⟩ := hq1
  rw [k4, k5, b4, b5, dist_comm (hw.1.2.2.2.1 i (by omega)).1 (hw.1.2.2.2.1 i (by omega)).2 (hw.1.2.2.2.1 _ n16).1 (hw.1.2.2.2.1 _ n16).2]
  unfold tnD
  refine bX5_tryNeighbour_26 B (fun c1 => ?_) (fun c1 => bX5_tryNeighbour_31 B (by rw [if_neg c1]; exact h))
  rw [if_pos c1]
  refine bX5_tryNeighbour_32 B r1 r2 k1 k2 (c_dgoS h k3 k4 k5 ht hb) r3 (fun S1 h1 => ?_)
  obtain ⟨s1, s2, s3, -⟩ := h1.rn
  obtain ⟨pl, -, -, -, -, -, u6⟩ := h1.2.2.1
  have hi1 : i < nH (dE D0 (goD D (D 901 i) (D 902 i))) := by rw [(dE_n h1.f).1]; exact hi
  refine bX5_tryNeighbour_43 B s1 s2 s3 (c_somebody h1.c hi1) (h1.hom hi).1 (fun r S' hq1 => ?_)
  obtain ⟨rfl, hr3⟩ := hq1
  rw [u6, dE_F (by decide)] at hr3
  rcases hr3 with ⟨rfl, hr3⟩ | ⟨rfl, hr3⟩
  rotate_left
  · exact bX5_tryNeighbour_54 B (fun _ => bX5_tryNeighbour_75 B (by rw [if_neg hr3]; exact h1)) (fun z => absurd rfl z)
  rw [if_pos hr3]
  refine bX5_tryNeighbour_54 B (fun z => absurd z (by decide)) (fun _ => bX5_tryNeighbour_57 B s1 s2 (c_stay s3) s3 (fun S2 hq2 => ?_))
  subst hq2
  rw [u6]
  have h2 := h1.minS (x := goD D (D 901 i) (D 902 i) 842 0 + 2)
  revert h2
  generalize sI S1 643 (T 14 0) (goD D (D 901 i) (D 902 i) 842 0 + 2) = S2
  intro h2
  obtain ⟨⟨a1, a2, a3⟩, -, p1, p2, p3, p4, p5⟩ := h2.par hA hq
  have lo : ∀ F, F < 842 → au (goD D (D 901 i) (D 902 i)) 842 0 (goD D (D 901 i) (D 902 i) 842 0 + 2) F = goD D (D 901 i) (D 902 i) F := fun F hF => au_neF (by omega)
  rw [lo _ (by decide)] at p1 p2 p3 p5
  rw [lo _ (by decide), lo _ (by decide)] at p4
  refine bX5_tryNeighbour_65 B a1 (bX5_tryNeighbour_75 B ?_)
  have L8 : ∀ F, F ≠ 834 → F ≠ 836 → leftD (goD D (D 901 i) (D 902 i)) q i F = au (goD D (D 901 i) (D 902 i)) 842 0 (goD D (D 901 i) (D 902 i) 842 0 + 2) F := fun F h4 h6 => by
    unfold leftD; rw [aset_ne h6, aset_ne h4]
  have L4 : leftD (goD D (D 901 i) (D 902 i)) q i 834 = va_up (goD D (D 901 i) (D 902 i) 834) q 3 := by unfold leftD; rw [aset_ne (by decide), aset_same]
  have L6 : leftD (goD D (D 901 i) (D 902 i)) q i 836 = va_up (goD D (D 901 i) (D 902 i) 836) q (nI i) := by unfold leftD; rw [aset_same]
  refine h2.parX (q := q) (fun _ => rfl) (fun _ => rfl) (fun _ _ => rfl) (fun g a hg => by rw [gI_sI, if_neg (fun z => hg (by omega)), gI_sI, if_neg (fun z => hg (by omega))]) (fun _ _ => rfl) (fun _ => rfl) hq (fun F hF => L8 F (by omega) (by omega)) (fun F x h1 h2' hx => ?_) ⟨?_, ?_, ?_, ?_, ?_⟩ (fun i' hi' b' hb' => ?_)
  · by_cases z4 : F = 834
    · subst z4; rw [L4, va_up_ne _ _ hx, lo _ (by decide)]
    by_cases z6 : F = 836
    · subst z6; rw [L6, va_up_ne _ _ hx, lo _ (by decide)]
    rw [L8 F z4 z6]
  · rw [gI_sI, if_neg (fun z => absurd z.1 (by decide)), gI_sI, if_neg (fun z => absurd z.1 (by decide)), L8 _ (by decide) (by decide), lo _ (by decide)]; exact p1
  · rw [gI_sI, if_neg (fun z => absurd z.1 (by decide)), gI_sI, if_pos ⟨rfl, rfl⟩, L4, va_up_self]
  · rw [gI_sI, if_pos ⟨rfl, rfl⟩, L6, va_up_self]
  · rw [L4, va_up_self]; exact fun z => absurd z (by decide)
  · rw [gI_sI, if_neg (fun z => absurd z.1 (by decide)), gI_sI, if_neg (fun z => absurd z.1 (by decide)), L8 _ (by decide) (by decide), lo _ (by decide)]; exact p5
  · rw [L8 _ (by decide) (by decide)]
    exact (h2.lok hi').2.2.2.2.2.2.2.2 b' hb'
end TRY
