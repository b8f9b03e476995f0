/-! THE CLASS'S STOP: visit, settle -/
section VIS
variable {l : Launch} {w : Wd} {S : St} {T : Tb} {D0 D : Ab} {R : Ke} {cn : Int32}
theorem DC0.rn (h : DC0 w S T D0 R D cn) : kd S (T 13 0) = 7 ∧ gP S 387 (T 13 0) = some (T 14 0) ∧ kd S (T 14 0) = 11 ∧ gP S 384 (T 13 0) = some (T 1 0) ∧ gP S 385 (T 13 0) = some (T 4 0) ∧ gP S 386 (T 13 0) = some (T 5 0) ∧ kd S (T 1 0) = 10 ∧ gP S 577 (T 1 0) = some (T 3 0) ∧ kd S (T 3 0) = 6 ∧ gI S 320 (T 3 0) = D 898 0 ∧ gI S 321 (T 3 0) = D 899 0 ∧ gP S 640 (T 14 0) = some (T 1 0) ∧ gP S 576 (T 1 0) = some (T 2 0) ∧ kd S (T 2 0) = 21 ∧ ln S (T 2 0) = 24 ∧ rI S (T 2 0) = D 897 := by
  have c := h.c
  obtain ⟨t1, t2, t3, t4⟩ := c.to
  rw [dE_F (by decide)] at t1 t2 t3
  exact ⟨c.k1 13 (by decide), c.lk (13, 387, 14) (by decide) (cn1 (by decide)), c.k1 14 (by decide), c.lk (13, 384, 1) (by decide) (cn1 (by decide)), c.lk (13, 385, 4) (by decide) (cn1 (by decide)), c.lk (13, 386, 5) (by decide) (cn1 (by decide)), c.k1 1 (by decide), c.lk (1, 577, 3) (by decide) (cn1 (by decide)), c.k1 3 (by decide), t2, t3, c.lk (14, 640, 1) (by decide) (cn1 (by decide)), c.lk (1, 576, 2) (by decide) (cn1 (by decide)), c.k1 2 (by decide), c.lnn (cn1 (by decide)) (by decide), t1⟩
theorem DC.rn (h : DC w S T D0 R D cn) : kd S (T 13 0) = 7 ∧ gP S 387 (T 13 0) = some (T 14 0) ∧ kd S (T 14 0) = 11 ∧ gP S 384 (T 13 0) = some (T 1 0) ∧ gP S 385 (T 13 0) = some (T 4 0) ∧ gP S 386 (T 13 0) = some (T 5 0) ∧ kd S (T 1 0) = 10 ∧ gP S 577 (T 1 0) = some (T 3 0) ∧ kd S (T 3 0) = 6 ∧ gI S 320 (T 3 0) = D 898 0 ∧ gI S 321 (T 3 0) = D 899 0 ∧ gP S 640 (T 14 0) = some (T 1 0) ∧ gP S 576 (T 1 0) = some (T 2 0) ∧ kd S (T 2 0) = 21 ∧ ln S (T 2 0) = 24 ∧ rI S (T 2 0) = D 897 := h.z.rn
theorem DC0.hom (h : DC0 w S T D0 R D cn) {i : Nat} (hi : i < nH D0) : kd S (T 20 i) = 3 ∧ gP S 128 (T 20 i) = some (T 21 i) ∧ kd S (T 21 i) = 6 ∧ gI S 320 (T 21 i) = D 901 i ∧ gI S 321 (T 21 i) = D 902 i := by
  have c := h.c
  have hi' : i < nH (dE D0 D) := by rw [(dE_n h.f).1]; exact hi
  obtain ⟨b1, b2, -⟩ := c.hm hi'
  rw [dE_F (by decide)] at b1 b2
  exact ⟨c.k (cnH (by decide) (by decide) hi'), c.lk (20, 128, 21) (by decide) (cnH (by decide) (by decide) hi'), c.k (cnH (by decide) (by decide) hi'), b1, b2⟩
theorem DC.hom (h : DC w S T D0 R D cn) {i : Nat} (hi : i < nH D0) : kd S (T 20 i) = 3 ∧ gP S 128 (T 20 i) = some (T 21 i) ∧ kd S (T 21 i) = 6 ∧ gI S 320 (T 21 i) = D 901 i ∧ gI S 321 (T 21 i) = D 902 i := h.z.hom hi
theorem DC0.par (h : DC0 w S T D0 R D cn) (hA : AIy D0) {q : Nat} (hq : q < nP D0) : (kd S (T 30 q) = 5 ∧ gP S 260 (T 30 q) = some (T 20 (cl (D 916 q))) ∧ cl (D 916 q) < nH D0) ∧ (gI S 261 (T 30 q) = D 917 q ∧ gI S 257 (T 30 q) = D 914 q ∧ gI S 258 (T 30 q) = D 915 q) ∧ PaD S T D q := by
  have c := h.c
  have hq' : q < nP (dE D0 D) := by rw [(dE_n h.f).2.2.2]; exact hq
  obtain ⟨⟨b1, b2, b3, b4, b5, b6, b7⟩, -⟩ := c.pa hq'
  obtain ⟨p1, p2, p3, p4, p5⟩ := c.pad hq'
  rw [dE_F (by decide)] at b2 b3 b4 b5 b6 b7 p1 p2 p3 p5
  rw [dE_F (by decide), dE_F (by decide)] at p4
  refine ⟨⟨c.k (cnP (by decide) (by decide) hq'), b5, ?_⟩, ⟨b6, b2, b3⟩, p1, p2, p3, p4, p5⟩
  rw [h.f 916 (by decide) (by decide)]
  exact hA.1.2.1 q hq
theorem DC.par (h : DC w S T D0 R D cn) (hA : AIy D0) {q : Nat} (hq : q < nP D0) : (kd S (T 30 q) = 5 ∧ gP S 260 (T 30 q) = some (T 20 (cl (D 916 q))) ∧ cl (D 916 q) < nH D0) ∧ (gI S 261 (T 30 q) = D 917 q ∧ gI S 257 (T 30 q) = D 914 q ∧ gI S 258 (T 30 q) = D 915 q) ∧ PaD S T D q := h.z.par hA hq
theorem c_dgo (h : DC w S T D0 R D cn) {g : Nat} {gx gy : Int32} {b : Int} (hg : kd S g = 6) (e1 : gI S 320 g = gx) (e2 : gI S 321 g = gy) (ht : trOk (trD D) b) (hb : b ≤ 800000) : ConV l yX9_goWithBreak (wsOf yX9_goWithBreak cX9_goWithBreak 3 none) rX9_goWithBreak w S [.ref (T 14 0), .ref g] (fun S' => DC w S' T D0 R (wkD D gx gy) cn) := by
  obtain ⟨r1, r2, r3, -, -, -, r7, -, -, -, -, r12, r13, r14, r15, r16⟩ := h.rn
  obtain ⟨pl, t1, t2, t3, t4, t5, t6⟩ := h.2.2.1
  have m1 : vp_in (hr (D 842 0)) 24 := hr_in ht.2.2.1 rfl
  have m2 : vp_in (hr (D 842 0 + 30)) 24 := (ht.2.2.okT (by omega)).h2 rfl
  refine conV_mono (c_goWithBreak r3 hg r12 r7 t1 t2 r13 r14 (by rw [t6, r15]; exact m1) (by rw [t6, r15]; exact m2)) (fun S' hq => ?_)
  subst hq
  obtain ⟨w1, w2⟩ := wkD_go (D := D) (t := trOf S (T 14 0) pl) (gx := gx) (gy := gy) t3 t4 t5 t6
  obtain ⟨w3, w4⟩ := wkD_at (D := D) (gx := gx) (gy := gy)
  rw [e1, e2, r16]
  exact h.tripS hg (e1.trans w3.symm) (e2.trans w4.symm) w1 w2 (fun F hF => wkD_hi hF)
theorem c_dgoS (h : DC w S T D0 R D cn) {g : Nat} {gx gy : Int32} {b : Int} (hg : kd S g = 6) (e1 : gI S 320 g = gx) (e2 : gI S 321 g = gy) (ht : trOk (trD D) b) (hb : b ≤ 800000) : ConV l yX9_goStraight (wsOf yX9_goStraight cX9_goStraight 2 none) rX9_goStraight w S [.ref (T 14 0), .ref g] (fun S' => DC w S' T D0 R (goD D gx gy) cn) := by
  obtain ⟨r1, r2, r3, -, -, -, r7, -, -, -, -, r12, r13, r14, r15, r16⟩ := h.rn
  obtain ⟨pl, t1, t2, t3, t4, t5, t6⟩ := h.2.2.1
  have m1 : vp_in (hr (D 842 0)) 24 := hr_in ht.2.2.1 rfl
  refine conV_mono (c_goStraight r3 hg r12 r7 t1 t2 r13 r14 (by rw [t6, r15]; exact m1)) (fun S' hq => ?_)
  subst hq
  obtain ⟨w1, w2, w3, w4⟩ := goD_go (D := D) (t := trOf S (T 14 0) pl) (gx := gx) (gy := gy) t3 t4 t5 t6
  rw [e1, e2, r16]
  refine h.tripS hg (e1.trans w3.symm) (e2.trans w4.symm) w1 w2 (fun F hF => ?_)
  unfold goD
  rw [au_neF (by omega), au_neF (by omega), au_neF (by omega)]
theorem aset_au {α : Ab} {F G : Nat} {g : Nat → Int32} {v : Int32} (hn : G ≠ F) : au (aset α F g) G 0 v = aset (au α G 0 v) F g := by
  funext H i
  unfold au aset
  by_cases h1 : H = F
  · subst h1; rw [if_neg (fun z => hn z.1.symm), if_pos rfl, if_pos rfl]
  · rw [if_neg h1, if_neg h1]
def visD (D : Ab) (q : Nat) : Ab := if homeB (waitD D q) (cl (D 916 q)) = true then aset (stayD D q) 834 (va_up ((stayD D q) 834) q 1) else tryA D q
theorem c_dvisit (h : DC w S T D0 R D cn) (hA : AIy D0) {q : Nat} (hq : q < nP D0) (ht : trOk (trD D) 1500) : ConV l yX5_visit (wsOf yX5_visit cX5_visit 2 none) rX5_visit w S [.ref (T 13 0), .ref (T 30 q)] (fun S' => DC w S' T D0 R (visD D q) cn) := by
  obtain ⟨⟨a1, a2, a3⟩, -⟩ := h.par hA hq
  obtain ⟨b1, b2, b3, b4, b5⟩ := h.hom a3
  obtain ⟨r1, r2, r3, -⟩ := h.rn
  refine con_V (by decide +kernel) rfl (Nat.le_of_ble_eq_true rfl) (fun p e s m args below meth c B => ?_)
  refine bX5_visit_0 B r1 r2 a1 a2 b1 b2 (c_dgo h b3 b4 b5 ht (by omega)) r3 (fun S1 h1 => ?_)
  obtain ⟨⟨c1, c2, -⟩, ⟨c4, -⟩, -⟩ := h1.par hA hq
  obtain ⟨s1, s2, s3, -⟩ := h1.rn
  rw [wkD_hi (by decide)] at c2 c4
  obtain ⟨pl, -, -, -, -, -, t6⟩ := h1.2.2.1
  refine bX5_visit_14 B s1 s2 c1 (c_waitTill s3) s3 (fun S2 hq2 => ?_)
  subst hq2
  rw [c4, t6]
  have h2 := h1.minS (x := if D 917 q ≤ wkD D (D 901 (cl (D 916 q))) (D 902 (cl (D 916 q))) 842 0 then wkD D (D 901 (cl (D 916 q))) (D 902 (cl (D 916 q))) 842 0 else D 917 q)
  have ew : au (wkD D (D 901 (cl (D 916 q))) (D 902 (cl (D 916 q)))) 842 0 (if D 917 q ≤ wkD D (D 901 (cl (D 916 q))) (D 902 (cl (D 916 q))) 842 0 then wkD D (D 901 (cl (D 916 q))) (D 902 (cl (D 916 q))) 842 0 else D 917 q) = waitD D q := by
    unfold waitD
    by_cases z : wkD D (D 901 (cl (D 916 q))) (D 902 (cl (D 916 q))) 842 0 < D 917 q
    · rw [if_pos z, if_neg (fun y => absurd z (Int32.not_lt.mpr y))]
    · rw [if_neg z, if_pos (Int32.not_lt.mp z)]
  rw [ew] at h2
  revert h2
  generalize sI S1 643 (T 14 0) (if D 917 q ≤ wkD D (D 901 (cl (D 916 q))) (D 902 (cl (D 916 q))) 842 0 then wkD D (D 901 (cl (D 916 q))) (D 902 (cl (D 916 q))) 842 0 else D 917 q) = S2
  intro h2
  have h2w : ∀ F, F < 842 ∨ 845 < F → waitD D q F = D F := fun F hF => waitD_hi hF
  obtain ⟨⟨d1, d2, d3⟩, -, p1, p2, p3, p4, p5⟩ := h2.par hA hq
  rw [h2w _ (by decide)] at d2 d3 p1 p2 p3 p5
  rw [h2w _ (by decide), h2w _ (by decide)] at p4
  obtain ⟨s1, s2, s3, -⟩ := h2.rn
  obtain ⟨pl2, -, -, -, -, -, u6⟩ := h2.2.2.1
  have hi' : cl (D 916 q) < nH (dE D0 (waitD D q)) := by rw [(dE_n h2.f).1]; exact d3
  refine bX5_visit_25 B d1 d2 s1 s2 s3 (c_somebody h2.c hi') (h2.hom d3).1 (fun r S' hq3 => ?_)
  obtain ⟨rfl, hr3⟩ := hq3
  rw [u6, dE_F (by decide)] at hr3
  have lf : ∀ {D' : Ab}, D' 839 = (waitD D q) 839 → ∀ i, i < nL D0 → ∀ b, b < 3 → rI S2 (T 25 i) b = D' 839 (3 * i + b) := fun e i hi b hb => by
    rw [e]
    have := (h2.c.lo (i := i) (by rw [(dE_n h2.f).2.1]; exact hi)).2.2 b hb
    rw [dE_F (by decide)] at this; exact this
  have fin : ∀ S3 D3, DC w S3 T D0 R D3 cn → au D3 842 0 (D3 842 0 + 4) = visD D q → K p l e rX5_visit s m args below meth c 2 w 0 0 (MQ below (va_Qv (fun S' => DC w S' T D0 R (visD D q) cn) (fun S' t => Hd w S' t.heap) (wA w)) args s rX5_visit.cells rX5_visit.slots (wA w)) S3 60 [(0, .ref (T 13 0))] [] := by
    intro S3 D3 h3 e3
    obtain ⟨s1, s2, s3, -⟩ := h3.rn
    obtain ⟨pl3, -, -, -, -, -, v6⟩ := h3.2.2.1
    refine bX5_visit_60 B s1 s2 (c_stay s3) s3 (fun S4 hq4 => bX5_visit_68 B ?_)
    subst hq4
    rw [v6]
    have := h3.minS (x := D3 842 0 + 4)
    rw [e3] at this
    exact this
  rcases hr3 with ⟨rfl, hr3⟩ | ⟨rfl, hr3⟩
  · refine bX5_visit_39 B (fun z => absurd z (by decide)) (fun _ => bX5_visit_42 B d1 ?_)
    refine fin _ (aset (waitD D q) 834 (va_up ((waitD D q) 834) q 1)) ?_ ?_
    · refine h2.parX (q := q) (fun _ => rfl) (fun _ => rfl) (fun _ _ => rfl) (fun g a hg => by rw [gI_sI, if_neg (fun z => hg (by omega))]) (fun _ _ => rfl) (fun _ => rfl) hq (fun F hF => aset_ne (by omega)) (fun F x h1 h2' hx => ?_) ⟨?_, ?_, ?_, ?_, ?_⟩ (lf (aset_ne (by decide)))
      · by_cases z : F = 834
        · subst z; rw [aset_same, va_up_ne _ _ hx]
        · rw [aset_ne z]
      · rw [aset_ne (by decide), h2w _ (by decide), gI_sI, if_neg (fun z => absurd z.1 (by decide))]; exact p1
      · rw [aset_same, va_up_self, gI_sI, if_pos ⟨rfl, rfl⟩]
      · rw [aset_ne (by decide), h2w _ (by decide), gI_sI, if_neg (fun z => absurd z.1 (by decide))]; exact p3
      · rw [aset_same, va_up_self]; exact fun z => absurd z (by decide)
      · rw [aset_ne (by decide), h2w _ (by decide), gI_sI, if_neg (fun z => absurd z.1 (by decide))]; exact p5
    · unfold visD
      rw [if_pos (show homeB (waitD D q) (cl (D 916 q)) = true from decide_eq_true hr3), aset_au (by decide), aset_ne (by decide)]
      unfold stayD
      rw [au_neF (F' := 834) (by decide)]
  · refine bX5_visit_39 B (fun _ => bX5_visit_50 B d1 ?_) (fun z => absurd rfl z)
    refine fin _ (aset (waitD D q) 835 (va_up ((waitD D q) 835) q ((waitD D q) 835 q + 1))) ?_ ?_
    · refine h2.parX (q := q) (fun _ => rfl) (fun _ => rfl) (fun _ _ => rfl) (fun g a hg => by rw [gI_sI, if_neg (fun z => hg (by omega))]) (fun _ _ => rfl) (fun _ => rfl) hq (fun F hF => aset_ne (by omega)) (fun F x h1 h2' hx => ?_) ⟨?_, ?_, ?_, ?_, ?_⟩ (lf (aset_ne (by decide)))
      · by_cases z : F = 835
        · subst z; rw [aset_same, va_up_ne _ _ hx]
        · rw [aset_ne z]
      · rw [aset_same, va_up_self, gI_sI, if_pos ⟨rfl, rfl⟩, p1, h2w _ (by decide)]
      · rw [aset_ne (by decide), h2w _ (by decide), gI_sI, if_neg (fun z => absurd z.1 (by decide))]; exact p2
      · rw [aset_ne (by decide), h2w _ (by decide), gI_sI, if_neg (fun z => absurd z.1 (by decide))]; exact p3
      · rw [aset_ne (by decide), aset_ne (by decide), h2w _ (by decide), h2w _ (by decide), gI_sI, if_neg (fun z => absurd z.1 (by decide))]; exact p4
      · rw [aset_ne (by decide), h2w _ (by decide), gI_sI, if_neg (fun z => absurd z.1 (by decide))]; exact p5
    · unfold visD
      rw [if_neg (show ¬ homeB (waitD D q) (cl (D 916 q)) = true from fun z => hr3 (by unfold homeB at z; exact of_decide_eq_true z)), aset_au (by decide), aset_ne (by decide)]
      unfold tryA stayD
      rw [au_neF (F' := 835) (by decide)]
def setD (D : Ab) (q : Nat) (c : Int32) : Int32 × Ab := if D 834 q = 0 then (c, lostD D q) else (c + 1, D)
theorem lt3 {x : Int32} (h : isN x 3) : x < 3 ↔ ¬ x = 3 := by
  obtain ⟨e1, h1⟩ := h.nI
  rw [e1]
  have : ∀ k : Nat, k < 4 → (nI k < 3 ↔ ¬ nI k = 3) := by decide +kernel
  exact this _ (by omega)
theorem DC.sam (h : DC w S T D0 R D cn) {D' : Ab} (e : D' = D) : DC w S T D0 R D' cn := by rw [e]; exact h
theorem c_dsettle (h : DC w S T D0 R D cn) (hA : AIy D0) {q : Nat} (hq : q < nP D0) (h3 : isN (D 835 q) 3) : ConV l yX5_settle (wsOf yX5_settle cX5_settle 2 none) rX5_settle w S [.ref (T 13 0), .ref (T 30 q)] (fun S' => DC w S' T D0 R (setD D q cn).2 (setD D q cn).1) := by
  obtain ⟨⟨a1, -, -⟩, -, p1, p2, p3, p4, p5⟩ := h.par hA hq
  obtain ⟨r1, -⟩ := h.rn
  refine con_V (by decide +kernel) rfl (Nat.le_of_ble_eq_true rfl) (fun p e s m args below meth c B => ?_)
  unfold setD
  refine bX5_settle_0 B a1 (fun c1 => ?_) (fun c1 => ?_)
  · rw [p2] at c1
    rw [if_pos c1]
    unfold lostD
    refine bX5_settle_20 B a1 (fun c2 => ?_) (fun c2 => ?_)
    · rw [p1] at c2
      exact bX5_settle_33 B (by rw [if_neg ((lt3 h3).mp c2)]; exact h)
    · rw [p1] at c2
      have e3 : D 835 q = 3 := by
        by_cases z : D 835 q = 3
        · exact z
        · exact absurd ((lt3 h3).mpr z) c2
      refine bX5_settle_28 B a1 (bX5_settle_33 B ?_)
      rw [if_pos e3]
      show DC w _ T D0 R (aset D 834 (va_up (D 834) q 4)) cn
      refine h.parX (q := q) (fun _ => rfl) (fun _ => rfl) (fun _ _ => rfl) (fun g a hg => by rw [gI_sI, if_neg (fun z => hg (by omega))]) (fun _ _ => rfl) (fun _ => rfl) hq (fun F hF => aset_ne (by omega)) (fun F x h1 h2' hx => ?_) ⟨?_, ?_, ?_, ?_, ?_⟩ (fun i hi b hb => ?_)
      · by_cases z : F = 834
        · subst z; rw [aset_same, va_up_ne _ _ hx]
        · rw [aset_ne z]
      · rw [aset_ne (by decide), gI_sI, if_neg (fun z => absurd z.1 (by decide))]; exact p1
      · rw [aset_same, va_up_self, gI_sI, if_pos ⟨rfl, rfl⟩]
      · rw [aset_ne (by decide), gI_sI, if_neg (fun z => absurd z.1 (by decide))]; exact p3
      · rw [aset_same, va_up_self]; exact fun z => absurd z (by decide)
      · rw [aset_ne (by decide), gI_sI, if_neg (fun z => absurd z.1 (by decide))]; exact p5
      · have := (h.c.lo (i := i) (by rw [(dE_n h.f).2.1]; exact hi)).2.2 b hb
        rw [dE_F (by decide)] at this
        rw [aset_ne (by decide)]; exact this
  · rw [p2] at c1
    rw [if_neg c1]
    show K p l e rX5_settle s m args below meth c 2 w 0 0 (MQ below (va_Qv (fun S' => DC w S' T D0 R D (cn + 1)) (fun S' t => Hd w S' t.heap) (wA w)) args s rX5_settle.cells rX5_settle.slots (wA w)) S 7 [(0, .ref (T 13 0))] []
    refine bX5_settle_7 B r1 (bX5_settle_33 B ?_)
    have r := h.rnd (cn + 1) (D 833 0)
    have e1 : au D 833 0 (D 833 0) = D := by
      funext F i
      unfold au
      split
      · rename_i z; rw [z.1, z.2]
      · rfl
    have e2 : sI (sI S 388 (T 13 0) (cn + 1)) 389 (T 13 0) (D 833 0) = sI S 388 (T 13 0) (gI S 388 (T 13 0) + 1) := by
      rw [h.2.2.2.1]
      have : gI (sI S 388 (T 13 0) (cn + 1)) 389 (T 13 0) = D 833 0 := by rw [gI_sI, if_neg (fun z => absurd z.1 (by decide))]; exact h.2.2.2.2.1
      rw [← this, sI_self]
    rw [e1, e2] at r
    exact r
end VIS
