/-- how far the route has been gone through -/
def FI (sc tr mi la lo : Nat) (sl : Nat → Int32) (D : Nat → Pda) (t0 : Tr) (l0 : Int32) (S Si : St) (i : Nat) : Prop :=
  FrS mi la lo S Si ∧ (∃ pl, gP Si 641 tr = some pl ∧ kd S pl = 6 ∧ trOf Si tr pl = (wk sl D t0 i).1) ∧ gI Si 517 sc = (wk sl D t0 i).2 ∧ ∀ j, j < i → rI Si mi j = nowW sl (D j) (wk sl D t0 j).1 ∧ rI Si la j = lateW sl (D j) (wk sl D t0 j).1 ∧ rI Si lo j = ldk (kD D) (vD D) l0 (j + 1)
theorem trOf_mn {S : St} {t pl : Nat} {x : Int32} : trOf (sI S 643 t x) t pl = ((trOf S t pl).1, (trOf S t pl).2.1, (trOf S t pl).2.2.1, x, (trOf S t pl).2.2.2.2.1, (trOf S t pl).2.2.2.2.2) := by
  simp [trOf, gI_sI]
theorem trOf_trT {S : St} {t pl : Nat} {x : Tr} : trOf (sTrT S t pl x) t pl = (gI S 320 pl, gI S 321 pl, x.2.2.1, x.2.2.2.1, x.2.2.2.2.1, x.2.2.2.2.2) := by
  simp [trOf, sTrT, sTr, gI_sI, gI_sP]
section L5
variable {p : Program} {l : Launch} {e : Env} {s : State} {m : MethodId} {args : Array Value} {below : List Frame} {meth : Method} {c : Code} {w : Wd} {S : St}
theorem l_follow (B : Bd p s m args meth c cX7_follow 6 (wsOf yX7_follow cX7_follow 6 (some .int)) RX7 w (some .int) "follow") {Q : State → Prop} {sc v r q n tn tr mi la lo sl dp : Nat} {f : Nat → Nat} {D : Nat → Pda} {t0 : Tr} {l0 : Int32} (hS : Sc S sc tn tr mi la lo sl dp) (hR : Rt S r q n f) (hn : n ≤ 12) (hD : ∀ i, i < n → Pd S (f i) (D i)) (hT : ∀ i, i < n → okT (wk (rI S sl) D t0 i).1.2.2.2.1)
    (hx : ∀ Si, FI sc tr mi la lo (rI S sl) D t0 l0 S Si n → K p l e rX7_follow s m args below meth c 6 w 0 0 Q Si 192 [(0, .ref sc), (1, .ref v)] []) :
    ∀ d i, i + d = n → ∀ Si, FI sc tr mi la lo (rI S sl) D t0 l0 S Si i → K p l e rX7_follow s m args below meth c 6 w 0 0 Q Si 24 [(0, .ref sc), (1, .ref v), (2, .ref r), (3, .int (ldk (kD D) (vD D) l0 i)), (4, .int (nI i))] [] := by
  intro d
  induction d with
  | zero =>
    intro i hi Si hF
    have hR1 := hR.fr hF.1
    refine bX7_follow_24 B hR1.1 (fun _ => ?_) (fun c => absurd (by rw [hR1.2.2.2.2.1, show n = i by omega]; exact Int32.le_refl _) c)
    have e : i = n := by omega
    subst e
    exact hx Si hF
  | succ d ih =>
    intro i hi Si hF
    have hin : i < n := by omega
    have ei : (nI i).toNatClampNeg = i := nI_clamp (by omega)
    obtain ⟨hF0, ⟨pl, p1, p2, p3⟩, p4, p5⟩ := hF
    have hR1 := hR.fr hF0
    obtain ⟨s1, s2, s3, s4, s5, s6, s7, s8, s9, s10, s11, s12, s13, s14, s15, s16, s17, s18⟩ := hS.fr hF0
    obtain ⟨q1, ⟨hm, hp, q2, q3, q4, q5, q6, q7⟩, q8, q9, q10, q11⟩ := (hD i hin).fr hF0
    have esl : rI Si sl = rI S sl := hF0.2.2.2.2.1 sl s16.1 s16.2.1 s16.2.2
    have hTi := hT i hin
    rw [← p3] at hTi
    refine bX7_follow_24 B hR1.1 (fun c => absurd c (by rw [hR1.2.2.2.2.1]; exact nI_ge hin (by omega))) (fun _ => ?_)
    refine bX7_follow_33 B (fun c => absurd c (nI_ge (show i < 12 by omega) (by decide))) (fun _ => ?_)
    refine bX7_follow_40 B (c_at hR1 hin) hR1.1 (fun x S' hq => ?_)
    obtain ⟨rfl, rfl⟩ := hq
    refine bX7_follow_46 B s1 s3 q1 q2 q3 q4 (c_goWithBreak s8 q5 s13 s7 p1 ((hF0.1 _).trans p2) s14 s15.1 (hTi.h1 s15.2) (hTi.h2 s15.2)) s8 (fun S1 hq => ?_)
    rw [esl, p3, q6, q7] at hq
    have g1 : FrS mi la lo Si S1 := by rw [hq]; exact FrS.trT
    have g2 : gP S1 641 tr = some hp := by rw [hq]; simp [sTrT, sTr, gP_sI, gP_sP]
    have g3 : trOf S1 tr hp = ((D i).1, (D i).2.1, (goB (rI S sl) (wk (rI S sl) D t0 i).1 (D i).1 (D i).2.1).2.2) := by rw [hq, trOf_trT, q6, q7]
    have g4 : gI S1 517 sc = (wk (rI S sl) D t0 i).2 := by rw [← p4, hq]; simp [sTrT, sTr, gI_sI, gI_sP]
    have g5 : ∀ a, rI S1 a = rI Si a := by rw [hq]; exact fun _ => rfl
    clear hq
    have f1 : ∀ (f a : Nat), f ≠ 642 ∧ f ≠ 643 ∧ f ≠ 644 ∧ f ≠ 645 ∧ f ≠ 517 → gI S1 f a = gI Si f a := fun f a e => g1.2.1 f a e.1 e.2.1 e.2.2.1 e.2.2.2.1 e.2.2.2.2
    have k1 : ∀ a, kd S1 a = kd Si a := g1.1
    have l1 : ∀ a, ln S1 a = ln Si a := g1.2.2.2.1
    have pp1 : ∀ f a, f ≠ 641 → gP S1 f a = gP Si f a := g1.2.2.1
    refine bX7_follow_63 B ((k1 _).trans s1) ((pp1 _ _ (by decide)).trans s3) ((k1 _).trans q1) (c_waitTill ((k1 _).trans s8)) ((k1 _).trans s8) (fun S2 hq => ?_)
    have e643 : gI S1 643 tr = (goB (rI S sl) (wk (rI S sl) D t0 i).1 (D i).1 (D i).2.1).2.2.2.1 := congrArg (fun z : Tr => z.2.2.2.1) g3
    rw [f1 261 _ (by decide), q8, e643] at hq
    have hq : S2 = sI S1 643 tr (nowW (rI S sl) (D i) (wk (rI S sl) D t0 i).1) := hq
    have n1 : gI S2 643 tr = nowW (rI S sl) (D i) (wk (rI S sl) D t0 i).1 := by rw [hq, gI_sI, if_pos ⟨rfl, rfl⟩]
    have n2 : ∀ (f a : Nat), f ≠ 642 ∧ f ≠ 643 ∧ f ≠ 644 ∧ f ≠ 645 ∧ f ≠ 517 → gI S2 f a = gI Si f a := fun f a e => by rw [hq, gI_sI, if_neg (fun z => e.2.1 z.1)]; exact f1 f a e
    have n3 : ∀ a, kd S2 a = kd Si a := by rw [hq]; exact k1
    have n4 : ∀ a, ln S2 a = ln Si a := by rw [hq]; exact l1
    have n5 : ∀ f a, f ≠ 641 → gP S2 f a = gP Si f a := by rw [hq]; exact pp1
    have n6 : ∀ a, rI S2 a = rI Si a := by rw [hq]; exact g5
    have n7 : FrS mi la lo S S2 := hF0.tr (g1.tr (by rw [hq]; exact FrS.mn))
    have n8 : trOf S2 tr hp = ((D i).1, (D i).2.1, (goB (rI S sl) (wk (rI S sl) D t0 i).1 (D i).1 (D i).2.1).2.2.1, nowW (rI S sl) (D i) (wk (rI S sl) D t0 i).1, (goB (rI S sl) (wk (rI S sl) D t0 i).1 (D i).1 (D i).2.1).2.2.2.2) := by rw [hq, trOf_mn, g3]
    have n9 : gP S2 641 tr = some hp := by rw [hq]; exact g2
    have n10 : gI S2 517 sc = (wk (rI S sl) D t0 i).2 := by rw [hq, gI_sI, if_neg (by simp)]; exact g4
    clear hq g1 g2 g3 g4 g5 f1 k1 l1 pp1 e643
    have vmi : vp_in (nI i) (ln S2 mi) := by rw [n4, s9.2]; exact vp_in_nI (by omega) (by decide)
    have vla : vp_in (nI i) (ln S2 la) := by rw [n4, s10.2]; exact vp_in_nI (by omega) (by decide)
    have vlo : vp_in (nI i) (ln S2 lo) := by rw [n4, s11.2]; exact vp_in_nI (by omega) (by decide)
    have ksc := (n3 _).trans s1
    have ktr := (n3 _).trans s8
    have kp := (n3 _).trans q1
    have psc := (n5 513 sc (by decide)).trans s3
    -- the end of the step: the load and the lateness are known
    have tail : ∀ ld' late : Int32, ldk (kD D) (vD D) l0 (i + 1) = ld' → late = lateW (rI S sl) (D i) (wk (rI S sl) D t0 i).1 → K p l e rX7_follow s m args below meth c 6 w 0 0 Q (sRI S2 mi (va_up (rI S2 mi) (nI i).toNatClampNeg (nowW (rI S sl) (D i) (wk (rI S sl) D t0 i).1))) 153 [(0, .ref sc), (1, .ref v), (2, .ref r), (3, .int ld'), (4, .int (nI i))] [.int late, .int (nI i), .ref la] := by
      intro ld' late eld elate
      refine bX7_follow_153 B ((n3 _).trans s10.1) vla ksc ((n5 _ _ (by decide)).trans s6) ((n3 _).trans s11.1) vlo ((n5 _ _ (by decide)).trans s5) ((n3 _).trans s10.1) vla psc (c_stay ktr) ktr (fun S5 hq => ?_)
      refine bX7_follow_186 B ?_
      rw [nI_1, ← eld]
      refine ih (i + 1) (by omega) S5 ⟨?_, ⟨hp, ?_, ?_, ?_⟩, ?_, ?_⟩
      · rw [hq]
        exact n7.tr ((FrS.ar (Or.inl rfl)).tr ((FrS.ar (Or.inr (Or.inl rfl))).tr ((FrS.ar (Or.inr (Or.inr rfl))).tr (FrS.lt.tr FrS.mn))))
      · rw [hq]; exact n9
      · rw [← hF0.1]; exact q5
      · rw [hq, trOf_mn]
        have e9 : ∀ (A : Nat → Int32) (B C : Nat → Int32) (z : Int32), trOf (sI (sRI (sRI (sRI S2 mi A) la B) lo C) 517 sc z) tr hp = trOf S2 tr hp := by
          intro A B C z
          simp [trOf, gI_sI, gI_sRI]
        rw [e9, n8]
        show _ = (stepW (rI S sl) (D i) (wk (rI S sl) D t0 i)).1
        unfold stepW
        simp only [gI_sI, gI_sRI]
        rw [if_neg (by simp), n1]
      · rw [hq]
        have e12 : mi ≠ la := s12.1
        have e13 : mi ≠ lo := s12.2.1
        have e14 : la ≠ lo := s12.2.2
        show _ = (stepW (rI S sl) (D i) (wk (rI S sl) D t0 i)).2
        unfold stepW
        simp [gI_sI, gI_sRI, rI_sRI, n10, e14, va_up_self, elate]
      · intro j hj
        have e12 : mi ≠ la := s12.1
        have e13 : mi ≠ lo := s12.2.1
        have e14 : la ≠ lo := s12.2.2
        rw [hq]
        simp only [rI_sI, rI_sRI, ei, e12, e13, e14, Ne.symm e12, Ne.symm e13, Ne.symm e14, if_true, if_false]
        by_cases cj : j = i
        · subst cj
          rw [va_up_self, va_up_self, va_up_self]
          exact ⟨rfl, elate, eld.symm⟩
        · rw [va_up_ne _ _ cj, va_up_ne _ _ cj, va_up_ne _ _ cj, n6, n6, n6]
          exact p5 j (by omega)
    have mid : ∀ x : Int32, ldk (kD D) (vD D) l0 (i + 1) = ldk (kD D) (vD D) l0 i + x → K p l e rX7_follow s m args below meth c 6 w 0 0 Q S2 99 [(0, .ref sc), (1, .ref v), (2, .ref r), (4, .int (nI i)), (5, .ref (f i))] [.int x, .int (ldk (kD D) (vD D) l0 i)] := by
      intro x ex
      have h262 : gI S2 262 (f i) = (D i).2.2.2.1 := (n2 262 _ (by decide)).trans q9
      refine bX7_follow_99 B ksc ((n5 _ _ (by decide)).trans s4) psc ktr ((n3 _).trans s9.1) vmi ((n5 _ _ (by decide)).trans s5) psc ktr kp (fun c => ?_) (fun c => ?_)
      · rw [n1]
        refine bX7_follow_152 B (tail _ _ ex ?_)
        rw [n1, h262] at c
        exact (if_pos c).symm
      · rw [n1]
        refine bX7_follow_136 B ksc psc ktr kp ?_
        rw [gI_sRI, gI_sRI, n1, h262]
        refine tail _ _ ex ?_
        rw [n1, h262] at c
        exact (if_neg c).symm
    have h257 : gI S2 257 (f i) = kD D i := (n2 257 _ (by decide)).trans q10
    have h258 : gI S2 258 (f i) = vD D i := (n2 258 _ (by decide)).trans q11
    refine bX7_follow_75 B kp (fun c => ?_) (fun c => ?_)
    · refine bX7_follow_93 B kp ?_
      rw [h258]
      rw [h257] at c
      exact mid _ (congrArg (fun z => ldk (kD D) (vD D) l0 i + z) (if_neg c))
    · refine bX7_follow_85 B kp ?_
      rw [h258]
      rw [h257] at c
      exact mid _ (congrArg (fun z => ldk (kD D) (vD D) l0 i + z) (if_pos c))
end L5
section C5
variable {l : Launch} {w : Wd} {S : St}
theorem kf_eq {S : St} {f : Nat → Nat} {D : Nat → Pda} {n : Nat} (hD : ∀ i, i < n → Pd S (f i) (D i)) : ∀ i, i < n → kfS S f i = kD D i ∧ vfS S f i = vD D i := fun i hi => ⟨(hD i hi).2.2.2.2.1, (hD i hi).2.2.2.2.2⟩
theorem ld0_congr {k1 k2 v1 v2 : Nat → Int32} : ∀ n, (∀ i, i < n → k1 i = k2 i ∧ v1 i = v2 i) → ld0 k1 v1 n = ld0 k2 v2 n
  | 0, _ => rfl
  | n + 1, h => by
    have ih := ld0_congr n (fun i hi => h i (by omega))
    obtain ⟨e1, e2⟩ := h n (by omega)
    simp only [ld0, ih, e1, e2]
theorem ldk_congr {k1 k2 v1 v2 : Nat → Int32} {l0 : Int32} : ∀ n, (∀ i, i < n → k1 i = k2 i ∧ v1 i = v2 i) → ldk k1 v1 l0 n = ldk k2 v2 l0 n
  | 0, _ => rfl
  | n + 1, h => by
    have ih := ldk_congr (l0 := l0) n (fun i hi => h i (by omega))
    obtain ⟨e1, e2⟩ := h n (by omega)
    simp only [ldk, ih, e1, e2]
theorem glk_congr {k1 k2 v1 v2 : Nat → Int32} {l0 : Int32} : ∀ n, (∀ i, i < n → k1 i = k2 i ∧ v1 i = v2 i) → glk k1 v1 l0 n = glk k2 v2 l0 n
  | 0, _ => rfl
  | n + 1, h => by
    have ih := glk_congr (l0 := l0) n (fun i hi => h i (by omega))
    simp only [glk, ih, ldk_congr (l0 := l0) (n + 1) h]
/-- what following a route leaves: the cost is answered, the scratch tells the rest -/
def FQ (sc tr mi la lo : Nat) (sl : Nat → Int32) (D : Nat → Pda) (dx dy st : Int32) (n : Nat) (S S' : St) : Prop :=
  FrS mi la lo S S' ∧ gI S' 643 tr = (finW sl D dx dy st n).2.2.2.1 ∧ gI S' 644 tr = (finW sl D dx dy st n).2.2.2.2.1 ∧ gI S' 645 tr = (finW sl D dx dy st n).2.2.2.2.2 ∧ gI S' 517 sc = (wk sl D (t00 dx dy st) n).2 ∧
  ∀ j, j < n → rI S' mi j = nowW sl (D j) (wk sl D (t00 dx dy st) j).1 ∧ rI S' la j = lateW sl (D j) (wk sl D (t00 dx dy st) j).1 ∧ rI S' lo j = ldk (kD D) (vD D) (ld0 (kD D) (vD D) n) (j + 1)
theorem c_follow {sc v r q n tn tr mi la lo sl dp : Nat} {f : Nat → Nat} {D : Nat → Pda} {dx dy st en : Int32} (hS : Sc S sc tn tr mi la lo sl dp) (hv : kd S v = 12) (hst : gI S 706 v = st) (hen : gI S 707 v = en) (hdx : gI S 320 dp = dx) (hdy : gI S 321 dp = dy) (hR : Rt S r q n f) (hn : n ≤ 12) (hD : ∀ i, i < n → Pd S (f i) (D i)) (hT : ∀ i, i ≤ n → okT (wk (rI S sl) D (t00 dx dy st) i).1.2.2.2.1) :
    ConI l yX7_follow (wsOf yX7_follow cX7_follow 6 (some .int)) rX7_follow w S [.ref sc, .ref v, .ref r] (fun x S' => x = costW (rI S sl) D dx dy st en n ∧ FQ sc tr mi la lo (rI S sl) D dx dy st n S S') := by
  refine con_I (by decide +kernel) rfl (Nat.le_of_ble_eq_true rfl) (fun p e s m args below meth c B => ?_)
  have hS0 := hS
  obtain ⟨s1, s2, s3, s4, s5, s6, s7, s8, s9, s10, s11, s12, s13, s14, s15, s16, s17, s18⟩ := hS
  refine bX7_follow_0 B (c_loadAtDepot hR) hR.1 (fun x S' hq => ?_)
  obtain ⟨rfl, rfl⟩ := hq
  rw [ld0_congr n (kf_eq hD)]
  have z1 : FrS mi la lo S (sI S 517 sc 0) := FrS.lt
  refine bX7_follow_4 B s1 s3 hv (c_begin s8 s13 s7 s17) s8 (fun S1 hq => ?_)
  rw [hst] at hq
  have g1 : FrS mi la lo S S1 := z1.tr (by rw [hq]; exact FrS.trT (x := (0, 0, st, st, 0, 0)))
  have g2 : FI sc tr mi la lo (rI S sl) D (t00 dx dy st) (ld0 (kD D) (vD D) n) S S1 0 := by
    refine ⟨g1, ⟨dp, by rw [hq]; simp [sTr, gP_sI, gP_sP], s18, ?_⟩, ?_, fun j hj => absurd hj (by omega)⟩
    · rw [hq]
      simp [sTr, trOf, gI_sI, gI_sP, hdx, hdy, wk, t00]
    · rw [hq]
      simp [sTr, gI_sI, gI_sP, wk]
  clear hq
  refine bX7_follow_21 B (l_follow B hS0 hR hn hD (fun i hi => hT i (by omega)) (fun Si hF => ?_) n 0 (by omega) S1 g2)
  obtain ⟨hF0, ⟨pl, p1, p2, p3⟩, p4, p5⟩ := hF
  obtain ⟨s1, s2, s3, s4, s5, s6, s7, s8, s9, s10, s11, s12, s13, s14, s15, s16, s17, s18⟩ := hS0.fr hF0
  have esl : rI Si sl = rI S sl := hF0.2.2.2.2.1 sl s16.1 s16.2.1 s16.2.2
  have hTi := hT n (Nat.le_refl n)
  rw [← p3] at hTi
  have edx : gI Si 320 dp = dx := (hF0.2.1 _ _ (by decide) (by decide) (by decide) (by decide) (by decide)).trans hdx
  have edy : gI Si 321 dp = dy := (hF0.2.1 _ _ (by decide) (by decide) (by decide) (by decide) (by decide)).trans hdy
  refine bX7_follow_192 B s1 s3 s2 s7 s17 (c_goWithBreak s8 s18 s13 s7 p1 ((hF0.1 _).trans p2) s14 s15.1 (hTi.h1 s15.2) (hTi.h2 s15.2)) s8 (fun S2 hq => ?_)
  rw [esl, p3, edx, edy] at hq
  have hq : S2 = sTrT Si tr dp (finW (rI S sl) D dx dy st n) := hq
  have g3 : FrS mi la lo Si S2 := by rw [hq]; exact FrS.trT
  have g4 : gI S2 643 tr = (finW (rI S sl) D dx dy st n).2.2.2.1 := by rw [hq]; simp [sTrT, sTr, gI_sI, gI_sP]
  have g5 : gI S2 644 tr = (finW (rI S sl) D dx dy st n).2.2.2.2.1 := by rw [hq]; simp [sTrT, sTr, gI_sI, gI_sP]
  have g6 : gI S2 645 tr = (finW (rI S sl) D dx dy st n).2.2.2.2.2 := by rw [hq]; simp [sTrT, sTr, gI_sI, gI_sP]
  have g7 : gI S2 517 sc = (wk (rI S sl) D (t00 dx dy st) n).2 := by rw [← p4, hq]; simp [sTrT, sTr, gI_sI, gI_sP]
  have g8 : ∀ a, rI S2 a = rI Si a := by rw [hq]; exact fun _ => rfl
  clear hq
  have g9 := hF0.tr g3
  have ksc := (g9.1 _).trans (show kd S sc = 9 from hS0.1)
  have ktr := (g9.1 _).trans (show kd S tr = 11 from hS0.2.2.2.2.2.2.2.1)
  have kv := (g9.1 _).trans hv
  have psc : gP S2 513 sc = some tr := (g9.2.2.1 _ _ (by decide)).trans hS0.2.2.1
  have een : gI S2 707 v = en := (g9.2.1 _ _ (by decide) (by decide) (by decide) (by decide) (by decide)).trans hen
  have fin : ∀ ov : Int32, ov = overW en (finW (rI S sl) D dx dy st n) → gI S2 644 tr + 3 * gI S2 517 sc + 2 * ov = costW (rI S sl) D dx dy st en n ∧ FQ sc tr mi la lo (rI S sl) D dx dy st n S S2 := by
    intro ov e
    refine ⟨by rw [g5, g7, e]; rfl, g9, g4, g5, g6, g7, fun j hj => ?_⟩
    rw [g8, g8, g8]
    exact p5 j hj
  refine bX7_follow_206 B ksc psc ktr kv (fun c => ?_) (fun c => ?_)
  · refine bX7_follow_235 B (bX7_follow_236 B ksc psc ktr (fin _ ?_))
    rw [g4, een] at c
    exact (if_pos c).symm
  · refine bX7_follow_220 B ksc psc ktr kv (bX7_follow_236 B ksc psc ktr (fin _ ?_))
    rw [g4, een] at c ⊢
    exact (if_neg c).symm
end C5
