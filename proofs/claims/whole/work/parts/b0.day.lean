/-! THE CLASS'S DAY: the picture between the stops -/
def ixD : Nat := 0
theorem absd_k : ∀ k, k < 61 → absd (nI k) = nI k ∧ absd (-(nI k)) = nI k := by decide +kernel
theorem ab_comm {a b : Int32} (ha : isN a 60) (hb : isN b 60) : absd (a - b) = absd (b - a) := by
  obtain ⟨e1, h1⟩ := ha.nI
  obtain ⟨e2, h2⟩ := hb.nI
  rw [e1, e2]
  rcases Nat.le_total b.toNatClampNeg a.toNatClampNeg with z | z
  · have e3 : nI b.toNatClampNeg - nI a.toNatClampNeg = -(nI (a.toNatClampNeg - b.toNatClampNeg)) := by rw [← pk_sub z, Int32.neg_sub]
    rw [e3, pk_sub z, (absd_k _ (by omega)).1, (absd_k _ (by omega)).2]
  · have e3 : nI a.toNatClampNeg - nI b.toNatClampNeg = -(nI (b.toNatClampNeg - a.toNatClampNeg)) := by rw [← pk_sub z, Int32.neg_sub]
    rw [e3, pk_sub z, (absd_k _ (by omega)).1, (absd_k _ (by omega)).2]
theorem dist_comm {a b a2 b2 : Int32} (h1 : isN a 60) (h2 : isN b 60) (h3 : isN a2 60) (h4 : isN b2 60) : dist a b a2 b2 = dist a2 b2 a b := by
  unfold dist; rw [ab_comm h1 h3, ab_comm h2 h4]
theorem wkD_at {D : Ab} {gx gy : Int32} : wkD D gx gy 844 0 = gx ∧ wkD D gx gy 845 0 = gy := by
  unfold wkD goD
  split
  · exact ⟨by rw [au_neF (by decide), au_same], au_same⟩
  · exact ⟨by rw [au_neF (by decide), au_same], au_same⟩
theorem wkD_go {D : Ab} {t : Tr} {gx gy : Int32} (h1 : t.1 = D 844 0) (h2 : t.2.1 = D 845 0) (h3 : t.2.2.1 = D 843 0) (h4 : t.2.2.2.1 = D 842 0) :
    (goB (D 897) t gx gy).2.2.1 = wkD D gx gy 843 0 ∧ (goB (D 897) t gx gy).2.2.2.1 = wkD D gx gy 842 0 := by
  unfold goB wkD
  rw [h1, h2, h3, h4]
  split
  · unfold goS goD
    refine ⟨?_, ?_⟩
    · rw [au_neF (by decide), au_neF (by decide), au_neF (by decide)]; exact h3
    · rw [au_neF (by decide), au_neF (by decide), au_same, h1, h2, h4]
  · unfold goS goD brk
    refine ⟨?_, ?_⟩
    · rw [au_neF (by decide), au_neF (by decide), au_neF (by decide), au_same, h4]
    · rw [au_neF (F' := 842) (F := 845) (by decide), au_neF (F' := 842) (F := 844) (by decide), au_same, h1, h2, h4]
      rw [show au (au D 842 0 (D 842 0 + 30)) 843 0 (D 842 0 + 30) 842 0 = D 842 0 + 30 from by rw [au_neF (by decide), au_same]]
      rw [show au (au D 842 0 (D 842 0 + 30)) 843 0 (D 842 0 + 30) 844 0 = D 844 0 from by rw [au_neF (by decide), au_neF (by decide)]]
      rw [show au (au D 842 0 (D 842 0 + 30)) 843 0 (D 842 0 + 30) 845 0 = D 845 0 from by rw [au_neF (by decide), au_neF (by decide)]]
      rw [show au (au D 842 0 (D 842 0 + 30)) 843 0 (D 842 0 + 30) 897 = D 897 from by rw [au_neF (by decide), au_neF (by decide)]]
theorem goD_go {D : Ab} {t : Tr} {gx gy : Int32} (h1 : t.1 = D 844 0) (h2 : t.2.1 = D 845 0) (h3 : t.2.2.1 = D 843 0) (h4 : t.2.2.2.1 = D 842 0) :
    (goS (D 897) t gx gy).2.2.1 = goD D gx gy 843 0 ∧ (goS (D 897) t gx gy).2.2.2.1 = goD D gx gy 842 0 ∧ goD D gx gy 844 0 = gx ∧ goD D gx gy 845 0 = gy := by
  unfold goS goD
  refine ⟨?_, ?_, ?_, ?_⟩
  · rw [au_neF (by decide), au_neF (by decide), au_neF (by decide)]; exact h3
  · rw [au_neF (by decide), au_neF (by decide), au_same, h1, h2, h4]
  · rw [au_neF (by decide), au_same]
  · exact au_same
def dyF (g : Nat) : Bool := (264 ≤ g && g ≤ 268) || g == 388 || g == 389 || (642 ≤ g && g ≤ 645)
def dyA (F : Nat) : Bool := (833 ≤ F && F ≤ 839) || (842 ≤ F && F ≤ 845)
def PaD (S : St) (T : Tb) (β : Ab) (x : Nat) : Prop := gI S 264 (T 30 x) = β 835 x ∧ gI S 265 (T 30 x) = β 834 x ∧ gI S 266 (T 30 x) = β 836 x ∧ (β 834 x = 2 → gI S 267 (T 30 x) = β 837 x) ∧ gI S 268 (T 30 x) = β 838 x
section DAY0
variable {w : Wd} {S S' : St} {T : Tb} {α β : Ab}
theorem CR.pad (h : CR w S T α) {x : Nat} (hx : x < nP α) : PaD S T α x := by
  obtain ⟨-, -, d2, d3, d4, d5, d6⟩ := h.pa hx
  exact ⟨d2, d3, d4, d5, d6⟩
theorem CR.day (h : CR w S T α) (k : ∀ a, kd S' a = kd S a) (ln' : ∀ a, ln S' a = ln S a) (hp : ∀ g a, g ≠ 641 → gP S' g a = gP S g a) (hg : ∀ g a, dyF g = false → gI S' g a = gI S g a)
    (hr : ∀ a, (∀ i, i < nL α → a ≠ T 25 i) → rI S' a = rI S a) (hrP : ∀ a, rP S' a = rP S a) (hβ : ∀ F, dyA F = false → β F = α F) (pf : ∀ x, x < nP α → PaD S' T β x) (lf : ∀ i, i < nL α → ∀ b, b < 3 → rI S' (T 25 i) b = β 839 (3 * i + b)) : CR w S' T β := by
  have eH : nH β = nH α := by unfold nH; rw [hβ 900 rfl]
  have eL : nL β = nL α := by unfold nL; rw [hβ 906 rfl]
  have eV : nV β = nV α := by unfold nV; rw [hβ 909 rfl]
  have eP : nP β = nP α := by unfold nP; rw [hβ 913 rfl]
  have eM : ∀ x, mny β x = mny α x := fun x => by unfold mny; rw [hβ 840 rfl]
  have eR : ∀ x k, rwf β x k = rwf α x k := fun x k => by unfold rwf; rw [hβ 841 rfl]
  have eF : ∀ q, vof β q = vof α q := fun q => by unfold vof; rw [eV]; exact vofN_ext (fun x _ => eM x) (fun x k _ _ => eR x k)
  have n25 : ∀ c j, j < cCnt α c → c ≠ 25 → rI S' (T c j) = rI S (T c j) := fun c j hj hc => hr _ (fun i hi => h.ne hj (cnL (by decide) (by decide) hi) (Or.inl hc))
  refine h.chg (fun c => by unfold cCnt; rw [eH, eL, eV, eP]) k ln' (fun g a _ h2 _ => hp g a h2) (fun a => hg 2 a rfl) (fun a _ => hrP a) ?_ (fun i hi => ?_) (fun i hi => ?_) (fun i hi => ?_) (fun i hi => ?_)
  · obtain ⟨t1, t2, t3, t4⟩ := h.to
    unfold To
    rw [n25 2 0 (cn1 (by decide)) (by decide), hg _ _ rfl, hg _ _ rfl, hg _ _ rfl, hβ 897 rfl, hβ 898 rfl, hβ 899 rfl, hβ 832 rfl]
    exact ⟨t1, t2, t3, t4⟩
  · obtain ⟨b1, b2, b3, b4, b5⟩ := h.hm hi
    unfold Hm
    rw [hg _ _ rfl, hg _ _ rfl, hg _ _ rfl, hg _ _ rfl, n25 22 i (cnH (by decide) (by decide) hi) (by decide), hβ 901 rfl, hβ 902 rfl, hβ 903 rfl, hβ 904 rfl, hβ 905 rfl]
    exact ⟨b1, b2, b3, b4, b5⟩
  · obtain ⟨b1, b2, b3⟩ := h.lo hi
    unfold Lo
    rw [hg _ _ rfl, hg _ _ rfl, hβ 907 rfl, hβ 908 rfl]
    exact ⟨b1, b2, lf i hi⟩
  · obtain ⟨b1, b2, b3, b4, b5, b6⟩ := h.va hi
    unfold Va
    rw [hg _ _ rfl, hg _ _ rfl, hg _ _ rfl, hg _ _ rfl, hg _ _ rfl, hrP, hβ 910 rfl, hβ 911 rfl, hβ 912 rfl, eM]
    exact ⟨b1, b2, b3, b4, b5, fun k hk => by rw [eR]; exact b6 k hk⟩
  · obtain ⟨b, d1, -⟩ := h.pa hi
    obtain ⟨p1, p2, p3, p4, p5⟩ := pf i hi
    unfold Pa vop
    rw [hg 256 _ rfl, hg 257 _ rfl, hg 258 _ rfl, hg 259 _ rfl, hg 261 _ rfl, hg 262 _ rfl, hp _ _ (by decide), hp _ _ (by decide), hβ 914 rfl, hβ 915 rfl, hβ 916 rfl, hβ 917 rfl, hβ 918 rfl, eF]
    exact ⟨b, d1, p1, p2, p3, p4, p5⟩
end DAY0
/-- where the trip is -/
def TD (S : St) (T : Tb) (D : Ab) : Prop := ∃ pl, gP S 641 (T 14 0) = some pl ∧ kd S pl = 6 ∧ gI S 320 pl = D 844 0 ∧ gI S 321 pl = D 845 0 ∧ gI S 642 (T 14 0) = D 843 0 ∧ gI S 643 (T 14 0) = D 842 0
abbrev Ke : Type := (Nat → Nat → Int32) × (Nat → Nat → Int32)
/-- what is kept -/
def KE (S : St) (T : Tb) (D0 : Ab) (R : Ke) : Prop := (∀ q, q < nP D0 → rI S (T 31 q) = R.1 q) ∧ ∀ k, k < nL D0 → rI S (T 26 k) = R.2 k
/-- the day's numbers, the routes as they began -/
def dE (D0 D : Ab) : Ab := aset D 840 (D0 840)
theorem dE_F {D0 D : Ab} {F : Nat} (h : F ≠ 840) : dE D0 D F = D F := aset_ne h
def DC (w : Wd) (S : St) (T : Tb) (D0 : Ab) (R : Ke) (D : Ab) (c : Int32) : Prop := (FrD D0 D ∧ D 841 = D0 841) ∧ CR w S T (dE D0 D) ∧ TD S T D ∧ gI S 388 (T 13 0) = c ∧ gI S 389 (T 13 0) = D 833 0 ∧ KE S T D0 R
/-- the same without the trip -/
def DC0 (w : Wd) (S : St) (T : Tb) (D0 : Ab) (R : Ke) (D : Ab) (c : Int32) : Prop := (FrD D0 D ∧ D 841 = D0 841) ∧ CR w S T (dE D0 D) ∧ gI S 388 (T 13 0) = c ∧ gI S 389 (T 13 0) = D 833 0 ∧ KE S T D0 R
theorem FrD.n {α β : Ab} (f : FrD α β) : nH β = nH α ∧ nL β = nL α ∧ nV β = nV α ∧ nP β = nP α := ⟨by unfold nH; rw [f 900 (by decide) (by decide)], by unfold nL; rw [f 906 (by decide) (by decide)], by unfold nV; rw [f 909 (by decide) (by decide)], by unfold nP; rw [f 913 (by decide) (by decide)]⟩
theorem dE_n {D0 D : Ab} (f : FrD D0 D) : nH (dE D0 D) = nH D0 ∧ nL (dE D0 D) = nL D0 ∧ nV (dE D0 D) = nV D0 ∧ nP (dE D0 D) = nP D0 := by
  obtain ⟨a, b, c, d⟩ := f.n
  exact ⟨by unfold nH at a ⊢; rw [dE_F (by decide)]; exact a, by unfold nL at b ⊢; rw [dE_F (by decide)]; exact b, by unfold nV at c ⊢; rw [dE_F (by decide)]; exact c, by unfold nP at d ⊢; rw [dE_F (by decide)]; exact d⟩
section DAY1
variable {w : Wd} {S S' : St} {T : Tb} {D0 D D' : Ab} {R : Ke} {cn : Int32}
theorem DC.z (h : DC w S T D0 R D cn) : DC0 w S T D0 R D cn := ⟨h.1, h.2.1, h.2.2.2⟩
theorem DC0.wt (h : DC0 w S T D0 R D cn) (t : TD S T D) : DC w S T D0 R D cn := ⟨h.1, h.2.1, t, h.2.2⟩
theorem DC0.c (h : DC0 w S T D0 R D cn) : CR w S T (dE D0 D) := h.2.1
theorem DC0.f (h : DC0 w S T D0 R D cn) : FrD D0 D := h.1.1
theorem DC.c (h : DC w S T D0 R D cn) : CR w S T (dE D0 D) := h.2.1
theorem DC.f (h : DC w S T D0 R D cn) : FrD D0 D := h.1.1
theorem FrD.lo {α β γ : Ab} (f : FrD α β) (h : ∀ F, 896 < F → F < 919 → γ F = β F) : FrD α γ := fun F h1 h2 => (h F h1 h2).trans (f F h1 h2)
/-- a step of the trip -/
theorem DC0.tripS (h : DC0 w S T D0 R D cn) {g : Nat} {tr : Tr} (hg : kd S g = 6) (e1 : gI S 320 g = D' 844 0) (e2 : gI S 321 g = D' 845 0) (e3 : tr.2.2.1 = D' 843 0) (e4 : tr.2.2.2.1 = D' 842 0) (hD : ∀ F, F < 842 ∨ 845 < F → D' F = D F) : DC w (sTrT S (T 14 0) g tr) T D0 R D' cn := by
  obtain ⟨⟨f1, f2⟩, hC, h4, h5, h6⟩ := h
  have hdy : ∀ a f, dyF f = false → gI (sTrT S (T 14 0) g tr) f a = gI S f a := fun a f hf => by
    unfold dyF at hf
    simp only [Bool.or_eq_false_iff, beq_eq_false_iff_ne, Bool.and_eq_false_iff, decide_eq_false_iff_not] at hf
    unfold sTrT sTr
    rw [gI_sP, gI_sI, if_neg (by omega), gI_sI, if_neg (by omega), gI_sI, if_neg (by omega), gI_sI, if_neg (by omega)]
  have hlow : ∀ a f, f < 642 → gI (sTrT S (T 14 0) g tr) f a = gI S f a := fun a f hf => by
    unfold sTrT sTr
    rw [gI_sP, gI_sI, if_neg (by omega), gI_sI, if_neg (by omega), gI_sI, if_neg (by omega), gI_sI, if_neg (by omega)]
  have hhi : ∀ F, F < 842 ∨ 845 < F → dE D0 D' F = dE D0 D F := fun F hF => by
    by_cases z : F = 840
    · rw [z]; exact (aset_same).trans (aset_same).symm
    · rw [dE_F z, dE_F z]; exact hD F hF
  refine ⟨⟨f1.lo (fun F h1 _ => hD F (by omega)), (hD 841 (by omega)).trans f2⟩, ?_, ?_, ?_, ?_, h6⟩
  · refine hC.day (fun _ => rfl) (fun _ => rfl) (fun f a hf => ?_) (fun f a => hdy a f) (fun _ _ => rfl) (fun _ => rfl) (fun F hF => hhi F ?_) (fun x hx => ?_) (fun i hi b hb => ?_)
    · unfold sTrT sTr; rw [gP_sP, if_neg (fun z => hf z.1)]; rfl
    · unfold dyA at hF
      simp only [Bool.or_eq_false_iff, Bool.and_eq_false_iff, decide_eq_false_iff_not] at hF
      omega
    · obtain ⟨p1, p2, p3, p4, p5⟩ := hC.pad hx
      unfold PaD
      rw [hlow _ _ (by decide), hlow _ _ (by decide), hlow _ _ (by decide), hlow _ _ (by decide), hlow _ _ (by decide), hhi 834 (by decide), hhi 835 (by decide), hhi 836 (by decide), hhi 837 (by decide), hhi 838 (by decide)]
      exact ⟨p1, p2, p3, p4, p5⟩
    · rw [hhi 839 (by decide)]; exact (hC.lo hi).2.2 b hb
  · refine ⟨g, ?_, hg, ?_, ?_, ?_, ?_⟩
    · unfold sTrT sTr; rw [gP_sP, if_pos ⟨rfl, rfl⟩]
    · rw [hlow _ _ (by decide)]; exact e1
    · rw [hlow _ _ (by decide)]; exact e2
    · unfold sTrT sTr; rw [gI_sP, gI_sI, if_neg (fun z => absurd z.1 (by decide)), gI_sI, if_neg (fun z => absurd z.1 (by decide)), gI_sI, if_neg (fun z => absurd z.1 (by decide)), gI_sI, if_pos ⟨rfl, rfl⟩]; exact e3
    · unfold sTrT sTr; rw [gI_sP, gI_sI, if_neg (fun z => absurd z.1 (by decide)), gI_sI, if_neg (fun z => absurd z.1 (by decide)), gI_sI, if_pos ⟨rfl, rfl⟩]; exact e4
  · rw [hlow _ _ (by decide)]; exact h4
  · rw [hlow _ _ (by decide), hD 833 (by decide)]; exact h5
theorem DC.tripS (h : DC w S T D0 R D cn) {g : Nat} {tr : Tr} (hg : kd S g = 6) (e1 : gI S 320 g = D' 844 0) (e2 : gI S 321 g = D' 845 0) (e3 : tr.2.2.1 = D' 843 0) (e4 : tr.2.2.2.1 = D' 842 0) (hD : ∀ F, F < 842 ∨ 845 < F → D' F = D F) : DC w (sTrT S (T 14 0) g tr) T D0 R D' cn := h.z.tripS hg e1 e2 e3 e4 hD
theorem DC.minS (h : DC w S T D0 R D cn) {x : Int32} : DC w (sI S 643 (T 14 0) x) T D0 R (au D 842 0 x) cn := by
  obtain ⟨pl, t1, t2, t3, t4, t5, t6⟩ := h.2.2.1
  have r := h.tripS (D' := au D 842 0 x) (g := pl) (tr := (gI S 320 pl, gI S 321 pl, gI S 642 (T 14 0), x, gI S 644 (T 14 0), gI S 645 (T 14 0))) t2 (by rw [au_neF (by decide)]; exact t3) (by rw [au_neF (by decide)]; exact t4) (by rw [au_neF (by decide)]; exact t5) au_same.symm (fun F hF => au_neF (by omega))
  have es : sTrT S (T 14 0) pl (gI S 320 pl, gI S 321 pl, gI S 642 (T 14 0), x, gI S 644 (T 14 0), gI S 645 (T 14 0)) = sI S 643 (T 14 0) x := by
    refine st_ext (fun _ => rfl) (fun f a => ?_) (fun f a => ?_) (fun _ => rfl) (fun _ => rfl) (fun _ => rfl)
    · unfold sTrT sTr
      simp only [gI_sI, gI_sP]
      grind
    · unfold sTrT sTr
      rw [gP_sP]
      split
      · rename_i z
        rw [z.1, z.2]; exact t1.symm
      · rfl
  rw [es] at r
  exact r
/-- a parcel's values (and lockers' boxes) change -/
theorem DC0.parX (h : DC0 w S T D0 R D cn) {q : Nat} (k : ∀ a, kd S' a = kd S a) (ln' : ∀ a, ln S' a = ln S a) (hp : ∀ g a, gP S' g a = gP S g a) (hg : ∀ g a, ¬ (264 ≤ g ∧ g ≤ 268 ∧ a = T 30 q) → gI S' g a = gI S g a)
    (hr : ∀ a, (∀ i, i < nL D0 → a ≠ T 25 i) → rI S' a = rI S a) (hrP : ∀ a, rP S' a = rP S a) (hq : q < nP D0) (hD : ∀ F, F < 834 ∨ 839 < F → D' F = D F) (hx : ∀ F x, 834 ≤ F → F ≤ 838 → x ≠ q → D' F x = D F x) (pq : PaD S' T D' q)
    (lf : ∀ i, i < nL D0 → ∀ b, b < 3 → rI S' (T 25 i) b = D' 839 (3 * i + b)) : DC0 w S' T D0 R D' cn := by
  obtain ⟨⟨f1, f2⟩, hC, h4, h5, h6, h7⟩ := h
  obtain ⟨nh, nl, nv, np⟩ := dE_n f1
  have n25 : ∀ c j, j < cCnt (dE D0 D) c → c ≠ 25 → rI S' (T c j) = rI S (T c j) := fun c j hj hc => hr _ (fun i hi => hC.ne hj (cnL (by decide) (by decide) (by rw [nl]; exact hi)) (Or.inl hc))
  refine ⟨⟨f1.lo (fun F h1 _ => hD F (by omega)), (hD 841 (by omega)).trans f2⟩, ?_, ?_, ?_, fun x hx' => ?_, fun i hi => ?_⟩
  · refine hC.day k ln' (fun f a _ => hp f a) (fun f a hf => hg f a (fun z => ?_)) (fun a ha => hr a (fun i hi => ha i (by rw [nl]; exact hi))) hrP (fun F hF => ?_) (fun x hx' => ?_) (fun i hi b hb => ?_)
    · unfold dyF at hf
      simp only [Bool.or_eq_false_iff, beq_eq_false_iff_ne, Bool.and_eq_false_iff, decide_eq_false_iff_not] at hf
      omega
    · unfold dyA at hF
      simp only [Bool.or_eq_false_iff, Bool.and_eq_false_iff, decide_eq_false_iff_not] at hF
      by_cases z : F = 840
      · rw [z]; exact (aset_same).trans (aset_same).symm
      · rw [dE_F z, dE_F z]; exact hD F (by omega)
    · by_cases z : x = q
      · subst z
        unfold PaD
        rw [dE_F (by decide), dE_F (by decide), dE_F (by decide), dE_F (by decide), dE_F (by decide)]
        exact pq
      · obtain ⟨p1, p2, p3, p4, p5⟩ := hC.pad hx'
        have ne : T 30 x ≠ T 30 q := hC.ne (cnP (by decide) (by decide) hx') (cnP (by decide) (by decide) (by rw [np]; exact hq)) (Or.inr z)
        rw [dE_F (by decide)] at p1 p2 p3 p5
        rw [dE_F (by decide), dE_F (by decide)] at p4
        unfold PaD
        rw [hg _ _ (fun y => ne y.2.2), hg _ _ (fun y => ne y.2.2), hg _ _ (fun y => ne y.2.2), hg _ _ (fun y => ne y.2.2), hg _ _ (fun y => ne y.2.2), dE_F (by decide), dE_F (by decide), dE_F (by decide), dE_F (by decide), dE_F (by decide), hx 834 x (by decide) (by decide) z, hx 835 x (by decide) (by decide) z, hx 836 x (by decide) (by decide) z, hx 837 x (by decide) (by decide) z, hx 838 x (by decide) (by decide) z]
        exact ⟨p1, p2, p3, p4, p5⟩
    · rw [dE_F (by decide)]; exact lf i (by rw [← nl]; exact hi) b hb
  · rw [hg _ _ (by omega)]; exact h4
  · rw [hg _ _ (by omega), hD _ (by decide)]; exact h5
  · rw [n25 31 x (cnP (by decide) (by decide) (by rw [np]; exact hx')) (by decide)]; exact h6 x hx'
  · rw [n25 26 i (cnL (by decide) (by decide) (by rw [nl]; exact hi)) (by decide)]; exact h7 i hi
theorem DC.parX (h : DC w S T D0 R D cn) {q : Nat} (k : ∀ a, kd S' a = kd S a) (ln' : ∀ a, ln S' a = ln S a) (hp : ∀ g a, gP S' g a = gP S g a) (hg : ∀ g a, ¬ (264 ≤ g ∧ g ≤ 268 ∧ a = T 30 q) → gI S' g a = gI S g a)
    (hr : ∀ a, (∀ i, i < nL D0 → a ≠ T 25 i) → rI S' a = rI S a) (hrP : ∀ a, rP S' a = rP S a) (hq : q < nP D0) (hD : ∀ F, F < 834 ∨ 839 < F → D' F = D F) (hx : ∀ F x, 834 ≤ F → F ≤ 838 → x ≠ q → D' F x = D F x) (pq : PaD S' T D' q)
    (lf : ∀ i, i < nL D0 → ∀ b, b < 3 → rI S' (T 25 i) b = D' 839 (3 * i + b)) : DC w S' T D0 R D' cn := by
  refine (h.z.parX k ln' hp hg hr hrP hq hD hx pq lf).wt ?_
  obtain ⟨pl, t1, t2, t3, t4, t5, t6⟩ := h.2.2.1
  refine ⟨pl, (hp _ _).trans t1, (k _).trans t2, ?_, ?_, ?_, ?_⟩
  · rw [hg _ _ (by omega), hD _ (by decide)]; exact t3
  · rw [hg _ _ (by omega), hD _ (by decide)]; exact t4
  · rw [hg _ _ (by omega), hD _ (by decide)]; exact t5
  · rw [hg _ _ (by omega), hD _ (by decide)]; exact t6
theorem DC.rnd (h : DC w S T D0 R D cn) (c2 v : Int32) : DC w (sI (sI S 388 (T 13 0) c2) 389 (T 13 0) v) T D0 R (au D 833 0 v) c2 := by
  obtain ⟨⟨f1, f2⟩, hC, ⟨pl, t1, t2, t3, t4, t5, t6⟩, h4, h5, h6⟩ := h
  have hg : ∀ g a, g ≠ 388 → g ≠ 389 → gI (sI (sI S 388 (T 13 0) c2) 389 (T 13 0) v) g a = gI S g a := fun g a h1 h2 => by rw [gI_sI, if_neg (fun z => h2 z.1), gI_sI, if_neg (fun z => h1 z.1)]
  refine ⟨⟨f1.lo (fun F h1 _ => au_neF (by omega)), (au_neF (by decide)).trans f2⟩, ?_, ⟨pl, t1, t2, ?_, ?_, ?_, ?_⟩, ?_, ?_, h6⟩
  · have e : ∀ F, F ≠ 833 → dE D0 (au D 833 0 v) F = dE D0 D F := fun F hF => by
      by_cases z : F = 840
      · rw [z]; exact (aset_same).trans (aset_same).symm
      · rw [dE_F z, dE_F z, au_neF hF]
    refine hC.day (fun _ => rfl) (fun _ => rfl) (fun _ _ _ => rfl) (fun f a hf => hg f a (fun z => by rw [z] at hf; exact absurd hf (by decide)) (fun z => by rw [z] at hf; exact absurd hf (by decide))) (fun _ _ => rfl) (fun _ => rfl) (fun F hF => e F (fun z => by rw [z] at hF; exact absurd hF (by decide))) (fun x hx => ?_) (fun i hi b hb => ?_)
    · obtain ⟨p1, p2, p3, p4, p5⟩ := hC.pad hx
      unfold PaD
      rw [hg _ _ (by decide) (by decide), hg _ _ (by decide) (by decide), hg _ _ (by decide) (by decide), hg _ _ (by decide) (by decide), hg _ _ (by decide) (by decide), e 834 (by decide), e 835 (by decide), e 836 (by decide), e 837 (by decide), e 838 (by decide)]
      exact ⟨p1, p2, p3, p4, p5⟩
    · rw [e 839 (by decide)]; exact (hC.lo hi).2.2 b hb
  · rw [hg _ _ (by decide) (by decide), au_neF (by decide)]; exact t3
  · rw [hg _ _ (by decide) (by decide), au_neF (by decide)]; exact t4
  · rw [hg _ _ (by decide) (by decide), au_neF (by decide)]; exact t5
  · rw [hg _ _ (by decide) (by decide), au_neF (by decide)]; exact t6
  · rw [gI_sI, if_neg (fun z => absurd z.1 (by decide)), gI_sI, if_pos ⟨rfl, rfl⟩]
  · rw [gI_sI, if_pos ⟨rfl, rfl⟩, au_same]
theorem DC0.beg (f1 : FrD D0 D) (f2 : D 841 = D0 841) (hC : CR w S T (dE D0 D)) (h6 : KE S T D0 R) (c2 v : Int32) : DC0 w (sI (sI S 388 (T 13 0) c2) 389 (T 13 0) v) T D0 R (au D 833 0 v) c2 := by
  have hg : ∀ g a, g ≠ 388 → g ≠ 389 → gI (sI (sI S 388 (T 13 0) c2) 389 (T 13 0) v) g a = gI S g a := fun g a h1 h2 => by rw [gI_sI, if_neg (fun z => h2 z.1), gI_sI, if_neg (fun z => h1 z.1)]
  refine ⟨⟨f1.lo (fun F h1 _ => au_neF (by omega)), (au_neF (by decide)).trans f2⟩, ?_, ?_, ?_, h6⟩
  · have e : ∀ F, F ≠ 833 → dE D0 (au D 833 0 v) F = dE D0 D F := fun F hF => by
      by_cases z : F = 840
      · rw [z]; exact (aset_same).trans (aset_same).symm
      · rw [dE_F z, dE_F z, au_neF hF]
    refine hC.day (fun _ => rfl) (fun _ => rfl) (fun _ _ _ => rfl) (fun f a hf => hg f a (fun z => by rw [z] at hf; exact absurd hf (by decide)) (fun z => by rw [z] at hf; exact absurd hf (by decide))) (fun _ _ => rfl) (fun _ => rfl) (fun F hF => e F (fun z => by rw [z] at hF; exact absurd hF (by decide))) (fun x hx => ?_) (fun i hi b hb => ?_)
    · obtain ⟨p1, p2, p3, p4, p5⟩ := hC.pad hx
      unfold PaD
      rw [hg _ _ (by decide) (by decide), hg _ _ (by decide) (by decide), hg _ _ (by decide) (by decide), hg _ _ (by decide) (by decide), hg _ _ (by decide) (by decide), e 834 (by decide), e 835 (by decide), e 836 (by decide), e 837 (by decide), e 838 (by decide)]
      exact ⟨p1, p2, p3, p4, p5⟩
    · rw [e 839 (by decide)]; exact (hC.lo hi).2.2 b hb
  · rw [gI_sI, if_neg (fun z => absurd z.1 (by decide)), gI_sI, if_pos ⟨rfl, rfl⟩]
  · rw [gI_sI, if_pos ⟨rfl, rfl⟩, au_same]
end DAY1
