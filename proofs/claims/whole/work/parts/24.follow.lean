/-! HOW A ROUTE GOES: the stops one after the other -/
/-- a parcel as a route sees it: x, y of its home, from, till, kind, volume -/
abbrev Pda : Type := Int32 × Int32 × Int32 × Int32 × Int32 × Int32
def nowW (sl : Nat → Int32) (d : Pda) (t : Tr) : Int32 := if d.2.2.1 ≤ (goB sl t d.1 d.2.1).2.2.2.1 then (goB sl t d.1 d.2.1).2.2.2.1 else d.2.2.1
def lateW (sl : Nat → Int32) (d : Pda) (t : Tr) : Int32 := if nowW sl d t ≤ d.2.2.2.1 then 0 else nowW sl d t - d.2.2.2.1
/-- where the van is, and how late all stops were -/
abbrev Wk : Type := Tr × Int32
def stepW (sl : Nat → Int32) (d : Pda) (W : Wk) : Wk :=
  ((d.1, d.2.1, (goB sl W.1 d.1 d.2.1).2.2.1, nowW sl d W.1 + 4, (goB sl W.1 d.1 d.2.1).2.2.2.2.1, (goB sl W.1 d.1 d.2.1).2.2.2.2.2), W.2 + lateW sl d W.1)
def wk (sl : Nat → Int32) (D : Nat → Pda) (t0 : Tr) : Nat → Wk
  | 0 => (t0, 0)
  | n + 1 => stepW sl (D n) (wk sl D t0 n)
def kD (D : Nat → Pda) (i : Nat) : Int32 := (D i).2.2.2.2.1
def vD (D : Nat → Pda) (i : Nat) : Int32 := (D i).2.2.2.2.2
def t00 (dx dy st : Int32) : Tr := (dx, dy, st, st, 0, 0)
/-- back at the depot -/
def finW (sl : Nat → Int32) (D : Nat → Pda) (dx dy st : Int32) (n : Nat) : Tr := goB sl (wk sl D (t00 dx dy st) n).1 dx dy
def overW (en : Int32) (t : Tr) : Int32 := if t.2.2.2.1 ≤ en then 0 else t.2.2.2.1 - en
def costW (sl : Nat → Int32) (D : Nat → Pda) (dx dy st en : Int32) (n : Nat) : Int32 :=
  (finW sl D dx dy st n).2.2.2.2.1 + 3 * (wk sl D (t00 dx dy st) n).2 + 2 * overW en (finW sl D dx dy st n)
def okT (t : Int32) : Prop := 0 ≤ t.toInt ∧ t.toInt ≤ 1000000
theorem goB_xy (sl : Nat → Int32) (t : Tr) (x y : Int32) : (goB sl t x y).1 = x ∧ (goB sl t x y).2.1 = y := by
  unfold goB goS; split <;> exact ⟨rfl, rfl⟩
/-- only the scratch of planning has changed -/
def FrS (mi la lo : Nat) (S S' : St) : Prop := (∀ a, kd S' a = kd S a) ∧ (∀ f a, f ≠ 642 → f ≠ 643 → f ≠ 644 → f ≠ 645 → f ≠ 517 → gI S' f a = gI S f a) ∧ (∀ f a, f ≠ 641 → gP S' f a = gP S f a) ∧ (∀ a, ln S' a = ln S a) ∧ (∀ a, a ≠ mi → a ≠ la → a ≠ lo → rI S' a = rI S a) ∧ ∀ a, rP S' a = rP S a
theorem FrS.rf {mi la lo : Nat} {S : St} : FrS mi la lo S S := ⟨fun _ => rfl, fun _ _ _ _ _ _ _ => rfl, fun _ _ _ => rfl, fun _ => rfl, fun _ _ _ _ => rfl, fun _ => rfl⟩
theorem FrS.tr {mi la lo : Nat} {S S1 S2 : St} (h : FrS mi la lo S S1) (g : FrS mi la lo S1 S2) : FrS mi la lo S S2 := by
  obtain ⟨a1, a2, a3, a4, a5, a6⟩ := h
  obtain ⟨b1, b2, b3, b4, b5, b6⟩ := g
  exact ⟨fun a => (b1 a).trans (a1 a), fun f a e1 e2 e3 e4 e5 => (b2 f a e1 e2 e3 e4 e5).trans (a2 f a e1 e2 e3 e4 e5), fun f a e => (b3 f a e).trans (a3 f a e), fun a => (b4 a).trans (a4 a), fun a e1 e2 e3 => (b5 a e1 e2 e3).trans (a5 a e1 e2 e3), fun a => (b6 a).trans (a6 a)⟩
theorem FrS.trT {mi la lo t pl : Nat} {S : St} {x : Tr} : FrS mi la lo S (sTrT S t pl x) := by
  refine ⟨fun _ => rfl, fun f a e1 e2 e3 e4 e5 => ?_, fun f a e => ?_, fun _ => rfl, fun _ _ _ _ => rfl, fun _ => rfl⟩
  · simp only [sTrT, sTr, gI_sI, gI_sP]; simp [e1, e2, e3, e4]
  · simp only [sTrT, sTr, gP_sI, gP_sP]; simp [e]
theorem FrS.mn {mi la lo t : Nat} {S : St} {x : Int32} : FrS mi la lo S (sI S 643 t x) := by
  refine ⟨fun _ => rfl, fun f a e1 e2 e3 e4 e5 => ?_, fun f a e => rfl, fun _ => rfl, fun _ _ _ _ => rfl, fun _ => rfl⟩
  rw [gI_sI, if_neg (fun z => e2 z.1)]
theorem FrS.lt {mi la lo t : Nat} {S : St} {x : Int32} : FrS mi la lo S (sI S 517 t x) := by
  refine ⟨fun _ => rfl, fun f a e1 e2 e3 e4 e5 => ?_, fun f a e => rfl, fun _ => rfl, fun _ _ _ _ => rfl, fun _ => rfl⟩
  rw [gI_sI, if_neg (fun z => e5 z.1)]
theorem FrS.ar {mi la lo b : Nat} {S : St} {g : Nat → Int32} (h : b = mi ∨ b = la ∨ b = lo) : FrS mi la lo S (sRI S b g) := by
  refine ⟨fun _ => rfl, fun f a e1 e2 e3 e4 e5 => rfl, fun f a e => rfl, fun _ => rfl, fun a e1 e2 e3 => ?_, fun _ => rfl⟩
  rw [rI_sRI, if_neg]
  rintro rfl
  rcases h with h | h | h <;> contradiction
theorem Rt.fr {mi la lo : Nat} {S S' : St} (hF : FrS mi la lo S S') {r q n : Nat} {f : Nat → Nat} (h : Rt S r q n f) : Rt S' r q n f := by
  obtain ⟨h1, h2, h3, h4, h5, h6, h7⟩ := h
  obtain ⟨a1, a2, a3, a4, a5, a6⟩ := hF
  exact ⟨(a1 _).trans h1, (a3 _ _ (by decide)).trans h2, (a1 _).trans h3, (a4 _).trans h4, (a2 _ _ (by decide) (by decide) (by decide) (by decide) (by decide)).trans h5, h6, fun i hi => ⟨(congrFun (a6 _) _).trans (h7 i hi).1, (a1 _).trans (h7 i hi).2⟩⟩
/-- a parcel's data in the cells -/
def Pd (S : St) (p : Nat) (d : Pda) : Prop := kd S p = 5 ∧ (∃ hm pl, gP S 260 p = some hm ∧ kd S hm = 3 ∧ gP S 128 hm = some pl ∧ kd S pl = 6 ∧ gI S 320 pl = d.1 ∧ gI S 321 pl = d.2.1) ∧ gI S 261 p = d.2.2.1 ∧ gI S 262 p = d.2.2.2.1 ∧ gI S 257 p = d.2.2.2.2.1 ∧ gI S 258 p = d.2.2.2.2.2
theorem Pd.fr {mi la lo : Nat} {S S' : St} (hF : FrS mi la lo S S') {p : Nat} {d : Pda} (h : Pd S p d) : Pd S' p d := by
  obtain ⟨h1, ⟨hm, pl, g1, g2, g3, g4, g5, g6⟩, h3, h4, h5, h6⟩ := h
  obtain ⟨a1, a2, a3, a4, a5, a6⟩ := hF
  have z := fun f a (e : f ≠ 642 ∧ f ≠ 643 ∧ f ≠ 644 ∧ f ≠ 645 ∧ f ≠ 517) => a2 f a e.1 e.2.1 e.2.2.1 e.2.2.2.1 e.2.2.2.2
  exact ⟨(a1 _).trans h1, ⟨hm, pl, (a3 _ _ (by decide)).trans g1, (a1 _).trans g2, (a3 _ _ (by decide)).trans g3, (a1 _).trans g4, (z _ _ (by decide)).trans g5, (z _ _ (by decide)).trans g6⟩, (z _ _ (by decide)).trans h3, (z _ _ (by decide)).trans h4, (z _ _ (by decide)).trans h5, (z _ _ (by decide)).trans h6⟩
/-- the schedule's objects: town, trip, the three rows; the town's roads and depot -/
def Sc (S : St) (sc tn tr mi la lo sl dp : Nat) : Prop := kd S sc = 9 ∧ gP S 512 sc = some tn ∧ gP S 513 sc = some tr ∧ gP S 514 sc = some mi ∧ gP S 515 sc = some la ∧ gP S 516 sc = some lo ∧ kd S tn = 10 ∧ kd S tr = 11 ∧ (kd S mi = 21 ∧ ln S mi = 12) ∧ (kd S la = 21 ∧ ln S la = 12) ∧ (kd S lo = 21 ∧ ln S lo = 12) ∧ (mi ≠ la ∧ mi ≠ lo ∧ la ≠ lo) ∧ gP S 640 tr = some tn ∧ gP S 576 tn = some sl ∧ (kd S sl = 21 ∧ ln S sl = 24) ∧ (sl ≠ mi ∧ sl ≠ la ∧ sl ≠ lo) ∧ gP S 577 tn = some dp ∧ kd S dp = 6
theorem Sc.fr {S S' : St} {sc tn tr mi la lo sl dp : Nat} (hF : FrS mi la lo S S') (h : Sc S sc tn tr mi la lo sl dp) : Sc S' sc tn tr mi la lo sl dp := by
  obtain ⟨h1, h2, h3, h4, h5, h6, h7, h8, h9, h10, h11, h12, h13, h14, h15, h16, h17, h18⟩ := h
  obtain ⟨a1, a2, a3, a4, a5, a6⟩ := hF
  exact ⟨(a1 _).trans h1, (a3 _ _ (by decide)).trans h2, (a3 _ _ (by decide)).trans h3, (a3 _ _ (by decide)).trans h4, (a3 _ _ (by decide)).trans h5, (a3 _ _ (by decide)).trans h6, (a1 _).trans h7, (a1 _).trans h8, ⟨(a1 _).trans h9.1, (a4 _).trans h9.2⟩, ⟨(a1 _).trans h10.1, (a4 _).trans h10.2⟩, ⟨(a1 _).trans h11.1, (a4 _).trans h11.2⟩, h12, (a3 _ _ (by decide)).trans h13, (a3 _ _ (by decide)).trans h14, ⟨(a1 _).trans h15.1, (a4 _).trans h15.2⟩, h16, (a3 _ _ (by decide)).trans h17, (a1 _).trans h18⟩
theorem hr_toInt {t : Int32} (h0 : 0 ≤ t.toInt) : (hr t).toInt = t.toInt / 60 % 24 := by
  obtain ⟨j, hj, rfl⟩ := nI_of (x := t) (by rw [Int32.lt_iff_toInt_lt]; simpa using h0)
  have e1 : nI j / 60 = nI (j / 60) := pk_div (d := 60) hj (by decide) (by decide)
  have e2 : hr (nI j) = nI (j / 60 % 24) := by
    unfold hr
    rw [e1]
    exact pk_rem (a := j / 60) (d := 24) (by omega) (by decide) (by decide)
  rw [e2, nI_toInt (by omega), nI_toInt hj]
  omega
theorem hr_in {t : Int32} {n : Nat} (h0 : 0 ≤ t.toInt) (hn : n = 24) : vp_in (hr t) n := by
  subst hn
  rw [vp_in_iff, hr_toInt h0]
  omega
theorem okT.h1 {t : Int32} (h : okT t) {n : Nat} (hn : n = 24) : vp_in (hr t) n := hr_in h.1 hn
theorem okT.h2 {t : Int32} (h : okT t) {n : Nat} (hn : n = 24) : vp_in (hr (t + 30)) n := by
  refine hr_in ?_ hn
  obtain ⟨a, b⟩ := h
  have e : (30 : Int32).toInt = 30 := by decide
  rw [Int32.toInt_add, e, Int.bmod_eq_of_le (by omega) (by omega)]
  omega
