/-! WHO IS WHERE: counts, routes as rows of parcels' numbers, each parcel at one place at most -/
def nH (α : Ab) : Nat := (α 900 0).toNatClampNeg
def nL (α : Ab) : Nat := (α 906 0).toNatClampNeg
def nV (α : Ab) : Nat := (α 909 0).toNatClampNeg
def nP (α : Ab) : Nat := (α 913 0).toNatClampNeg
def mny (α : Ab) (v : Nat) : Nat := (α 840 v).toNatClampNeg
def rwf (α : Ab) (v i : Nat) : Nat := (α 841 (12 * v + i)).toNatClampNeg
def AIc (α : Ab) : Prop := (α 900 0 = nI (nH α) ∧ nH α ≤ 16) ∧ (α 906 0 = nI (nL α) ∧ nL α ≤ 4) ∧ (α 909 0 = nI (nV α) ∧ nV α ≤ 4) ∧ (α 913 0 = nI (nP α) ∧ nP α ≤ 30)
def AIv (α : Ab) : Prop := (∀ v, v < 4 → α 840 v = nI (mny α v) ∧ mny α v ≤ 12) ∧ (∀ v, nV α ≤ v → v < 4 → mny α v = 0) ∧ (∀ v i, v < 4 → i < mny α v → α 841 (12 * v + i) = nI (rwf α v i) ∧ rwf α v i < nP α) ∧
  (∀ v v' i i', v < 4 → v' < 4 → i < mny α v → i' < mny α v' → rwf α v i = rwf α v' i' → v = v' ∧ i = i')
theorem AIc.congr {α β : Ab} (h : FrM α β) (g : AIc α) : AIc β := by
  unfold AIc nH nL nV nP at g ⊢
  rw [h 900 rfl, h 906 rfl, h 909 rfl, h 913 rfl]; exact g
theorem nV_congr {α β : Ab} (h : FrM α β) : nV β = nV α := by unfold nV; rw [h 909 rfl]
theorem nP_congr {α β : Ab} (h : FrM α β) : nP β = nP α := by unfold nP; rw [h 913 rfl]
theorem nH_congr {α β : Ab} (h : FrM α β) : nH β = nH α := by unfold nH; rw [h 900 rfl]
theorem nL_congr {α β : Ab} (h : FrM α β) : nL β = nL α := by unfold nL; rw [h 906 rfl]
theorem mny_congr {α β : Ab} (h : FrM α β) (v : Nat) : mny β v = mny α v := by unfold mny; rw [h 840 rfl]
theorem rwf_congr {α β : Ab} (h : FrM α β) (v i : Nat) : rwf β v i = rwf α v i := by unfold rwf; rw [h 841 rfl]
theorem AIv.congr {α β : Ab} (h : FrM α β) (g : AIv α) : AIv β := by
  unfold AIv at g ⊢
  simp only [mny_congr h, rwf_congr h, nV_congr h, nP_congr h, h 840 rfl, h 841 rfl]
  exact g
theorem AIr.congr {α β : Ab} (h : FrM α β) (g : AIr α) : AIr β := by
  unfold AIr at g ⊢
  rw [h 897 rfl, h 898 rfl, h 899 rfl, h 901 rfl, h 902 rfl, h 911 rfl, h 912 rfl, h 916 rfl, h 917 rfl, h 918 rfl]; exact g
def AI1 (α : Ab) : Prop := AIr α ∧ AIc α ∧ AIv α
theorem AI1.congr {α β : Ab} (h : FrM α β) (g : AI1 α) : AI1 β := ⟨g.1.congr h, g.2.1.congr h, g.2.2.congr h⟩
theorem AI1.v4 {α : Ab} (h : AI1 α) {v : Nat} (hv : v < nV α) : v < 4 := by have := h.2.1.2.2.1.2; omega
theorem AI1.p30 {α : Ab} (h : AI1 α) {q : Nat} (hq : q < nP α) : q < 30 := by have := h.2.1.2.2.2.2; omega
theorem AI1.rw30 {α : Ab} (h : AI1 α) {v i : Nat} (hv : v < 4) (hi : i < mny α v) : rwf α v i < 30 := h.p30 (h.2.2.2.2.1 v i hv hi).2
theorem AI1.m12 {α : Ab} (h : AI1 α) {v : Nat} (hv : v < 4) : mny α v ≤ 12 := (h.2.2.1 v hv).2
theorem AI1.rv {α : Ab} (h : AI1 α) {v : Nat} (hv : v < 4) : RV α v (mny α v) (rwf α v) :=
  ⟨hv, (h.2.2.1 v hv).1, h.m12 hv, fun i hi => ⟨(h.2.2.2.2.1 v i hv hi).1, h.1.pok (h.rw30 hv hi)⟩⟩
/-- the cost of a van's route -/
def rc (α : Ab) (v : Nat) : Int32 := costM α v (mny α v) (rwf α v)
theorem rc_congr {α β : Ab} (h : FrM α β) (v : Nat) : rc β v = rc α v := by
  unfold rc
  rw [mny_congr h, show rwf β v = rwf α v from funext fun i => rwf_congr h v i, costM_congr h]
/-- a parcel is on a route -/
def OnAt (α : Ab) (q v i : Nat) : Prop := v < nV α ∧ i < mny α v ∧ rwf α v i = q
def On (α : Ab) (q : Nat) : Prop := ∃ v i, OnAt α q v i
theorem OnAt_congr {α β : Ab} (h : FrM α β) (q v i : Nat) : OnAt β q v i ↔ OnAt α q v i := by
  unfold OnAt; rw [nV_congr h, mny_congr h, rwf_congr h]
theorem On_congr {α β : Ab} (h : FrM α β) (q : Nat) : On β q ↔ On α q := by
  unfold On; simp only [OnAt_congr h]
theorem AI1.on_uniq {α : Ab} (h : AI1 α) {q v v' i i' : Nat} (a : OnAt α q v i) (b : OnAt α q v' i') : v = v' ∧ i = i' :=
  h.2.2.2.2.2 v v' i i' (h.v4 a.1) (h.v4 b.1) a.2.1 b.2.1 (a.2.2.trans b.2.2.symm)
section MV
variable {l : Launch} {w : Wd} {S : St} {m0 s0 ah : Nat} {A : Nat → Nat}
theorem c_isIn {a b c : Int32} : ConI l yX13_isIn (wsOf yX13_isIn cX13_isIn 3 (some .boolean)) rX13_isIn w S [.int a, .int b, .int c] (fun r S' => S = S' ∧ (r = 1 ∧ b ≤ a ∧ a ≤ c ∨ r = 0 ∧ ¬ (b ≤ a ∧ a ≤ c))) := by
  refine con_I (by decide +kernel) rfl (Nat.le_of_ble_eq_true rfl) (fun p e s m args below meth c B => ?_)
  refine bX13_isIn_0 B (fun c1 => ?_) (fun c1 => ?_)
  · exact bX13_isIn_14 B (bX13_isIn_15 B (Or.inl rfl) ⟨rfl, Or.inr ⟨rfl, fun z => Int32.not_le.mpr c1 z.1⟩⟩)
  · refine bX13_isIn_5 B (fun c2 => ?_) (fun c2 => ?_)
    · exact bX13_isIn_14 B (bX13_isIn_15 B (Or.inl rfl) ⟨rfl, Or.inr ⟨rfl, fun z => Int32.not_le.mpr c2 z.2⟩⟩)
    · exact bX13_isIn_10 B (bX13_isIn_15 B (Or.inr rfl) ⟨rfl, Or.inl ⟨rfl, Int32.not_lt.mp c1, Int32.not_lt.mp c2⟩⟩)
/-- an index: from 0 to below n -/
theorem ix_iff {a : Int32} {n : Nat} (hn : n < 1000) : (0 ≤ a ∧ a ≤ nI n - 1) ↔ (0 ≤ a.toInt ∧ a.toInt < n) := by
  have e0 : (0 : Int32).toInt = 0 := by decide
  have e1 : (1 : Int32).toInt = 1 := by decide
  have e : (nI n - 1).toInt = n - 1 := by
    rw [sub_i (by rw [nI_toInt (by omega), e1]; omega) (by rw [nI_toInt (by omega), e1]; omega), nI_toInt (by omega), e1]
  rw [Int32.le_iff_toInt_le, Int32.le_iff_toInt_le, e, e0]
  omega
abbrev isIx (a : Int32) (n : Nat) : Prop := 0 ≤ a.toInt ∧ a.toInt < n
theorem isIx.nI {a : Int32} {n : Nat} (h : isIx a n) : ∃ k, k < n ∧ a = nI k := by
  obtain ⟨e, hb⟩ := (show isN a (n - 1) from ⟨h.1, by have := h.2; omega⟩).nI
  exact ⟨_, by omega, e⟩
theorem c_isVan {α : Ab} {a : Int32} (h : MR S m0 s0 ah A α) (hc : AIc α) : ConI l yX13_isVan (wsOf yX13_isVan cX13_isVan 2 (some .boolean)) rX13_isVan w S [.ref m0, .int a] (fun r S' => S = S' ∧ (r = 1 ∧ isIx a (nV α) ∨ r = 0 ∧ ¬ isIx a (nV α))) := by
  refine con_I (by decide +kernel) rfl (Nat.le_of_ble_eq_true rfl) (fun p e s m args below meth c B => ?_)
  refine bX13_isVan_0 B h.1.1 c_isIn (fun r S' hq => ?_)
  obtain ⟨rfl, hq⟩ := hq
  have e : gI S 909 m0 = nI (nV α) := (h.sc 909 (by decide)).trans hc.2.2.1.1
  rw [e, ix_iff (by have := hc.2.2.1.2; omega)] at hq
  refine bX13_isVan_11 B (hq.elim (fun z => Or.inr z.1) (fun z => Or.inl z.1)) ⟨rfl, hq⟩
theorem c_isParcel {α : Ab} {a : Int32} (h : MR S m0 s0 ah A α) (hc : AIc α) : ConI l yX13_isParcel (wsOf yX13_isParcel cX13_isParcel 2 (some .boolean)) rX13_isParcel w S [.ref m0, .int a] (fun r S' => S = S' ∧ (r = 1 ∧ isIx a (nP α) ∨ r = 0 ∧ ¬ isIx a (nP α))) := by
  refine con_I (by decide +kernel) rfl (Nat.le_of_ble_eq_true rfl) (fun p e s m args below meth c B => ?_)
  refine bX13_isParcel_0 B h.1.1 c_isIn (fun r S' hq => ?_)
  obtain ⟨rfl, hq⟩ := hq
  have e : gI S 913 m0 = nI (nP α) := (h.sc 913 (by decide)).trans hc.2.2.2.1
  rw [e, ix_iff (by have := hc.2.2.2.2; omega)] at hq
  refine bX13_isParcel_11 B (hq.elim (fun z => Or.inr z.1) (fun z => Or.inl z.1)) ⟨rfl, hq⟩
theorem c_isLocker {α : Ab} {a : Int32} (h : MR S m0 s0 ah A α) (hc : AIc α) : ConI l yX13_isLocker (wsOf yX13_isLocker cX13_isLocker 2 (some .boolean)) rX13_isLocker w S [.ref m0, .int a] (fun r S' => S = S' ∧ (r = 1 ∧ isIx a (nL α) ∨ r = 0 ∧ ¬ isIx a (nL α))) := by
  refine con_I (by decide +kernel) rfl (Nat.le_of_ble_eq_true rfl) (fun p e s m args below meth c B => ?_)
  refine bX13_isLocker_0 B h.1.1 c_isIn (fun r S' hq => ?_)
  obtain ⟨rfl, hq⟩ := hq
  have e : gI S 906 m0 = nI (nL α) := (h.sc 906 (by decide)).trans hc.2.1.1
  rw [e, ix_iff (by have := hc.2.1.2; omega)] at hq
  refine bX13_isLocker_11 B (hq.elim (fun z => Or.inr z.1) (fun z => Or.inl z.1)) ⟨rfl, hq⟩
theorem c_isHomeNumber {α : Ab} {a : Int32} (h : MR S m0 s0 ah A α) (hc : AIc α) : ConI l yX13_isHomeNumber (wsOf yX13_isHomeNumber cX13_isHomeNumber 2 (some .boolean)) rX13_isHomeNumber w S [.ref m0, .int a] (fun r S' => S = S' ∧ (r = 1 ∧ isIx a (nH α) ∨ r = 0 ∧ ¬ isIx a (nH α))) := by
  refine con_I (by decide +kernel) rfl (Nat.le_of_ble_eq_true rfl) (fun p e s m args below meth c B => ?_)
  refine bX13_isHomeNumber_0 B h.1.1 c_isIn (fun r S' hq => ?_)
  obtain ⟨rfl, hq⟩ := hq
  have e : gI S 900 m0 = nI (nH α) := (h.sc 900 (by decide)).trans hc.1.1
  rw [e, ix_iff (by have := hc.1.2; omega)] at hq
  refine bX13_isHomeNumber_11 B (hq.elim (fun z => Or.inr z.1) (fun z => Or.inl z.1)) ⟨rfl, hq⟩
end MV
section MV2
variable {p : Program} {l : Launch} {e : Env} {s : State} {m : MethodId} {args : Array Value} {below : List Frame} {meth : Method} {c : Code} {w : Wd} {S : St}
theorem l_vanOfIn (B : Bd p s m args meth c cX12_vanOf 4 (wsOf yX12_vanOf cX12_vanOf 4 (some .int)) RX12 w (some .int) "vanOf") {Q : State → Prop} {α : Ab} {m0 s0 ah q v : Nat} {A : Nat → Nat} (h : MR S m0 s0 ah A α) (hA : AI1 α) (hq : q < 30) (hv : v < nV α)
    (hx : ∀ i, OnAt α q v i → K p l e rX12_vanOf s m args below meth c 4 w 0 0 Q S 40 [(2, .int (nI v))] []) (hn : (∀ i, i < mny α v → rwf α v i ≠ q) → K p l e rX12_vanOf s m args below meth c 4 w 0 0 Q S 48 [(0, .ref s0), (1, .int (nI q)), (2, .int (nI v))] []) :
    ∀ d i, i + d = mny α v → (∀ j, j < i → rwf α v j ≠ q) → K p l e rX12_vanOf s m args below meth c 4 w 0 0 Q S 15 [(0, .ref s0), (1, .int (nI q)), (2, .int (nI v)), (3, .int (nI i))] [] := by
  obtain ⟨⟨g1, g2, g3, g4, g5, g6, g7, g8⟩, -⟩ := id h
  obtain ⟨a1, a2, a3, a4⟩ := h.ar 840 (by decide)
  obtain ⟨b1, b2, b3, b4⟩ := h.ar 841 (by decide)
  have v4 := hA.v4 hv
  have m12 := hA.m12 v4
  have ev : (nI v).toNatClampNeg = v := nI_clamp (by omega)
  have em : rI S (A 840) (nI v).toNatClampNeg = nI (mny α v) := by rw [a4, ev]; exact (hA.2.2.1 v v4).1
  have hin : vp_in (nI v) (ln S (A 840)) := by rw [a3]; exact vp_in_nI v4 (by decide)
  intro d
  induction d with
  | zero =>
    intro i hi hj
    have hi : i = mny α v := by omega
    subst hi
    exact bX12_vanOf_15 B g2 a1 a2 hin (fun _ => hn hj) (fun c => absurd (by rw [em]; exact Int32.le_refl _) c)
  | succ d ih =>
    intro i hi hj
    have hil : i < mny α v := by omega
    have ei : ((12 : Int32) * nI v + nI i).toNatClampNeg = 12 * v + i := by rw [mul12, nI_add]; exact nI_clamp (by omega)
    obtain ⟨r1, r2⟩ := hA.2.2.2.2.1 v i v4 hil
    have er : rI S (A 841) ((12 : Int32) * nI v + nI i).toNatClampNeg = nI (rwf α v i) := by rw [ei, b4]; exact r1
    have r30 := hA.rw30 v4 hil
    refine bX12_vanOf_15 B g2 a1 a2 hin (fun c => absurd c (by rw [em]; exact nI_ge hil (by omega))) (fun _ => ?_)
    refine bX12_vanOf_25 B g2 b1 b2 (by rw [b3, mul12, nI_add]; exact vp_in_nI (show 12 * v + i < 48 by omega) (by decide)) (fun c => ?_) (fun c => ?_)
    · rw [er, nI_eq (by omega) (by omega)] at c
      refine bX12_vanOf_42 B ?_
      rw [nI_1]
      refine ih (i + 1) (by omega) (fun j hji => ?_)
      by_cases e : j = i
      · subst e; exact c
      · exact hj j (by omega)
    · rw [er, nI_eq (by omega) (by omega)] at c
      exact hx i ⟨hv, hil, c⟩
theorem l_vanOf (B : Bd p s m args meth c cX12_vanOf 4 (wsOf yX12_vanOf cX12_vanOf 4 (some .int)) RX12 w (some .int) "vanOf") {Q : State → Prop} {α : Ab} {m0 s0 ah q : Nat} {A : Nat → Nat} (h : MR S m0 s0 ah A α) (hA : AI1 α) (hq : q < 30)
    (hx : ∀ v i, OnAt α q v i → K p l e rX12_vanOf s m args below meth c 4 w 0 0 Q S 40 [(2, .int (nI v))] []) (hn : (¬ On α q) → K p l e rX12_vanOf s m args below meth c 4 w 0 0 Q S 54 [] []) :
    ∀ d v, v + d = nV α → (∀ v' i, v' < v → i < mny α v' → rwf α v' i ≠ q) → K p l e rX12_vanOf s m args below meth c 4 w 0 0 Q S 2 [(0, .ref s0), (1, .int (nI q)), (2, .int (nI v))] [] := by
  obtain ⟨⟨g1, g2, g3, g4, g5, g6, g7, g8⟩, -⟩ := id h
  have e9 : gI S 909 m0 = nI (nV α) := (h.sc 909 (by decide)).trans hA.2.1.2.2.1.1
  have n4 := hA.2.1.2.2.1.2
  intro d
  induction d with
  | zero =>
    intro v hv hj
    have hv : v = nV α := by omega
    subst hv
    exact bX12_vanOf_2 B g2 g7 g1 (fun _ => hn (fun ⟨v, i, o1, o2, o3⟩ => hj v i o1 o2 o3)) (fun c => absurd (by rw [e9]; exact Int32.le_refl _) c)
  | succ d ih =>
    intro v hv hj
    have hvl : v < nV α := by omega
    refine bX12_vanOf_2 B g2 g7 g1 (fun c => absurd c (by rw [e9]; exact nI_ge hvl (by omega))) (fun _ => bX12_vanOf_13 B ?_)
    refine l_vanOfIn B h hA hq hvl (fun i => hx v i) (fun hno => ?_) (mny α v) 0 (by omega) (fun j hj => absurd hj (by omega))
    refine bX12_vanOf_48 B ?_
    rw [nI_1]
    refine ih (v + 1) (by omega) (fun v' i hv' hi => ?_)
    by_cases e : v' = v
    · subst e; exact hno i hi
    · exact hj v' i (by omega) hi
end MV2
section MV3
variable {l : Launch} {w : Wd} {S : St} {m0 s0 ah : Nat} {A : Nat → Nat}
theorem c_vanOf {α : Ab} {q : Nat} (h : MR S m0 s0 ah A α) (hA : AI1 α) (hq : q < 30) : ConI l yX12_vanOf (wsOf yX12_vanOf cX12_vanOf 4 (some .int)) rX12_vanOf w S [.ref s0, .int (nI q)] (fun r S' => S = S' ∧ ((∃ v i, OnAt α q v i ∧ r = nI v) ∨ (¬ On α q) ∧ r = -1)) := by
  refine con_I (by decide +kernel) rfl (Nat.le_of_ble_eq_true rfl) (fun p e s m args below meth c B => ?_)
  exact bX12_vanOf_0 B (l_vanOf B h hA hq (fun v i o => bX12_vanOf_40 B ⟨rfl, Or.inl ⟨v, i, o, rfl⟩⟩) (fun o => bX12_vanOf_54 B ⟨rfl, Or.inr ⟨o, rfl⟩⟩) (nV α) 0 (by omega) (fun v' i hv' => absurd hv' (by omega)))
/-- the van of a parcel, -1: none -/
def vIn (α : Ab) (q v : Nat) : Nat → Bool
  | 0 => false
  | i + 1 => vIn α q v i || rwf α v i == q
theorem vIn_iff (α : Ab) (q v n : Nat) : vIn α q v n = true ↔ ∃ i, i < n ∧ rwf α v i = q := by
  induction n with
  | zero => exact ⟨fun z => (by cases z), fun ⟨i, hi, _⟩ => absurd hi (by omega)⟩
  | succ n ih =>
    unfold vIn
    rw [Bool.or_eq_true, ih, beq_iff_eq]
    constructor
    · rintro (⟨i, hi, e⟩ | e)
      · exact ⟨i, by omega, e⟩
      · exact ⟨n, by omega, e⟩
    · rintro ⟨i, hi, e⟩
      by_cases c : i = n
      · subst c; exact Or.inr e
      · exact Or.inl ⟨i, by omega, e⟩
def vofN (α : Ab) (q : Nat) : Nat → Int32
  | 0 => -1
  | v + 1 => if vIn α q v (mny α v) = true then nI v else vofN α q v
def vof (α : Ab) (q : Nat) : Int32 := vofN α q (nV α)
theorem vofN_off {α : Ab} {q n : Nat} (h : ∀ v i, v < n → i < mny α v → rwf α v i ≠ q) : vofN α q n = -1 := by
  induction n with
  | zero => rfl
  | succ n ih =>
    unfold vofN
    rw [if_neg (fun z => by obtain ⟨i, hi, e⟩ := (vIn_iff ..).mp z; exact h n i (by omega) hi e)]
    exact ih (fun v i hv hi => h v i (by omega) hi)
theorem vofN_on {α : Ab} {q n v i : Nat} (hv : v < n) (hi : i < mny α v) (e : rwf α v i = q) (hu : ∀ v', v' < n → v' ≠ v → ∀ i', i' < mny α v' → rwf α v' i' ≠ q) : vofN α q n = nI v := by
  induction n with
  | zero => exact absurd hv (by omega)
  | succ n ih =>
    unfold vofN
    by_cases c : v = n
    · subst c; rw [if_pos ((vIn_iff ..).mpr ⟨i, hi, e⟩)]
    · rw [if_neg (fun z => by obtain ⟨i', hi', e'⟩ := (vIn_iff ..).mp z; exact hu n (by omega) (fun z => c z.symm) i' hi' e')]
      exact ih (by omega) (fun v' hv' => hu v' (by omega))
theorem vof_on {α : Ab} (hA : AI1 α) {q v i : Nat} (h : OnAt α q v i) : vof α q = nI v :=
  vofN_on h.1 h.2.1 h.2.2 (fun v' hv' hne i' hi' e => hne (hA.on_uniq (show OnAt α q v' i' from ⟨hv', hi', e⟩) h).1)
theorem vof_off {α : Ab} {q : Nat} (h : ¬ On α q) : vof α q = -1 := vofN_off (fun v i hv hi e => h ⟨v, i, hv, hi, e⟩)
theorem nI_nm1 {v : Nat} (h : v < 1000) : ¬ nI v = -1 := by
  intro z
  have := congrArg Int32.toInt z
  rw [nI_toInt (by omega)] at this
  have e : (-1 : Int32).toInt = -1 := by decide
  omega
theorem vof_cases {α : Ab} (hA : AI1 α) (q : Nat) : (∃ v i, OnAt α q v i ∧ vof α q = nI v ∧ ¬ vof α q = -1) ∨ (¬ On α q) ∧ vof α q = -1 := by
  by_cases h : On α q
  · obtain ⟨v, i, o⟩ := h
    exact Or.inl ⟨v, i, o, vof_on hA o, by rw [vof_on hA o]; exact nI_nm1 (by have := hA.v4 o.1; omega)⟩
  · exact Or.inr ⟨h, vof_off h⟩
theorem vIn_congr {α β : Ab} (h : FrM α β) (q v n : Nat) : vIn β q v n = vIn α q v n := by
  induction n with
  | zero => rfl
  | succ n ih => unfold vIn; rw [ih, rwf_congr h]
theorem vofN_congr {α β : Ab} (h : FrM α β) (q n : Nat) : vofN β q n = vofN α q n := by
  induction n with
  | zero => rfl
  | succ n ih => unfold vofN; rw [ih, mny_congr h, vIn_congr h]
theorem vof_congr {α β : Ab} (h : FrM α β) (q : Nat) : vof β q = vof α q := by unfold vof; rw [nV_congr h, vofN_congr h]
theorem c_vof {α : Ab} {q : Nat} (h : MR S m0 s0 ah A α) (hA : AI1 α) (hq : q < 30) : ConI l yX12_vanOf (wsOf yX12_vanOf cX12_vanOf 4 (some .int)) rX12_vanOf w S [.ref s0, .int (nI q)] (fun r S' => S = S' ∧ r = vof α q) := by
  refine conI_mono (c_vanOf h hA hq) (fun r S' hq => ⟨hq.1, ?_⟩)
  rcases hq.2 with ⟨v, i, o, e⟩ | ⟨o, e⟩
  · rw [e, vof_on hA o]
  · rw [e, vof_off o]
/-- it waits, on no route -/
abbrev Loose (α : Ab) (q : Nat) : Prop := α 834 q = 0 ∧ vof α q = -1
theorem Loose_congr {α β : Ab} (h : FrM α β) (q : Nat) : Loose β q ↔ Loose α q := by
  unfold Loose; rw [vof_congr h, h 834 rfl]
theorem c_isFree {α : Ab} {q : Nat} (h : MR S m0 s0 ah A α) (hA : AI1 α) (hq : q < 30) : ConI l yX13_isFree (wsOf yX13_isFree cX13_isFree 2 (some .boolean)) rX13_isFree w S [.ref m0, .int (nI q)] (fun r S' => S = S' ∧ (r = 1 ∧ Loose α q ∨ r = 0 ∧ ¬ Loose α q)) := by
  refine con_I (by decide +kernel) rfl (Nat.le_of_ble_eq_true rfl) (fun p e s m args below meth c B => ?_)
  obtain ⟨⟨g1, g2, g3, g4, g5, g6, g7, g8⟩, -⟩ := id h
  obtain ⟨a1, a2, a3, a4⟩ := h.ar 834 (by decide)
  have eq : (nI q).toNatClampNeg = q := nI_clamp (by omega)
  have e1 : rI S (A 834) (nI q).toNatClampNeg = α 834 q := by rw [a4, eq]
  refine bX13_isFree_0 B g1 g5 g2 a1 a2 (by rw [a3]; exact vp_in_nI hq (by decide)) (fun c => ?_) (fun c => ?_)
  · rw [e1] at c
    exact bX13_isFree_28 B (bX13_isFree_29 B (Or.inl rfl) ⟨rfl, Or.inr ⟨rfl, fun z => c z.1⟩⟩)
  · rw [e1] at c
    refine bX13_isFree_12 B g1 g5 (c_vof h hA hq) g2 (fun r S' hq => ?_)
    obtain ⟨rfl, rfl⟩ := hq
    refine bX13_isFree_20 B (fun c2 => ?_) (fun c2 => ?_)
    · exact bX13_isFree_28 B (bX13_isFree_29 B (Or.inl rfl) ⟨rfl, Or.inr ⟨rfl, fun z => c2 z.2⟩⟩)
    · exact bX13_isFree_24 B (bX13_isFree_29 B (Or.inr rfl) ⟨rfl, Or.inl ⟨rfl, c, c2⟩⟩)
end MV3
