/-! TIMES: of a state whose numbers are in their ranges all times are small -/
def isN (x : Int32) (b : Int) : Prop := 0 ≤ x.toInt ∧ x.toInt ≤ b
theorem add_i {a b : Int32} (h1 : -2147483648 ≤ a.toInt + b.toInt) (h2 : a.toInt + b.toInt < 2147483648) : (a + b).toInt = a.toInt + b.toInt := by
  rw [Int32.toInt_add, Int.bmod_eq_of_le (by omega) (by omega)]
theorem sub_i {a b : Int32} (h1 : -2147483648 ≤ a.toInt - b.toInt) (h2 : a.toInt - b.toInt < 2147483648) : (a - b).toInt = a.toInt - b.toInt := by
  rw [Int32.toInt_sub, Int.bmod_eq_of_le (by omega) (by omega)]
theorem isN_absd {a b : Int32} (ha : isN a 60) (hb : isN b 60) : isN (absd (a - b)) 60 := by
  obtain ⟨a1, a2⟩ := ha
  obtain ⟨b1, b2⟩ := hb
  have e : (a - b).toInt = a.toInt - b.toInt := sub_i (by omega) (by omega)
  have e0 : (0 : Int32).toInt = 0 := by decide
  unfold absd
  by_cases h : 0 ≤ a - b
  · rw [if_pos h]
    have := Int32.le_iff_toInt_le.mp h
    exact ⟨by omega, by omega⟩
  · rw [if_neg h]
    have := Int32.lt_iff_toInt_lt.mp (Int32.not_le.mp h)
    have e2 : (-(a - b)).toInt = -(a - b).toInt := by
      rw [Int32.toInt_neg, Int.bmod_eq_of_le (by omega) (by omega)]
    unfold isN
    rw [e2]
    omega
theorem isN_dist {a b c d : Int32} (ha : isN a 60) (hb : isN b 60) (hc : isN c 60) (hd : isN d 60) : isN (dist a b c d) 120 := by
  obtain ⟨x1, x2⟩ := isN_absd ha hc
  obtain ⟨y1, y2⟩ := isN_absd hb hd
  unfold dist isN
  rw [add_i (by omega) (by omega)]
  omega
theorem isN_mins {sl : Nat → Int32} {d t : Int32} (hs : ∀ i, i < 24 → isN (sl i) 30) (hd : isN d 120) (ht : 0 ≤ t.toInt) : isN (mins sl d t) 360 := by
  have hh := hr_toInt ht
  have hc : (hr t).toNatClampNeg < 24 := by
    have : ((hr t).toNatClampNeg : Int) = (hr t).toInt.toNat := rfl
    omega
  obtain ⟨s1, s2⟩ := hs _ hc
  obtain ⟨d1, d2⟩ := hd
  have m1 : 0 ≤ d.toInt * (sl (hr t).toNatClampNeg).toInt := Int.mul_nonneg d1 s1
  have m2 : d.toInt * (sl (hr t).toNatClampNeg).toInt ≤ 120 * 30 := Int.mul_le_mul d2 s2 s1 (by omega)
  have e1 : (d * sl (hr t).toNatClampNeg).toInt = d.toInt * (sl (hr t).toNatClampNeg).toInt := by
    rw [Int32.toInt_mul, Int.bmod_eq_of_le (by omega) (by omega)]
  have e9 : (9 : Int32).toInt = 9 := by decide
  have e10 : (10 : Int32).toInt = 10 := by decide
  have e2 : (d * sl (hr t).toNatClampNeg + 9).toInt = d.toInt * (sl (hr t).toNatClampNeg).toInt + 9 := by
    rw [add_i (by omega) (by omega), e1, e9]
  unfold isN mins
  rw [Int32.toInt_div, e2, e10, Int.tdiv_eq_ediv_of_nonneg (by omega), Int.bmod_eq_of_le (by omega) (by omega)]
  omega
/-- a van's place and time: on the map, and not before 0, not behind b -/
def trOk (t : Tr) (b : Int) : Prop := isN t.1 60 ∧ isN t.2.1 60 ∧ isN t.2.2.2.1 b
theorem goS_ok {sl : Nat → Int32} {t : Tr} {gx gy : Int32} {b : Int} (hs : ∀ i, i < 24 → isN (sl i) 30) (h : trOk t b) (hb : b ≤ 1000000) (hx : isN gx 60) (hy : isN gy 60) : trOk (goS sl t gx gy) (b + 360) := by
  obtain ⟨h1, h2, h3, h4⟩ := h
  obtain ⟨m1, m2⟩ := isN_mins hs (isN_dist h1 h2 hx hy) h3
  refine ⟨hx, hy, ?_⟩
  unfold goS isN
  dsimp only
  rw [add_i (by omega) (by omega)]
  omega
theorem goB_ok {sl : Nat → Int32} {t : Tr} {gx gy : Int32} {b : Int} (hs : ∀ i, i < 24 → isN (sl i) 30) (h : trOk t b) (hb : b ≤ 900000) (hx : isN gx 60) (hy : isN gy 60) : trOk (goB sl t gx gy) (b + 390) := by
  have e30 : (30 : Int32).toInt = 30 := by decide
  unfold goB
  split
  · obtain ⟨h1, h2, h3⟩ := goS_ok hs h (by omega) hx hy
    exact ⟨h1, h2, h3.1, by have := h3.2; omega⟩
  · obtain ⟨h1, h2, h3, h4⟩ := h
    have hk : trOk (brk t) (b + 30) := ⟨h1, h2, by unfold brk isN; dsimp only; rw [add_i (by omega) (by omega)]; omega⟩
    obtain ⟨h1, h2, h3⟩ := goS_ok hs hk (by omega) hx hy
    exact ⟨h1, h2, h3.1, by have := h3.2; omega⟩
def pdOk (d : Pda) : Prop := isN d.1 60 ∧ isN d.2.1 60 ∧ isN d.2.2.1 1439 ∧ isN d.2.2.2.1 1439
theorem nowW_ok {sl : Nat → Int32} {t : Tr} {d : Pda} {b : Int} (hs : ∀ i, i < 24 → isN (sl i) 30) (h : trOk t b) (hb0 : 1439 ≤ b) (hb : b ≤ 900000) (hd : pdOk d) : isN (nowW sl d t) (b + 390) := by
  obtain ⟨-, -, h3⟩ := goB_ok hs h hb hd.1 hd.2.1
  unfold nowW
  split
  · exact h3
  · have := hd.2.2.1
    exact ⟨this.1, by have := this.2; omega⟩
theorem wk_ok {sl : Nat → Int32} {D : Nat → Pda} {t0 : Tr} (hs : ∀ i, i < 24 → isN (sl i) 30) (h0 : trOk t0 1439) {n : Nat} (hD : ∀ i, i < n → pdOk (D i)) (hn : n ≤ 13) : ∀ i, i ≤ n → trOk (wk sl D t0 i).1 (1439 + 394 * i) := by
  intro i
  induction i with
  | zero => intro _; exact h0
  | succ i ih =>
    intro hi
    have h := ih (by omega)
    obtain ⟨n1, n2⟩ := nowW_ok hs h (by omega) (by omega) (hD i (by omega))
    have e4 : (4 : Int32).toInt = 4 := by decide
    refine ⟨(hD i (by omega)).1, (hD i (by omega)).2.1, ?_⟩
    show isN (nowW sl (D i) (wk sl D t0 i).1 + 4) _
    unfold isN
    rw [add_i (by omega) (by omega), e4]
    omega
theorem isN.okT {x : Int32} {b : Int} (h : isN x b) (hb : b ≤ 1000000) : okT x := ⟨h.1, by have := h.2; omega⟩
theorem Tok_ok {sl : Nat → Int32} {D : Nat → Pda} {dx dy st : Int32} (hs : ∀ i, i < 24 → isN (sl i) 30) (hx : isN dx 60) (hy : isN dy 60) (hst : isN st 1439) {n : Nat} (hD : ∀ i, i < n → pdOk (D i)) (hn : n ≤ 13) : Tok sl D (t00 dx dy st) dx dy n := by
  have hw := wk_ok (D := D) (t0 := t00 dx dy st) hs ⟨hx, hy, hst⟩ hD hn
  refine ⟨fun i hi => (hw i hi).2.2.okT (by omega), fun i hi => ⟨(nowW_ok hs (hw i (by omega)) (by omega) (by omega) (hD i hi)).okT (by omega), (hD i hi).2.2.2.okT (by omega)⟩, ?_⟩
  exact (goB_ok hs (hw n (Nat.le_refl n)) (by omega) hx hy).2.2.okT (by omega)
/-- the numbers of a planner are in their ranges -/
def AIr (α : Ab) : Prop :=
  (∀ i, i < 24 → isN (α 897 i) 30) ∧ isN (α 898 0) 60 ∧ isN (α 899 0) 60 ∧ (∀ h, h < 16 → isN (α 901 h) 60 ∧ isN (α 902 h) 60) ∧
  (∀ v, v < 4 → isN (α 911 v) 1439 ∧ isN (α 912 v) 1439) ∧ (∀ q, q < 30 → isN (α 916 q) 15 ∧ isN (α 917 q) 1439 ∧ isN (α 918 q) 1439)
theorem isN.nI {x : Int32} {b : Int} (h : isN x b) : x = nI x.toNatClampNeg ∧ (x.toNatClampNeg : Int) ≤ b := by
  obtain ⟨h1, h2⟩ := h
  obtain ⟨j, hj, rfl⟩ := nI_of (x := x) (by rw [Int32.lt_iff_toInt_lt]; simpa using h1)
  rw [nI_toInt hj] at h2
  rw [nI_clamp hj]
  exact ⟨rfl, h2⟩
theorem AIr.pok {α : Ab} (h : AIr α) {q : Nat} (hq : q < 30) : Pok α q := by
  obtain ⟨e, hb⟩ := (h.2.2.2.2.2 q hq).1.nI
  exact ⟨hq, _, by omega, e⟩
theorem AIr.pd {α : Ab} (h : AIr α) {q : Nat} (hq : q < 30) : pdOk (pdat α q) := by
  obtain ⟨h1, h2, h3, h4, h5, h6⟩ := h
  obtain ⟨e, hb⟩ := (h6 q hq).1.nI
  have := h4 (α 916 q).toNatClampNeg (by omega)
  exact ⟨this.1, this.2, (h6 q hq).2.1, (h6 q hq).2.2⟩
theorem AIr.tok {α : Ab} (h : AIr α) {v n : Nat} {L : Nat → Nat} (hv : v < 4) (hn : n ≤ 13) (hL : ∀ i, i < n → L i < 30) : TokM α v n L :=
  ⟨Tok_ok h.1 h.2.1 h.2.2.1 (h.2.2.2.2.1 v hv).1 (fun i hi => h.pd (hL i hi)) hn, (h.2.2.2.2.1 v hv).2.okT (by omega)⟩
