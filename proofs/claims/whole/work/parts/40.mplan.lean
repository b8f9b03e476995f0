section MPL1
variable {l : Launch} {w : Wd} {S : St} {m0 s0 ah : Nat} {A : Nat → Nat}
theorem c_cheapest {α : Ab} {ia : Int32} (h : MR S m0 s0 ah A α) (hA : AI1 α) : ConI l yX13_cheapest (wsOf yX13_cheapest cX13_cheapest 2 (some .int)) rX13_cheapest w S [.ref m0, .int ia] (PM m0 s0 ah A (opCheapest α ia)) := by
  refine con_I (by decide +kernel) rfl (Nat.le_of_ble_eq_true rfl) (fun p e s m args below meth c B => ?_)
  have h1 : MR (sI S 896 m0 0) m0 s0 ah A (au α 896 0 0) := h.setS (F := 896) (by decide) 0
  have f1 : FrM α (au α 896 0 0) := FrM.th
  have hA1 := hA.congr f1
  refine bX13_cheapest_0 B h.1.1 (c_isParcel h1 hA1.2.1) (fun r S' hq => ?_)
  obtain ⟨rfl, hq⟩ := hq
  rw [nP_congr f1] at hq
  unfold opCheapest
  rcases hq with ⟨rfl, ha⟩ | ⟨rfl, ha⟩
  rotate_left
  · rw [if_neg ha]
    exact bX13_cheapest_10 B (fun z => absurd rfl z) (fun _ => bX13_cheapest_13 B (c_no h1) h1.1.1 (fun r S' hq => bX13_cheapest_18 B (hq.back f1)))
  rw [if_pos ha]
  obtain ⟨q, hq, rfl⟩ := ha.nI
  have q30 := hA.p30 hq
  rw [cl_nI (by omega)]
  refine bX13_cheapest_10 B (fun _ => ?_) (fun z => absurd z ne1)
  refine bX13_cheapest_19 B (c_isFree h1 hA1 q30) h1.1.1 (fun r S' hq1 => ?_)
  obtain ⟨rfl, hq1⟩ := hq1
  rw [Loose_congr f1] at hq1
  rcases hq1 with ⟨rfl, hL⟩ | ⟨rfl, hL⟩
  rotate_left
  · rw [if_neg hL]
    exact bX13_cheapest_24 B (fun _ => bX13_cheapest_35 B (bX13_cheapest_36 B (PM.rf h1 au_same f1 rfl))) (fun z => absurd rfl z)
  rw [if_pos hL]
  refine bX13_cheapest_24 B (fun z => absurd z ne1) (fun _ => bX13_cheapest_27 B (c_best h1 hA1 q30) h1.1.1 (fun r S2 hq2 => ?_))
  obtain ⟨e1, β, e2, e3, e4⟩ := hq2
  exact bX13_cheapest_32 B (bX13_cheapest_36 B (PM.rf e2 (e3.2.trans au_same) (f1.tr e3.1) (by rw [e1, bst_congr f1])))
end MPL1
/-- the scan of a turn of planning: the least, the parcel, the place -/
def pS (α : Ab) : Nat → Int32 × Int32 × Int32
  | 0 => (1000000, -1, -1)
  | q + 1 => if Loose α q ∧ ¬ (bst α q).2 = -1 ∧ (bst α q).1 < (pS α q).1 then ((bst α q).1, nI q, (bst α q).2) else pS α q
theorem pS_congr {α β : Ab} (f : FrM α β) (n : Nat) : pS β n = pS α n := by
  induction n with
  | zero => rfl
  | succ n ih =>
    unfold pS
    rw [ih, bst_congr f]
    by_cases c : Loose α n ∧ ¬ (bst α n).2 = -1 ∧ (bst α n).1 < (pS α n).1
    · rw [if_pos c, if_pos ⟨(Loose_congr f n).mpr c.1, c.2⟩]
    · rw [if_neg c, if_neg (fun z => c ⟨(Loose_congr f n).mp z.1, z.2⟩)]
theorem bV_at (α : Ab) (q v : Nat) (b : Int32 × Int32) : ∀ n, bV α q v b n = b ∨ ∃ k, k < n ∧ bV α q v b n = (mv α q v k, nI (16 * v + k)) ∧ mv α q v k < b.1 := by
  intro n
  induction n with
  | zero => exact Or.inl rfl
  | succ n ih =>
    by_cases c : mv α q v n < (bV α q v b n).1
    · have e : bV α q v b (n + 1) = (mv α q v n, nI (16 * v + n)) := if_pos c
      refine Or.inr ⟨n, by omega, e, ?_⟩
      rcases ih with i1 | ⟨k, i1, i2, i3⟩
      · rw [i1] at c; exact c
      · rw [i2] at c; exact Int32.lt_trans c i3
    · have e : bV α q v b (n + 1) = bV α q v b n := if_neg c
      rw [e]
      rcases ih with i1 | ⟨k, i1, i2, i3⟩
      · exact Or.inl i1
      · exact Or.inr ⟨k, by omega, i2, i3⟩
theorem bA_at (α : Ab) (q : Nat) : ∀ n, bA α q n = (1000000, -1) ∨ ∃ v k, v < n ∧ k ≤ mny α v ∧ bA α q n = (mv α q v k, nI (16 * v + k)) ∧ mv α q v k < 1000000 := by
  intro n
  induction n with
  | zero => exact Or.inl rfl
  | succ n ih =>
    show bV α q n (bA α q n) (mny α n + 1) = _ ∨ _
    have e : bA α q (n + 1) = bV α q n (bA α q n) (mny α n + 1) := rfl
    rcases bV_at α q n (bA α q n) (mny α n + 1) with c | ⟨k, c1, c2, c3⟩
    · rw [c, e, c]
      rcases ih with i1 | ⟨v, k, i1, i2⟩
      · exact Or.inl i1
      · exact Or.inr ⟨v, k, by omega, i2⟩
    · rw [e, c2]
      refine Or.inr ⟨n, k, by omega, by omega, rfl, ?_⟩
      rcases ih with i1 | ⟨v, k', i1, i2, i3, i4⟩
      · rw [i1] at c3; exact c3
      · rw [i3] at c3; exact Int32.lt_trans c3 i4
theorem bst_at (α : Ab) (q : Nat) : bst α q = (1000000, -1) ∨ ∃ v k, v < nV α ∧ k ≤ mny α v ∧ bst α q = (mv α q v k, nI (16 * v + k)) ∧ mv α q v k < 1000000 := bA_at α q (nV α)
theorem pS_at (α : Ab) : ∀ n, pS α n = (1000000, -1, -1) ∨ ∃ q v k, q < n ∧ v < nV α ∧ k ≤ mny α v ∧ pS α n = (mv α q v k, nI q, nI (16 * v + k)) ∧ mv α q v k < 1000000 ∧ Loose α q := by
  intro n
  induction n with
  | zero => exact Or.inl rfl
  | succ n ih =>
    by_cases c : Loose α n ∧ ¬ (bst α n).2 = -1 ∧ (bst α n).1 < (pS α n).1
    · have e : pS α (n + 1) = ((bst α n).1, nI n, (bst α n).2) := if_pos c
      rcases bst_at α n with b | ⟨v, k, b1, b2, b3, b4⟩
      · exact absurd (by rw [b]) c.2.1
      · exact Or.inr ⟨n, v, k, by omega, b1, b2, by rw [e, b3], b4, c.1⟩
    · have e : pS α (n + 1) = pS α n := if_neg c
      rw [e]
      rcases ih with i1 | ⟨q, v, k, i1, i2⟩
      · exact Or.inl i1
      · exact Or.inr ⟨q, v, k, by omega, i2⟩
/-- a turn: the parcel that was found is put in -/
def plS (α : Ab) : Ab := putA α (cl (pS α (nP α)).2.1) (cl (pS α (nP α)).2.2 / 16) (cl (pS α (nP α)).2.2 % 16)
def plA (α : Ab) : Nat → Int32 × Ab
  | 0 => (0, α)
  | n + 1 => if (pS α (nP α)).2.1 = -1 then (0, α) else ((plA (plS α) n).1 + 1, (plA (plS α) n).2)
def lcN (α : Ab) : Nat → Nat
  | 0 => 0
  | q + 1 => lcN α q + if Loose α q then 1 else 0
theorem lcN_le (α : Ab) (n : Nat) : lcN α n ≤ n := by
  induction n with
  | zero => exact Nat.le_refl _
  | succ n ih => unfold lcN; split <;> omega
theorem lcN_mono {α β : Ab} (h : ∀ q, Loose β q → Loose α q) (n : Nat) : lcN β n ≤ lcN α n := by
  induction n with
  | zero => exact Nat.le_refl _
  | succ n ih =>
    unfold lcN
    by_cases c : Loose β n
    · rw [if_pos c, if_pos (h n c)]; omega
    · rw [if_neg c]; split <;> omega
theorem lcN_lt {α β : Ab} (h : ∀ q, Loose β q → Loose α q) {n q : Nat} (hq : q < n) (h1 : Loose α q) (h2 : ¬ Loose β q) : lcN β n < lcN α n := by
  induction n with
  | zero => exact absurd hq (by omega)
  | succ n ih =>
    unfold lcN
    by_cases c : q = n
    · subst c; rw [if_neg h2, if_pos h1]; have := lcN_mono h q; omega
    · have := ih (by omega)
      by_cases c2 : Loose β n
      · rw [if_pos c2, if_pos (h n c2)]; omega
      · rw [if_neg c2]; split <;> omega
/-- who is on a route behind a putting in -/
theorem On_putA {α : Ab} (hA : AI1 α) {q v k : Nat} (hv : v < nV α) (hk : k ≤ mny α v) (hq : q < 30) (hn : mny α v + 1 ≤ 12) (x : Nat) : On (putA α q v k) x ↔ x = q ∨ On α x := by
  have v4 := hA.v4 hv
  have hL30 := insL30 hA v4 hk hq
  constructor
  · rintro ⟨v', i, o1, o2, o3⟩
    unfold putA at o1 o2 o3
    rw [nV_setRow] at o1
    rw [mny_setRow hn] at o2
    by_cases c : v' = v
    · subst c
      rw [if_pos rfl] at o2
      rw [rwf_setRow hn (by omega) (fun _ => o2) hL30, if_pos rfl] at o3
      rcases insL_mem (L := rwf α v') (q := q) hk o2 with e | ⟨j, hj, e⟩
      · exact Or.inl (o3.symm.trans e)
      · exact Or.inr ⟨v', j, hv, hj, e.symm.trans o3⟩
    · rw [if_neg c] at o2
      rw [rwf_setRow hn (by have := hA.m12 (hA.v4 o1); omega) (fun z => absurd z c) hL30, if_neg c] at o3
      exact Or.inr ⟨v', i, o1, o2, o3⟩
  · intro h
    have main : ∀ i, i < mny α v + 1 → insL (rwf α v) k q i = x → On (putA α q v k) x := by
      intro i hi e
      refine ⟨v, i, by unfold putA; rw [nV_setRow]; exact hv, by unfold putA; rw [mny_setRow hn, if_pos rfl]; exact hi, ?_⟩
      unfold putA
      rw [rwf_setRow hn (by omega) (fun _ => hi) hL30, if_pos rfl]
      exact e
    rcases h with h | ⟨v', i, o1, o2, o3⟩
    · exact main k (by omega) (by rw [insL_eq]; exact h.symm)
    · by_cases c : v' = v
      · subst c
        rcases Nat.lt_or_ge i k with d | d
        · exact main i (by omega) (by rw [insL_lt d]; exact o3)
        · exact main (i + 1) (by omega) (by rw [insL_gt (by omega)]; exact o3)
      · refine ⟨v', i, by unfold putA; rw [nV_setRow]; exact o1, by unfold putA; rw [mny_setRow hn, if_neg c]; exact o2, ?_⟩
        unfold putA
        rw [rwf_setRow hn (by have := hA.m12 (hA.v4 o1); omega) (fun z => absurd z c) hL30, if_neg c]
        exact o3
theorem vof_iff {α : Ab} (hA : AI1 α) (q : Nat) : vof α q = -1 ↔ ¬ On α q := by
  rcases vof_cases hA q with ⟨v, i, o, e1, e2⟩ | ⟨o, e⟩
  · exact ⟨fun z => absurd z e2, fun z => absurd ⟨v, i, o⟩ z⟩
  · exact ⟨fun _ => o, fun _ => e⟩
