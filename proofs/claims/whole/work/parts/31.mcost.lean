theorem i32_0sub (d : Int32) : (0 : Int32) - d = -d := by simp
theorem i32_add0 (d : Int32) : d + 0 = d := by simp
theorem absd0 (d : Int32) : (if 0 ≤ d then d else 0 - d) = absd d := by unfold absd; rw [i32_0sub]
theorem max_eq {a b : Int32} : (if a < b then b else a) = (if b ≤ a then a else b) := by
  by_cases h : a < b
  · rw [if_pos h, if_neg (Int32.not_le.mpr h)]
  · rw [if_neg h, if_pos (Int32.not_lt.mp h)]
theorem sub_ok {a b : Int32} (ha : okT a) (hb : okT b) : (a - b).toInt = a.toInt - b.toInt := by
  obtain ⟨h1, h2⟩ := ha
  obtain ⟨h3, h4⟩ := hb
  rw [Int32.toInt_sub, Int.bmod_eq_of_le (by omega) (by omega)]
theorem pos_sub {a b : Int32} (ha : okT a) (hb : okT b) : (if 0 < a - b then a - b else 0) = (if a ≤ b then 0 else a - b) := by
  have e := sub_ok ha hb
  by_cases h : a ≤ b
  · rw [if_pos h, if_neg]
    rw [Int32.lt_iff_toInt_lt, e]
    have := Int32.le_iff_toInt_le.mp h
    have e0 : (0 : Int32).toInt = 0 := by decide
    omega
  · rw [if_neg h, if_pos]
    rw [Int32.lt_iff_toInt_lt, e]
    have h := Int32.lt_iff_toInt_lt.mp (Int32.not_le.mp h)
    have e0 : (0 : Int32).toInt = 0 := by decide
    omega
section MC
variable {l : Launch} {w : Wd} {S : St}
theorem c_mapart {a b c d : Int32} : ConI l yX13_apart (wsOf yX13_apart cX13_apart 4 (some .int)) rX13_apart w S [.int a, .int b, .int c, .int d] (fun r S' => S = S' ∧ r = dist a b c d) := by
  refine con_I (by decide +kernel) rfl (Nat.le_of_ble_eq_true rfl) (fun p e s m args below meth c B => ?_)
  exact bX13_apart_0 B ⟨rfl, by rw [absd0, absd0]; rfl⟩
theorem c_mminutes {m s ah : Nat} {A : Nat → Nat} {α : Ab} {d t : Int32} (h : MR S m s ah A α) (ht : vp_in (hr t) 24) : ConI l yX13_minutes (wsOf yX13_minutes cX13_minutes 3 (some .int)) rX13_minutes w S [.ref m, .int d, .int t] (fun r S' => S = S' ∧ r = mins (α 897) d t) := by
  refine con_I (by decide +kernel) rfl (Nat.le_of_ble_eq_true rfl) (fun p e s m args below meth c B => ?_)
  obtain ⟨a1, a2, a3, a4⟩ := h.ar 897 (by decide)
  exact bX13_minutes_0 B h.1.1 a1 a2 (by rw [a3]; exact ht) ⟨rfl, by rw [a4]; rfl⟩
end MC
/-- what a parcel is, out of the numbers -/
def pdat (α : Ab) (p : Nat) : Pda := (α 901 (α 916 p).toNatClampNeg, α 902 (α 916 p).toNatClampNeg, α 917 p, α 918 p, α 914 p, α 915 p)
/-- a row of numbers of parcels that are there -/
def Pok (α : Ab) (p : Nat) : Prop := p < 30 ∧ ∃ h, h < 16 ∧ α 916 p = nI h
def Line (α : Ab) (n : Nat) (L : Nat → Nat) : Prop := α 922 0 = nI n ∧ n ≤ 13 ∧ ∀ i, i < n → α 921 i = nI (L i) ∧ Pok α (L i)
def scrC (F : Nat) : Bool := F == 923 || F == 924 || F == 925 || F == 926 || F == 927 || F == 928 || F == 929 || F == 930
/-- the times of a route are small -/
def Tok (sl : Nat → Int32) (D : Nat → Pda) (t0 : Tr) (dx dy : Int32) (n : Nat) : Prop := (∀ i, i ≤ n → okT (wk sl D t0 i).1.2.2.2.1) ∧ (∀ i, i < n → okT (nowW sl (D i) (wk sl D t0 i).1) ∧ okT (D i).2.2.2.1) ∧ okT (goB sl (wk sl D t0 n).1 dx dy).2.2.2.1
/-- the reference's line, gone through up to i -/
def CI (α0 α : Ab) (D : Nat → Pda) (t0 : Tr) (l0 : Int32) (i : Nat) : Prop :=
  (∀ F, scrC F = false → α F = α0 F) ∧ α 926 0 = (wk (α0 897) D t0 i).1.2.2.2.2.1 ∧ α 927 0 = (wk (α0 897) D t0 i).2 ∧ α 929 0 = (wk (α0 897) D t0 i).1.2.2.2.2.2 ∧ α 930 0 = glk (kD D) (vD D) l0 i ∧
  ∀ j, j < i → α 923 j = nowW (α0 897) (D j) (wk (α0 897) D t0 j).1 ∧ α 924 j = lateW (α0 897) (D j) (wk (α0 897) D t0 j).1 ∧ α 925 j = ldk (kD D) (vD D) l0 (j + 1)
section LM
variable {p : Program} {l : Launch} {e : Env} {s : State} {m : MethodId} {args : Array Value} {below : List Frame} {meth : Method} {c : Code} {w : Wd} {S : St}
variable {m0 s0 ah : Nat} {A : Nat → Nat}
theorem l_mload (B : Bd p s m args meth c cX13_cost 14 (wsOf yX13_cost cX13_cost 14 (some .int)) RX13 w (some .int) "cost") {Q : State → Prop} {α : Ab} {n : Nat} {L : Nat → Nat} {v x2 x3 x4 x5 : Int32} (h : MR S m0 s0 ah A α) (hL : Line α n L)
    (hx : K p l e rX13_cost s m args below meth c 14 w 0 0 Q S 79 [(0, .ref m0), (1, .int v), (2, .int x2), (3, .int x3), (4, .int x4), (5, .int x5), (6, .int (ld0 (fun i => α 914 (L i)) (fun i => α 915 (L i)) n))] []) :
    ∀ d i, i + d = n → K p l e rX13_cost s m args below meth c 14 w 0 0 Q S 27 [(0, .ref m0), (1, .int v), (2, .int x2), (3, .int x3), (4, .int x4), (5, .int x5), (6, .int (ld0 (fun i => α 914 (L i)) (fun i => α 915 (L i)) i)), (7, .int (nI i))] [] := by
  have hlen : gI S 922 m0 = nI n := (h.sc 922 (by decide)).trans hL.1
  intro d
  induction d with
  | zero =>
    intro i hi
    refine bX13_cost_27 B h.1.1 (fun _ => ?_) (fun c => absurd (by rw [hlen, show n = i by omega]; exact Int32.le_refl _) c)
    rw [show i = n by omega]
    exact hx
  | succ d ih =>
    intro i hi
    have hin : i < n := by omega
    have hn := hL.2.1
    obtain ⟨e1, e2, -⟩ := hL.2.2 i hin
    obtain ⟨a1, a2, a3, a4⟩ := h.ar 921 (by decide)
    obtain ⟨b1, b2, b3, b4⟩ := h.ar 914 (by decide)
    obtain ⟨c1, c2, c3, c4⟩ := h.ar 915 (by decide)
    have ei : (nI i).toNatClampNeg = i := nI_clamp (by omega)
    have g1 : rI S (A 921) (nI i).toNatClampNeg = nI (L i) := by rw [a4, ei]; exact e1
    have eL : (nI (L i)).toNatClampNeg = L i := nI_clamp (by omega)
    have v1 : vp_in (nI i) (ln S (A 921)) := by rw [a3]; exact vp_in_nI (show i < 13 by omega) (by decide)
    refine bX13_cost_27 B h.1.1 (fun c => absurd c (by rw [hlen]; exact nI_ge hin (by omega))) (fun _ => ?_)
    refine bX13_cost_36 B h.1.1 b1 a1 a2 v1 b2 (by rw [g1, b3]; exact vp_in_nI e2 (by decide)) (fun c => ?_) (fun c => ?_)
    · rw [g1, eL, b4] at c
      refine bX13_cost_58 B h.1.1 c1 a1 a2 v1 c2 (by rw [g1, c3]; exact vp_in_nI e2 (by decide)) (bX13_cost_70 B ?_)
      rw [g1, eL, c4, nI_1]
      have go := ih (i + 1) (by omega)
      rw [show ld0 (fun i => α 914 (L i)) (fun i => α 915 (L i)) (i + 1) = ld0 (fun i => α 914 (L i)) (fun i => α 915 (L i)) i + α 915 (L i) from if_neg c] at go
      exact go
    · rw [g1, eL, b4] at c
      refine bX13_cost_54 B (bX13_cost_70 B ?_)
      rw [nI_1, i32_add0]
      have go := ih (i + 1) (by omega)
      rw [show ld0 (fun i => α 914 (L i)) (fun i => α 915 (L i)) (i + 1) = ld0 (fun i => α 914 (L i)) (fun i => α 915 (L i)) i from if_pos c] at go
      exact go
/-- one way, with a break ahead of it or not -/
theorem l_mleg (B : Bd p s m args meth c cX13_cost 14 (wsOf yX13_cost cX13_cost 14 (some .int)) RX13 w (some .int) "cost") {Q : State → Prop} {α : Ab} {t : Tr} {v x6 x7 x8 gx gy : Int32} (h : MR S m0 s0 ah A α) (hb : α 929 0 = t.2.2.2.2.2) (ht : okT t.2.2.2.1)
    (hx : ∀ (S' : St) (α' : Ab) (base now way : Int32), MR S' m0 s0 ah A α' → (∀ F, F ≠ 929 → α' F = α F) → goB (α 897) t gx gy = (gx, gy, base, now + way, t.2.2.2.2.1 + way, α' 929 0) → K p l e rX13_cost s m args below meth c 14 w 0 0 Q S' 235 [(0, .ref m0), (1, .int v), (2, .int now), (3, .int base), (6, .int x6), (7, .int x7), (8, .int x8), (9, .int gx), (10, .int gy)] [.int way]) :
    K p l e rX13_cost s m args below meth c 14 w 0 0 Q S 181 [(0, .ref m0), (1, .int v), (2, .int t.2.2.2.1), (3, .int t.2.2.1), (4, .int t.1), (5, .int t.2.1), (6, .int x6), (7, .int x7), (8, .int x8), (9, .int gx)] [.int gy] := by
  refine bX13_cost_181 B c_mapart (fun r S' hq => ?_)
  obtain ⟨rfl, rfl⟩ := hq
  refine bX13_cost_194 B (c_mminutes h (ht.h1 rfl)) h.1.1 (fun r S' hq => ?_)
  obtain ⟨rfl, rfl⟩ := hq
  refine bX13_cost_206 B (fun c => ?_) (fun c => ?_)
  · refine bX13_cost_228 B (c_mminutes h (ht.h1 rfl)) h.1.1 (fun r S' hq => ?_)
    obtain ⟨rfl, rfl⟩ := hq
    refine hx _ α _ _ _ h (fun _ _ => rfl) ?_
    rw [show goB (α 897) t gx gy = goS (α 897) t gx gy from if_pos c, hb]
    rfl
  · have h' : MR (sI S 929 m0 (gI S 929 m0 + 1)) m0 s0 ah A (au α 929 0 (gI S 929 m0 + 1)) := h.setS (F := 929) (by decide) _
    have e9 : gI S 929 m0 = t.2.2.2.2.2 := (h.sc 929 (by decide)).trans hb
    refine bX13_cost_213 B h.1.1 (bX13_cost_228 B (c_mminutes h' (ht.h2 rfl)) h'.1.1 (fun r S' hq => ?_))
    obtain ⟨rfl, rfl⟩ := hq
    refine hx _ _ _ _ _ h' (fun F hF => au_neF hF) ?_
    rw [show goB (α 897) t gx gy = goS (α 897) (brk t) gx gy from if_neg c, au_neF (F' := 897) (by decide), au_same, e9]
    rfl
end LM
