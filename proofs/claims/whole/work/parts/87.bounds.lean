/-! COSTS ARE SMALL -/
theorem three_i {a : Int32} (h1 : -600000000 ≤ a.toInt) (h2 : a.toInt ≤ 600000000) : (3 * a).toInt = 3 * a.toInt := by
  have e : (3 : Int32).toInt = 3 := by decide
  rw [Int32.toInt_mul, e, Int.bmod_eq_of_le (by omega) (by omega)]
theorem two_i {a : Int32} (h1 : -600000000 ≤ a.toInt) (h2 : a.toInt ≤ 600000000) : (2 * a).toInt = 2 * a.toInt := by
  have e : (2 : Int32).toInt = 2 := by decide
  rw [Int32.toInt_mul, e, Int.bmod_eq_of_le (by omega) (by omega)]
theorem isN_add {a b : Int32} {x y : Int} (ha : isN a x) (hb : isN b y) (h : x + y ≤ 2000000000) : isN (a + b) (x + y) := by
  obtain ⟨h1, h2⟩ := ha
  obtain ⟨h3, h4⟩ := hb
  unfold isN
  rw [add_i (by omega) (by omega)]
  omega
theorem isN.up {a : Int32} {x y : Int} (h : isN a x) (hxy : x ≤ y) : isN a y := ⟨h.1, by have := h.2; omega⟩
theorem goB_go {sl : Nat → Int32} {t : Tr} {gx gy : Int32} {b g : Int} (hs : ∀ i, i < 24 → isN (sl i) 30) (h : trOk t b) (hb : b ≤ 900000) (hx : isN gx 60) (hy : isN gy 60) (hg : isN t.2.2.2.2.1 g) (hg2 : g ≤ 1000000) : isN (goB sl t gx gy).2.2.2.2.1 (g + 360) := by
  have e30 : (30 : Int32).toInt = 30 := by decide
  obtain ⟨h1, h2, h3, h4⟩ := h
  unfold goB
  split
  · exact isN_add hg (isN_mins hs (isN_dist h1 h2 hx hy) h3) (by omega)
  · refine isN_add hg (isN_mins hs (isN_dist h1 h2 hx hy) ?_) (by omega)
    show 0 ≤ (t.2.2.2.1 + 30).toInt
    rw [add_i (by omega) (by omega)]; omega
theorem wk_cost {sl : Nat → Int32} {D : Nat → Pda} {t0 : Tr} (hs : ∀ i, i < 24 → isN (sl i) 30) (h0 : trOk t0 1439) (hg0 : t0.2.2.2.2.1 = 0) {n : Nat} (hD : ∀ i, i < n → pdOk (D i)) (hn : n ≤ 13) : ∀ i, i ≤ n → isN (wk sl D t0 i).1.2.2.2.2.1 (360 * i) ∧ isN (wk sl D t0 i).2 (7000 * i) := by
  intro i
  induction i with
  | zero =>
    intro _
    show isN t0.2.2.2.2.1 _ ∧ isN 0 _
    rw [hg0]
    exact ⟨⟨by decide, by decide⟩, ⟨by decide, by decide⟩⟩
  | succ i ih =>
    intro hi
    obtain ⟨g1, g2⟩ := ih (by omega)
    have ht := wk_ok (D := D) (t0 := t0) hs h0 hD hn i (by omega)
    have hd := hD i (by omega)
    have hw := nowW_ok hs ht (by omega) (by omega) hd
    constructor
    · have := goB_go hs ht (by omega) hd.1 hd.2.1 g1 (by omega)
      exact this.up (by omega)
    · have hl : isN (lateW sl (D i) (wk sl D t0 i).1) 7000 := by
        unfold lateW
        split
        · exact ⟨by decide, by decide⟩
        · rename_i hc
          have h1 := hd.2.2.2
          have hc := Int32.lt_iff_toInt_lt.mp (Int32.not_le.mp hc)
          obtain ⟨w1, w2⟩ := hw
          obtain ⟨h1, h2⟩ := h1
          unfold isN
          rw [sub_i (by omega) (by omega)]
          omega
      exact (isN_add g2 hl (by omega)).up (by omega)
theorem costM_ok {α : Ab} (h : AIr α) {v n : Nat} {L : Nat → Nat} (hv : v < 4) (hn : n ≤ 13) (hL : ∀ i, i < n → L i < 30) : isN (costM α v n L) 400000 := by
  obtain ⟨r1, r2, r3, r4, r5, r6⟩ := id h
  have hD : ∀ i, i < n → pdOk (pdat α (L i)) := fun i hi => h.pd (hL i hi)
  have h0 : trOk (t00 (α 898 0) (α 899 0) (α 911 v)) 1439 := ⟨r2, r3, (r5 v hv).1⟩
  obtain ⟨g1, g2⟩ := wk_cost (D := fun i => pdat α (L i)) (t0 := t00 (α 898 0) (α 899 0) (α 911 v)) r1 h0 rfl hD hn n (Nat.le_refl n)
  have ht := wk_ok (D := fun i => pdat α (L i)) r1 h0 hD hn n (Nat.le_refl n)
  have g3 := goB_go r1 ht (by omega) r2 r3 g1 (by omega)
  have g4 := (goB_ok r1 ht (by omega) r2 r3).2.2
  have g5 : isN (overW (α 912 v) (finW (α 897) (fun i => pdat α (L i)) (α 898 0) (α 899 0) (α 911 v) n)) 7000 := by
    unfold overW
    split
    · exact ⟨by decide, by decide⟩
    · rename_i hc
      have hc := Int32.lt_iff_toInt_lt.mp (Int32.not_le.mp hc)
      obtain ⟨w1, w2⟩ := g4
      obtain ⟨h1, h2⟩ := (r5 v hv).2
      unfold isN
      have e : (finW (α 897) (fun i => pdat α (L i)) (α 898 0) (α 899 0) (α 911 v) n).2.2.2.1 = (goB (α 897) (wk (α 897) (fun i => pdat α (L i)) (t00 (α 898 0) (α 899 0) (α 911 v)) n).1 (α 898 0) (α 899 0)).2.2.2.1 := rfl
      rw [e] at hc ⊢
      rw [sub_i (by omega) (by omega)]
      omega
  have g3' : isN (finW (α 897) (fun i => pdat α (L i)) (α 898 0) (α 899 0) (α 911 v) n).2.2.2.2.1 5040 := g3.up (by omega)
  have g2' : isN (wk (α 897) (fun i => pdat α (L i)) (t00 (α 898 0) (α 899 0) (α 911 v)) n).2 91000 := g2.up (by omega)
  unfold costM costW
  generalize (finW (α 897) (fun i => pdat α (L i)) (α 898 0) (α 899 0) (α 911 v) n).2.2.2.2.1 = X at *
  generalize (wk (α 897) (fun i => pdat α (L i)) (t00 (α 898 0) (α 899 0) (α 911 v)) n).2 = Y at *
  generalize overW (α 912 v) (finW (α 897) (fun i => pdat α (L i)) (α 898 0) (α 899 0) (α 911 v) n) = Z at *
  obtain ⟨x1, x2⟩ := g3'
  obtain ⟨y1, y2⟩ := g2'
  obtain ⟨z1, z2⟩ := g5
  have e3 := three_i (a := Y) (by omega) (by omega)
  have e2 := two_i (a := Z) (by omega) (by omega)
  have e5 : (X + 3 * Y).toInt = X.toInt + 3 * Y.toInt := by rw [add_i (by omega) (by omega), e3]
  unfold isN
  rw [add_i (by omega) (by omega), e5, e2]
  omega
theorem diff_lt {a b : Int32} (ha : isN a 400000) (hb : isN b 400000) : a - b < 1000000 ∧ ¬ a - b = 1000000 ∧ (a - b).toInt = a.toInt - b.toInt := by
  obtain ⟨a1, a2⟩ := ha
  obtain ⟨b1, b2⟩ := hb
  have e : (a - b).toInt = a.toInt - b.toInt := sub_i (by omega) (by omega)
  have em : (1000000 : Int32).toInt = 1000000 := by decide
  refine ⟨?_, fun z => ?_, e⟩
  · rw [Int32.lt_iff_toInt_lt, e, em]; omega
  · have := congrArg Int32.toInt z
    rw [e, em] at this; omega
/-! THE CHOICE AGAINST THE REFERENCE'S SCANS -/
def kx : Cho → Int32 | none => 1000000 | some c => c.1
def sel (b : Int32 × Int32) (q : Nat) (o : Cho) : Cho := if b.1 < kx o then some (b.1, q, b.2) else o
theorem wgh_if {o : Cho} {x sp : Int32} {q : Nat} (hx : x < 1000000) : wgh o x q sp = if x < kx o then some (x, q, sp) else o := by
  cases o with
  | none => exact (if_pos hx).symm
  | some c =>
    unfold wgh kx
    by_cases h : c.1 ≤ x
    · simp only [if_pos h, if_neg (Int32.not_lt.mpr h)]
    · simp only [if_neg h, if_pos (Int32.not_le.mp h)]
theorem kx_sel {b : Int32 × Int32} {q : Nat} {o : Cho} : kx (sel b q o) = if b.1 < kx o then b.1 else kx o := by
  unfold sel
  split <;> rfl
theorem sub_0 (a : Int32) : a - 0 = a := by simp
theorem bV_le (α : Ab) (q v : Nat) (b : Int32 × Int32) (hb : b.1 ≤ 1000000) : ∀ k, (bV α q v b k).1 ≤ 1000000
  | 0 => hb
  | k + 1 => by
    unfold bV
    split
    · rename_i h; exact Int32.le_of_lt (Int32.lt_of_lt_of_le h (bV_le α q v b hb k))
    · exact bV_le α q v b hb k
theorem bA_le (α : Ab) (q : Nat) : ∀ v, (bA α q v).1 ≤ 1000000
  | 0 => Int32.le_refl _
  | v + 1 => bV_le α q v _ (bA_le α q v) _
/-- weighing a van's places, and all vans' -/
def wgA (α : Ab) (q : Nat) (o : Cho) : Nat → Cho
  | 0 => o
  | t + 1 => wK α q t (mny α t) (rwf α t) 0 (wgA α q o t) (mny α t + 1)
theorem wK_bV {α : Ab} (hA : AI1 α) {q t : Nat} (hq : q < 30) (ht : t < 4) {b : Int32 × Int32} (hb : b.1 ≤ 1000000) (o : Cho) : ∀ k, k ≤ mny α t + 1 → wK α q t (mny α t) (rwf α t) 0 (sel b q o) k = sel (bV α q t b k) q o := by
  intro k
  induction k with
  | zero => exact fun _ => rfl
  | succ k ih =>
    intro hk
    have ih := ih (by omega)
    have m12 := hA.m12 ht
    unfold wK bV
    rw [ih]
    by_cases hf : fitsM α t (mny α t + 1) (insL (rwf α t) k q)
    · have em : mv α q t k = costM α t (mny α t + 1) (insL (rwf α t) k q) - costM α t (mny α t) (rwf α t) - 0 := by unfold mv; rw [if_pos hf, sub_0]; rfl
      have hlt : mv α q t k < 1000000 := by
        rw [em, sub_0]
        exact (diff_lt (costM_ok hA.1 ht (by omega) (insL30 hA ht (by omega) hq)) (costM_ok hA.1 ht (by omega) (fun i hi => hA.rw30 ht hi))).1
      rw [if_pos hf, ← em, wgh_if hlt, kx_sel]
      generalize mv α q t k = x at *
      generalize bV α q t b k = B at *
      by_cases h1 : x < B.1
      · rw [if_pos h1]
        by_cases h2 : B.1 < kx o
        · rw [if_pos h2, if_pos h1]
          unfold sel
          rw [if_pos (Int32.lt_trans h1 h2)]
        · rw [if_neg h2]
          by_cases h3 : x < kx o
          · rw [if_pos h3]; unfold sel; rw [if_pos h3]
          · rw [if_neg h3]; unfold sel; rw [if_neg h3, if_neg h2]
      · rw [if_neg h1]
        by_cases h2 : B.1 < kx o
        · rw [if_pos h2, if_neg h1]
        · rw [if_neg h2, if_neg (fun h3 => h1 (Int32.lt_of_lt_of_le h3 (Int32.not_lt.mp h2)))]
    · have em : mv α q t k = 1000000 := by unfold mv; rw [if_neg hf]
      rw [if_neg hf, em, if_neg (Int32.not_lt.mpr (bV_le α q t b hb k))]
theorem wgA_bA {α : Ab} (hA : AI1 α) {q : Nat} (hq : q < 30) {o : Cho} (ho : kx o ≤ 1000000) : ∀ t, t ≤ nV α → wgA α q o t = sel (bA α q t) q o := by
  intro t
  induction t with
  | zero =>
    intro _
    unfold wgA bA sel
    rw [if_neg (Int32.not_lt.mpr ho)]
  | succ t ih =>
    intro ht
    unfold wgA
    rw [ih (by omega)]
    exact wK_bV hA hq (hA.v4 (show t < nV α by omega)) (bA_le α q t) o _ (Nat.le_refl _)
/-- a turn's scan over the parcels -/
def scS (α : Ab) : Nat → Cho
  | 0 => none
  | q + 1 => if Loose α q then wgA α q (scS α q) (nV α) else scS α q
theorem scS_pS {α : Ab} (hA : AI1 α) : ∀ n, n ≤ nP α → (scS α n = none ∧ pS α n = (1000000, -1, -1)) ∨ ∃ x q sp, scS α n = some (x, q, sp) ∧ pS α n = (x, nI q, sp) ∧ x < 1000000 ∧ q < n := by
  intro n
  induction n with
  | zero => exact fun _ => Or.inl ⟨rfl, rfl⟩
  | succ n ih =>
    intro hn
    have ih := ih (by omega)
    have hkx : kx (scS α n) = (pS α n).1 ∧ kx (scS α n) ≤ 1000000 := by
      rcases ih with ⟨e1, e2⟩ | ⟨x, q, sp, e1, e2, e3, -⟩
      · rw [e1, e2]; exact ⟨rfl, Int32.le_refl _⟩
      · rw [e1, e2]; exact ⟨rfl, Int32.le_of_lt e3⟩
    by_cases c : Loose α n
    · have es : scS α (n + 1) = sel (bst α n) n (scS α n) := by
        show (if Loose α n then wgA α n (scS α n) (nV α) else scS α n) = _
        rw [if_pos c]
        exact wgA_bA hA (hA.p30 (show n < nP α by omega)) hkx.2 _ (Nat.le_refl _)
      by_cases c2 : (bst α n).1 < (pS α n).1
      · have hlt : (bst α n).1 < 1000000 := Int32.lt_of_lt_of_le c2 (hkx.1 ▸ hkx.2)
        have hne : ¬ (bst α n).2 = -1 := by
          rcases bst_at α n with z | ⟨v, k, z1, z2, z3, z4⟩
          · rw [z] at hlt; exact absurd hlt (by decide)
          · rw [z3]; exact nI_nm1 (by have := hA.v4 z1; have := hA.m12 (hA.v4 z1); omega)
        refine Or.inr ⟨(bst α n).1, n, (bst α n).2, ?_, if_pos ⟨c, hne, c2⟩, hlt, by omega⟩
        rw [es]; unfold sel; rw [hkx.1, if_pos c2]
      · have ep : pS α (n + 1) = pS α n := if_neg (fun z => c2 z.2.2)
        rw [es, ep]
        unfold sel
        rw [hkx.1, if_neg c2]
        rcases ih with z | ⟨x, q, sp, a, b, c, d⟩
        · exact Or.inl z
        · exact Or.inr ⟨x, q, sp, a, b, c, by omega⟩
    · have es : scS α (n + 1) = scS α n := if_neg c
      have ep : pS α (n + 1) = pS α n := if_neg (fun z => c z.1)
      rw [es, ep]
      rcases ih with z | ⟨x, q, sp, a, b, c, d⟩
      · exact Or.inl z
      · exact Or.inr ⟨x, q, sp, a, b, c, by omega⟩
