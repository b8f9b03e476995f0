/-! MOVING -/
theorem On_takA {α : Ab} (hA : AI1 α) {q v i : Nat} (h : OnAt α q v i) (x : Nat) : On (takA α v i) x ↔ On α x ∧ x ≠ q := by
  obtain ⟨o1, o2, o3⟩ := id h
  have v4 := hA.v4 o1
  have m12 := hA.m12 v4
  have hn : mny α v - 1 ≤ 12 := by omega
  have hL30 : ∀ j, j < mny α v - 1 → remF (rwf α v) i j < 30 := fun j hj => by
    obtain ⟨y, hy, -, e⟩ := remF_mem (f := rwf α v) (k := i) hj
    rw [e]; exact hA.rw30 v4 hy
  constructor
  · rintro ⟨v', j, p1, p2, p3⟩
    unfold takA at p1 p2 p3
    rw [nV_setRow] at p1
    rw [mny_setRow hn] at p2
    by_cases c : v' = v
    · subst c
      rw [if_pos rfl] at p2
      rw [rwf_setRow hn (by omega) (fun _ => p2) hL30, if_pos rfl] at p3
      obtain ⟨y, hy, hne, e⟩ := remF_mem (f := rwf α v') (k := i) p2
      have hx : OnAt α x v' y := ⟨o1, hy, e.symm.trans p3⟩
      exact ⟨⟨v', y, hx⟩, fun z => hne (hA.on_uniq (z ▸ hx) h).2⟩
    · rw [if_neg c] at p2
      rw [rwf_setRow hn (by have := hA.m12 (hA.v4 p1); omega) (fun z => absurd z c) hL30, if_neg c] at p3
      have hx : OnAt α x v' j := ⟨p1, p2, p3⟩
      exact ⟨⟨v', j, hx⟩, fun z => c (hA.on_uniq (z ▸ hx) h).1⟩
  · rintro ⟨⟨v', j, p1, p2, p3⟩, hne⟩
    by_cases c : v' = v
    · subst c
      have hji : j ≠ i := fun z => hne (by rw [← p3, z, o3])
      rcases Nat.lt_or_ge j i with d | d
      · refine ⟨v', j, by unfold takA; rw [nV_setRow]; exact o1, by unfold takA; rw [mny_setRow hn, if_pos rfl]; omega, ?_⟩
        unfold takA
        rw [rwf_setRow hn (by omega) (fun _ => by omega) hL30, if_pos rfl, remF_lt d]; exact p3
      · refine ⟨v', j - 1, by unfold takA; rw [nV_setRow]; exact o1, by unfold takA; rw [mny_setRow hn, if_pos rfl]; omega, ?_⟩
        unfold takA
        rw [rwf_setRow hn (by omega) (fun _ => by omega) hL30, if_pos rfl, remF_ge (by omega), show j - 1 + 1 = j by omega]; exact p3
    · refine ⟨v', j, by unfold takA; rw [nV_setRow]; exact p1, by unfold takA; rw [mny_setRow hn, if_neg c]; exact p2, ?_⟩
      unfold takA
      rw [rwf_setRow hn (by have := hA.m12 (hA.v4 p1); omega) (fun z => absurd z c) hL30, if_neg c]; exact p3
def mvd (α : Ab) (q v i t k : Nat) : Int32 :=
  if t = v then
    if α 910 v < fullM α (mny α v) (insL (remF (rwf α v) i) k q) then -1 else rc α v - costM α v (mny α v) (insL (remF (rwf α v) i) k q)
  else if mv α q t k = 1000000 then -1 else rc α v - costM α v (mny α v - 1) (remF (rwf α v) i) - mv α q t k
def nPl (α : Ab) (v t : Nat) : Nat := if t = v then mny α t else mny α t + 1
def mvK (α : Ab) (q v i t : Nat) (b : Int32 × Int32 × Int32) : Nat → Int32 × Int32 × Int32
  | 0 => b
  | k + 1 => if (mvK α q v i t b k).1 < mvd α q v i t k then (mvd α q v i t k, nI q, nI (16 * t + k)) else mvK α q v i t b k
def mvT (α : Ab) (q v i : Nat) (b : Int32 × Int32 × Int32) : Nat → Int32 × Int32 × Int32
  | 0 => b
  | t + 1 => mvK α q v i t (mvT α q v i b t) (nPl α v t)
def mvQ (α : Ab) : Nat → Int32 × Int32 × Int32
  | 0 => (0, -1, -1)
  | q + 1 => if vof α q = -1 then mvQ α q else mvT α q (cl (vof α q)) (plc α q (cl (vof α q))) (mvQ α q) (nV α)
/-- a found move -/
def MvAt (α : Ab) (b : Int32 × Int32 × Int32) : Prop := ∃ q v i t k, q < nP α ∧ OnAt α q v i ∧ t < nV α ∧ k < nPl α v t ∧ b = (mvd α q v i t k, nI q, nI (16 * t + k)) ∧ 0 < mvd α q v i t k
def MvOk (α : Ab) (b : Int32 × Int32 × Int32) : Prop := b = (0, -1, -1) ∨ MvAt α b
theorem MvOk.pos {α : Ab} {b : Int32 × Int32 × Int32} (h : MvOk α b) : 0 ≤ b.1 := by
  rcases h with rfl | ⟨q, v, i, t, k, -, -, -, -, rfl, h⟩
  · exact Int32.le_refl _
  · exact Int32.le_of_lt h
theorem mvK_ok {α : Ab} {q v i t : Nat} (hq : q < nP α) (ho : OnAt α q v i) (ht : t < nV α) {b : Int32 × Int32 × Int32} (hb : MvOk α b) : ∀ k, k ≤ nPl α v t → MvOk α (mvK α q v i t b k) := by
  intro k
  induction k with
  | zero => exact fun _ => hb
  | succ k ih =>
    intro hk
    have h := ih (by omega)
    by_cases c : (mvK α q v i t b k).1 < mvd α q v i t k
    · have e : mvK α q v i t b (k + 1) = (mvd α q v i t k, nI q, nI (16 * t + k)) := if_pos c
      exact Or.inr ⟨q, v, i, t, k, hq, ho, ht, by omega, e, Int32.lt_of_le_of_lt h.pos c⟩
    · have e : mvK α q v i t b (k + 1) = mvK α q v i t b k := if_neg c
      rw [e]; exact h
theorem mvT_ok {α : Ab} {q v i : Nat} (hq : q < nP α) (ho : OnAt α q v i) {b : Int32 × Int32 × Int32} (hb : MvOk α b) : ∀ t, t ≤ nV α → MvOk α (mvT α q v i b t) := by
  intro t
  induction t with
  | zero => exact fun _ => hb
  | succ t ih => exact fun ht => mvK_ok hq ho (by omega) (ih (by omega)) _ (Nat.le_refl _)
theorem mvQ_ok {α : Ab} (hA : AI1 α) : ∀ q, q ≤ nP α → MvOk α (mvQ α q) := by
  intro q
  induction q with
  | zero => exact fun _ => Or.inl rfl
  | succ q ih =>
    intro hq
    unfold mvQ
    rcases vof_cases hA q with ⟨v, i, o, e1, e2⟩ | ⟨o, e⟩
    · rw [if_neg e2, e1, cl_nI (by have := hA.v4 o.1; omega), plc_at hA o]
      exact mvT_ok (by omega) o (ih (by omega)) _ (Nat.le_refl _)
    · rw [if_pos e]; exact ih (by omega)
def opMove (α : Ab) : Out :=
  if (mvQ α (nP α)).2.1 = -1 then (0, 0, α)
  else (0, (mvQ α (nP α)).1, putA (takA α (cl (vof α (cl (mvQ α (nP α)).2.1))) (plc α (cl (mvQ α (nP α)).2.1) (cl (vof α (cl (mvQ α (nP α)).2.1))))) (cl (mvQ α (nP α)).2.1) (cl (mvQ α (nP α)).2.2 / 16) (cl (mvQ α (nP α)).2.2 % 16))
theorem mvd_fit {α : Ab} {q v i t k : Nat} (h : 0 < mvd α q v i t k) (ht : t ≠ v) : mny α t + 1 ≤ 12 := by
  unfold mvd at h
  rw [if_neg ht] at h
  by_cases c : mv α q t k = 1000000
  · rw [if_pos c] at h; exact absurd h (by decide)
  · exact mv_fit c
theorem mny_takA {α : Ab} (hA : AI1 α) {v i t : Nat} (hv : v < 4) : mny (takA α v i) t = if t = v then mny α v - 1 else mny α t := by
  unfold takA; rw [mny_setRow (by have := hA.m12 hv; omega)]
theorem mvd_congr {α β : Ab} (h : FrM α β) (q v i t k : Nat) : mvd β q v i t k = mvd α q v i t k := by
  unfold mvd
  rw [mny_congr h, show rwf β v = rwf α v from funext fun i => rwf_congr h v i, rc_congr h, costM_congr h, costM_congr h, fullM_D h.d, mv_congr h, h 910 rfl]
section MM1
variable {l : Launch} {w : Wd} {S : St} {m0 s0 ah : Nat} {A : Nat → Nat}
theorem c_moved {α : Ab} {q v i t k : Nat} (h : MR S m0 s0 ah A α) (hA : AI1 α) (ho : OnAt α q v i) (ht : t < nV α) (hk : k < nPl α v t) : ConI l yX13_moved (wsOf yX13_moved cX13_moved 8 (some .int)) rX13_moved w S [.ref m0, .int (nI q), .int (nI v), .int (nI t), .int (nI k)] (fun r S' => r = mvd α q v i t k ∧ ∃ β, MR S' m0 s0 ah A β ∧ FrC α β) := by
  refine con_I (by decide +kernel) rfl (Nat.le_of_ble_eq_true rfl) (fun p e s m args below meth c B => ?_)
  obtain ⟨o1, o2, o3⟩ := id ho
  have v4 := hA.v4 o1
  have t4 := hA.v4 ht
  have m12 := hA.m12 v4
  have q30 : q < 30 := by rw [← o3]; exact hA.rw30 v4 o2
  refine bX13_moved_0 B (c_routeCost h (hA.rv v4) (hA.1.tok v4 (by omega) (fun i hi => hA.rw30 v4 hi))) h.1.1 (fun r S1 hq1 => ?_)
  obtain ⟨e1, β, b1, b2, b3, -⟩ := hq1
  have er : r = rc α v := e1
  subst er
  have hAb := hA.congr b2.m
  refine bX13_moved_5 B (c_placeOf b1 hAb ((OnAt_congr b2.m q v i).mpr ho)) b1.1.1 (fun r S2 hq2 => ?_)
  obtain ⟨rfl, rfl⟩ := hq2
  refine bX13_moved_14 B (c_removeL b1 b3 o2) b1.1.1 (fun S2 hq2 => ?_)
  obtain ⟨γ, c1, c2, c3⟩ := hq2
  have f2 : FrC α γ := b2.tr c2
  unfold mvd
  by_cases ctv : t = v
  · subst ctv
    rw [if_pos rfl]
    have hk : k < mny α t := by unfold nPl at hk; rw [if_pos rfl] at hk; exact hk
    refine bX13_moved_17 B (fun _ => ?_) (fun z => absurd rfl z)
    refine bX13_moved_59 B (c_insertL c1 c3 (by omega) (show k ≤ mny α t - 1 by omega) (Pok_D f2.m.d (hA.1.pok q30))) c1.1.1 (fun S3 hq3 => ?_)
    obtain ⟨δ, d1, d2, d3⟩ := hq3
    rw [show mny α t - 1 + 1 = mny α t by omega] at d3
    have f3 := f2.tr d2
    refine bX13_moved_66 B (c_costL d1 (hA.1.D f3.m.d) d3 v4) d1.1.1 (fun r S4 hq4 => ?_)
    obtain ⟨y1, ε, y2, y3, y4, y5⟩ := hq4
    rw [costM_D f3.m.d] at y1
    rw [fullM_D f3.m.d] at y5
    subst y1
    have f4 := f3.tr y3
    obtain ⟨a1, a2, a3, a4⟩ := y2.ar 910 (by decide)
    have eroom : rI S4 (A 910) (nI t).toNatClampNeg = α 910 t := by rw [a4, nI_clamp (by omega), f4 910 rfl]
    have efull : gI S4 930 m0 = fullM α (mny α t) (insL (remF (rwf α t) i) k q) := (y2.sc 930 (by decide)).trans y5
    refine bX13_moved_71 B y2.1.1 a1 a2 (by rw [a3]; exact vp_in_nI v4 (by decide)) (fun c => ?_) (fun c => ?_)
    · rw [eroom, efull] at c
      rw [if_neg (Int32.not_lt.mpr c)]
      exact bX13_moved_90 B (bX13_moved_95 B ⟨rfl, ε, y2, f4⟩)
    · rw [eroom, efull] at c
      rw [if_pos (Int32.not_le.mp c)]
      exact bX13_moved_86 B (bX13_moved_95 B ⟨rfl, ε, y2, f4⟩)
  · rw [if_neg ctv]
    have hk : k ≤ mny α t := by unfold nPl at hk; rw [if_neg ctv] at hk; omega
    refine bX13_moved_17 B (fun z => absurd ((nI_eq (by omega) (by omega)).mp z) ctv) (fun _ => ?_)
    refine bX13_moved_22 B (c_costL c1 (hA.1.D f2.m.d) c3 v4) c1.1.1 (fun r S3 hq3 => ?_)
    obtain ⟨y1, δ, y2, y3, y4, -⟩ := hq3
    rw [costM_D f2.m.d] at y1
    subst y1
    have f3 := f2.tr y3
    have hAd := hA.congr f3.m
    refine bX13_moved_29 B (c_mvmore y2 hAd (by rw [nV_congr f3.m]; exact ht) (by rw [mny_congr f3.m]; exact hk) q30) y2.1.1 (fun r S4 hq4 => ?_)
    obtain ⟨z1, ε, z2, z3, -⟩ := hq4
    rw [mv_congr f3.m] at z1
    subst z1
    have f4 := f3.tr z3
    refine bX13_moved_40 B (fun c => ?_) (fun c => ?_)
    · rw [if_neg c]
      exact bX13_moved_53 B (bX13_moved_58 B ⟨rfl, ε, z2, f4⟩)
    · rw [if_pos c]
      exact bX13_moved_49 B (bX13_moved_58 B ⟨rfl, ε, z2, f4⟩)
end MM1
section MM2
variable {p : Program} {l : Launch} {e : Env} {s : State} {m : MethodId} {args : Array Value} {below : List Frame} {meth : Method} {c : Code} {w : Wd} {S : St}
theorem l_mvTest (B : Bd p s m args meth c cX13_move 9 (wsOf yX13_move cX13_move 9 (some .int)) RX13 w (some .int) "move") {Q : State → Prop} {α β : Ab} {m0 s0 ah q v i t k : Nat} {th x1 x2 x3 : Int32} {A : Nat → Nat} (hA : AI1 α) (ho : OnAt α q v i) (ht : t < nV α) (hk : k ≤ nPl α v t) (h : MR S m0 s0 ah A β) (f : FrH th α β)
    (h1 : k < nPl α v t → K p l e rX13_move s m args below meth c 9 w 0 0 Q S 83 [(0, .ref m0), (1, .int x1), (2, .int x2), (3, .int x3), (4, .int (nI q)), (5, .int (nI v)), (6, .int (nI t)), (7, .int (nI k))] [])
    (h2 : k = nPl α v t → K p l e rX13_move s m args below meth c 9 w 0 0 Q S 127 [(0, .ref m0), (1, .int x1), (2, .int x2), (3, .int x3), (4, .int (nI q)), (5, .int (nI v)), (6, .int (nI t))] []) :
    K p l e rX13_move s m args below meth c 9 w 0 0 Q S 55 [(0, .ref m0), (1, .int x1), (2, .int x2), (3, .int x3), (4, .int (nI q)), (5, .int (nI v)), (6, .int (nI t)), (7, .int (nI k))] [] := by
  obtain ⟨o1, o2, o3⟩ := id ho
  have v4 := hA.v4 o1
  have t4 := hA.v4 ht
  have m12 := hA.m12 t4
  have mv12 := hA.m12 v4
  obtain ⟨⟨g1, g2, g3, g4, g5, g6, g7, g8⟩, -⟩ := id h
  obtain ⟨a1, a2, a3, a4⟩ := h.ar 840 (by decide)
  have em : rI S (A 840) (nI t).toNatClampNeg = nI (mny α t) := by rw [a4, nI_clamp (by omega), f.1 840 rfl]; exact (hA.2.2.1 t t4).1
  unfold nPl at hk h1 h2
  refine bX13_move_55 B g1 g5 g2 a1 a2 (by rw [a3]; exact vp_in_nI t4 (by decide)) (fun c => ?_) (fun c => ?_)
  · rw [nI_eq (by omega) (by omega)] at c
    rw [if_neg c] at hk h1 h2
    rw [em]
    refine bX13_move_78 B (bX13_move_79 B (fun c2 => ?_) (fun c2 => ?_))
    · rw [show (0 : Int32) = nI 0 from rfl, pk_sub (by omega), nI_ltI (by omega) (by omega)] at c2
      exact h2 (by omega)
    · rw [show (0 : Int32) = nI 0 from rfl, pk_sub (by omega), nI_ltI (by omega) (by omega)] at c2
      exact h1 (by omega)
  · rw [nI_eq (by omega) (by omega)] at c
    rw [if_pos c] at hk h1 h2
    subst c
    rw [em]
    refine bX13_move_74 B (bX13_move_79 B (fun c2 => ?_) (fun c2 => ?_))
    · rw [show (1 : Int32) = nI 1 from rfl, pk_sub (by omega), nI_ltI (by omega) (by omega)] at c2
      exact h2 (by omega)
    · rw [show (1 : Int32) = nI 1 from rfl, pk_sub (by omega), nI_ltI (by omega) (by omega)] at c2
      exact h1 (by omega)
theorem l_mvK (B : Bd p s m args meth c cX13_move 9 (wsOf yX13_move cX13_move 9 (some .int)) RX13 w (some .int) "move") {Q : State → Prop} {α : Ab} {m0 s0 ah q v i t : Nat} {th : Int32} {b0 : Int32 × Int32 × Int32} {A : Nat → Nat} (hA : AI1 α) (ho : OnAt α q v i) (ht : t < nV α)
    (hx : ∀ S' β, MR S' m0 s0 ah A β → FrH th α β → K p l e rX13_move s m args below meth c 9 w 0 0 Q S' 127 [(0, .ref m0), (1, .int (mvK α q v i t b0 (nPl α v t)).1), (2, .int (mvK α q v i t b0 (nPl α v t)).2.1), (3, .int (mvK α q v i t b0 (nPl α v t)).2.2), (4, .int (nI q)), (5, .int (nI v)), (6, .int (nI t))] []) :
    ∀ d k, k + d = nPl α v t → ∀ S β, MR S m0 s0 ah A β → FrH th α β → K p l e rX13_move s m args below meth c 9 w 0 0 Q S 55 [(0, .ref m0), (1, .int (mvK α q v i t b0 k).1), (2, .int (mvK α q v i t b0 k).2.1), (3, .int (mvK α q v i t b0 k).2.2), (4, .int (nI q)), (5, .int (nI v)), (6, .int (nI t)), (7, .int (nI k))] [] := by
  intro d
  induction d with
  | zero =>
    intro k hk S β h f
    refine l_mvTest B hA ho ht (by omega) h f (fun z => absurd z (by omega)) (fun z => ?_)
    subst z
    exact hx S β h f
  | succ d ih =>
    intro k hk S β h f
    have go := ih (k + 1) (by omega)
    refine l_mvTest B hA ho ht (by omega) h f (fun hlt => ?_) (fun z => absurd z (by omega))
    refine bX13_move_83 B (c_moved h (hA.congr f.1) ((OnAt_congr f.1 q v i).mpr ho) (by rw [nV_congr f.1]; exact ht) (by unfold nPl at hlt ⊢; rw [mny_congr f.1]; exact hlt)) h.1.1 (fun r S2 hq2 => ?_)
    obtain ⟨e1, γ, k2, k3⟩ := hq2
    rw [mvd_congr f.1] at e1
    subst e1
    have f2 : FrH th α γ := ⟨f.1.tr k3.m, by rw [k3 896 rfl]; exact f.2⟩
    refine bX13_move_95 B (fun c => ?_) (fun c => ?_)
    · have e : mvK α q v i t b0 (k + 1) = (mvd α q v i t k, nI q, nI (16 * t + k)) := if_pos c
      rw [e] at go
      refine bX13_move_106 B (bX13_move_121 B ?_)
      rw [nI_1]
      refine k_l ?_ (go S2 γ k2 f2)
      rw [show (16 : Int32) * nI t = nI (16 * t) from pk_mul 16 t, nI_add]
    · have e : mvK α q v i t b0 (k + 1) = mvK α q v i t b0 k := if_neg c
      rw [e] at go
      refine bX13_move_103 B (bX13_move_121 B ?_)
      rw [nI_1]
      exact go S2 γ k2 f2
theorem l_mvT (B : Bd p s m args meth c cX13_move 9 (wsOf yX13_move cX13_move 9 (some .int)) RX13 w (some .int) "move") {Q : State → Prop} {α : Ab} {m0 s0 ah q v i : Nat} {th : Int32} {b0 : Int32 × Int32 × Int32} {A : Nat → Nat} (hA : AI1 α) (ho : OnAt α q v i)
    (hx : ∀ S' β, MR S' m0 s0 ah A β → FrH th α β → K p l e rX13_move s m args below meth c 9 w 0 0 Q S' 133 [(0, .ref m0), (1, .int (mvT α q v i b0 (nV α)).1), (2, .int (mvT α q v i b0 (nV α)).2.1), (3, .int (mvT α q v i b0 (nV α)).2.2), (4, .int (nI q))] []) :
    ∀ d t, t + d = nV α → ∀ S β, MR S m0 s0 ah A β → FrH th α β → K p l e rX13_move s m args below meth c 9 w 0 0 Q S 37 [(0, .ref m0), (1, .int (mvT α q v i b0 t).1), (2, .int (mvT α q v i b0 t).2.1), (3, .int (mvT α q v i b0 t).2.2), (4, .int (nI q)), (5, .int (nI v)), (6, .int (nI t))] [] := by
  have n4 := hA.2.1.2.2.1.2
  have v4 := hA.v4 ho.1
  intro d
  induction d with
  | zero =>
    intro t ht S β h f
    have ht : t = nV α := by omega
    subst ht
    have e9 : gI S 909 m0 = nI (nV α) := (h.sc 909 (by decide)).trans ((congrFun (f.1 909 rfl) 0).trans hA.2.1.2.2.1.1)
    exact bX13_move_37 B h.1.1 (fun _ => hx S β h f) (fun c => absurd (by rw [e9]; exact Int32.le_refl _) c)
  | succ d ih =>
    intro t ht S β h f
    have e9 : gI S 909 m0 = nI (nV α) := (h.sc 909 (by decide)).trans ((congrFun (f.1 909 rfl) 0).trans hA.2.1.2.2.1.1)
    have htl : t < nV α := by omega
    refine bX13_move_37 B h.1.1 (fun c => absurd c (by rw [e9]; exact nI_ge htl (by omega))) (fun _ => ?_)
    refine bX13_move_46 B (fun c => absurd c (nI_nm1 (by omega))) (fun _ => bX13_move_52 B ?_)
    refine l_mvK (b0 := mvT α q v i b0 t) B hA ho htl (fun S' γ h' f' => bX13_move_127 B ?_) (nPl α v t) 0 (by omega) S β h f
    rw [nI_1]
    exact ih (t + 1) (by omega) S' γ h' f'
theorem l_mvQ (B : Bd p s m args meth c cX13_move 9 (wsOf yX13_move cX13_move 9 (some .int)) RX13 w (some .int) "move") {Q : State → Prop} {α : Ab} {m0 s0 ah : Nat} {th : Int32} {A : Nat → Nat} (hA : AI1 α)
    (hx : ∀ S' β, MR S' m0 s0 ah A β → FrH th α β → K p l e rX13_move s m args below meth c 9 w 0 0 Q S' 139 [(0, .ref m0), (1, .int (mvQ α (nP α)).1), (2, .int (mvQ α (nP α)).2.1), (3, .int (mvQ α (nP α)).2.2)] []) :
    ∀ d q, q + d = nP α → ∀ S β, MR S m0 s0 ah A β → FrH th α β → K p l e rX13_move s m args below meth c 9 w 0 0 Q S 14 [(0, .ref m0), (1, .int (mvQ α q).1), (2, .int (mvQ α q).2.1), (3, .int (mvQ α q).2.2), (4, .int (nI q))] [] := by
  have n30 := hA.2.1.2.2.2.2
  have n4 := hA.2.1.2.2.1.2
  intro d
  induction d with
  | zero =>
    intro q hq S β h f
    have hq : q = nP α := by omega
    subst hq
    have e9 : gI S 913 m0 = nI (nP α) := (h.sc 913 (by decide)).trans ((congrFun (f.1 913 rfl) 0).trans hA.2.1.2.2.2.1)
    exact bX13_move_14 B h.1.1 (fun _ => hx S β h f) (fun c => absurd (by rw [e9]; exact Int32.le_refl _) c)
  | succ d ih =>
    intro q hq S β h f
    have e9 : gI S 913 m0 = nI (nP α) := (h.sc 913 (by decide)).trans ((congrFun (f.1 913 rfl) 0).trans hA.2.1.2.2.2.1)
    have hql : q < nP α := by omega
    have go := ih (q + 1) (by omega)
    obtain ⟨⟨g1, g2, g3, g4, g5, g6, g7, g8⟩, -⟩ := id h
    refine bX13_move_14 B g1 (fun c => absurd c (by rw [e9]; exact nI_ge hql (by omega))) (fun _ => ?_)
    refine bX13_move_23 B g1 g5 (c_vof h (hA.congr f.1) (show q < 30 by omega)) g2 (fun r S' hq1 => ?_)
    obtain ⟨rfl, rfl⟩ := hq1
    rw [vof_congr f.1]
    rcases vof_cases hA q with ⟨v, i, o, e1, e2⟩ | ⟨o, e0⟩
    · have eq : mvQ α (q + 1) = mvT α q v i (mvQ α q) (nV α) := by
        show (if vof α q = -1 then _ else _) = _
        rw [if_neg e2, e1, cl_nI (by have := hA.v4 o.1; omega), plc_at hA o]
      rw [eq] at go
      rw [e1]
      refine bX13_move_32 B (l_mvT (b0 := mvQ α q) B hA o (fun S' γ h' f' => bX13_move_133 B ?_) (nV α) 0 (by omega) S β h f)
      rw [nI_1]
      exact go S' γ h' f'
    · have eq : mvQ α (q + 1) = mvQ α q := if_pos e0
      rw [eq] at go
      rw [e0]
      have done : K p l e rX13_move s m args below meth c 9 w 0 0 Q S 133 [(0, .ref m0), (1, .int (mvQ α q).1), (2, .int (mvQ α q).2.1), (3, .int (mvQ α q).2.2), (4, .int (nI q))] [] := by
        refine bX13_move_133 B ?_
        rw [nI_1]
        exact go S β h f
      exact bX13_move_32 B (bX13_move_37 B g1 (fun _ => done) (fun _ => bX13_move_46 B (fun _ => done) (fun c => absurd rfl c)))
end MM2
section MM3
variable {l : Launch} {w : Wd} {S : St} {m0 s0 ah : Nat} {A : Nat → Nat}
theorem c_move {α : Ab} (h : MR S m0 s0 ah A α) (hA : AI1 α) : ConI l yX13_move (wsOf yX13_move cX13_move 9 (some .int)) rX13_move w S [.ref m0] (PM m0 s0 ah A (opMove α)) := by
  refine con_I (by decide +kernel) rfl (Nat.le_of_ble_eq_true rfl) (fun p e s m args below meth c B => ?_)
  have h1 : MR (sI S 896 m0 0) m0 s0 ah A (au α 896 0 0) := h.setS (F := 896) (by decide) 0
  refine bX13_move_0 B h.1.1 (l_mvQ B (th := 0) hA (fun S2 β h2 f2 => ?_) (nP α) 0 (by omega) _ _ h1 ⟨FrM.th, au_same⟩)
  have hok := mvQ_ok hA (nP α) (Nat.le_refl _)
  have hAb := hA.congr f2.1
  unfold opMove
  rcases hok with e0 | ⟨q, v, i, t, k, i1, ho, i3, i4, i5, i6⟩
  · have hn : (mvQ α (nP α)).2.1 = -1 := by rw [e0]
    rw [if_pos hn]
    exact bX13_move_139 B (fun z => absurd hn z) (fun _ => bX13_move_144 B (PM.rf h2 f2.2 f2.1 rfl))
  obtain ⟨o1, o2, o3⟩ := id ho
  have v4 := hA.v4 o1
  have t4 := hA.v4 i3
  have m12 := hA.m12 v4
  have mt12 := hA.m12 t4
  have q30 := hA.p30 i1
  have hk13 : k ≤ mny (takA α v i) t ∧ mny (takA α v i) t + 1 ≤ 12 ∧ k < 13 := by
    rw [mny_takA hA v4]
    unfold nPl at i4
    by_cases c : t = v
    · subst c; rw [if_pos rfl] at i4 ⊢; omega
    · rw [if_neg c] at i4 ⊢; have := mvd_fit i6 c; omega
  have hA2 : AI1 (takA α v i) := hA.tak o1
  rw [i5]
  have hn : ¬ nI q = -1 := nI_nm1 (by omega)
  rw [if_neg hn]
  show K p l e rX13_move s m args below meth c 9 w 0 0 (MQ below (va_Qi (PM m0 s0 ah A (0, mvd α q v i t k, putA (takA α (cl (vof α (cl (nI q)))) (plc α (cl (nI q)) (cl (vof α (cl (nI q)))))) (cl (nI q)) (cl (nI (16 * t + k)) / 16) (cl (nI (16 * t + k)) % 16))) (fun S' t => Hd w S' t.heap) (wA w)) args s rX13_move.cells rX13_move.slots (wA w)) S2 139 [(0, .ref m0), (1, .int (mvd α q v i t k)), (2, .int (nI q)), (3, .int (nI (16 * t + k)))] []
  rw [cl_nI (k := q) (by omega), vof_on hA ho, cl_nI (k := v) (by omega), plc_at hA ho, cl_nI (k := 16 * t + k) (by omega), show (16 * t + k) / 16 = t by omega, show (16 * t + k) % 16 = k by omega]
  obtain ⟨⟨g1, g2, g3, g4, g5, g6, g7, g8⟩, -⟩ := id h2
  refine bX13_move_139 B (fun _ => ?_) (fun z => absurd z hn)
  refine bX13_move_146 B g1 g5 (c_vof h2 hAb q30) g2 (fun r S' hq1 => ?_)
  obtain ⟨rfl, rfl⟩ := hq1
  rw [vof_congr f2.1, vof_on hA ho]
  refine bX13_move_154 B (c_lookL h2 hAb v4) g1 (fun S3 hq3 => ?_)
  obtain ⟨γ, c1, c2, c3⟩ := hq3
  rw [mny_congr f2.1, show rwf β v = rwf α v from funext fun i => rwf_congr f2.1 v i] at c3
  have f3 : FrM α γ := f2.1.tr c2.m
  refine bX13_move_162 B (c_placeOf c1 (hA.congr f3) ((OnAt_congr f3 q v i).mpr ho)) c1.1.1 (fun r S' hq1 => ?_)
  obtain ⟨rfl, rfl⟩ := hq1
  refine bX13_move_170 B (c_removeL c1 c3 o2) c1.1.1 (fun S4 hq4 => ?_)
  obtain ⟨δ, d1, d2, d3⟩ := hq4
  have f4 : FrM α δ := f3.tr d2.m
  refine bX13_move_173 B (c_keepL d1 v4 (n := mny α v - 1) (L := remF (rwf α v) i) (by omega) d3.1 (fun j hj => (d3.2.2 j hj).1)) d1.1.1 (fun S5 hq5 => ?_)
  obtain ⟨ε, x1, x2, x3⟩ := hq5
  have f5 : FrM (takA α v i) ε := fun F hF => by rw [x2 F hF]; exact setRow_fr f4 F hF
  have e1 : nI (16 * t + k) / 16 = nI t := by
    rw [show (16 : Int32) = nI 16 from rfl, pk_div (by omega) (by decide) (by decide), show (16 * t + k) / 16 = t by omega]
  have e2 : nI (16 * t + k) - nI (16 * t + k) / 16 * 16 = nI k := by
    rw [show (16 : Int32) = nI 16 from rfl, pk_rem (by omega) (by decide) (by decide), show (16 * t + k) % 16 = k by omega]
  have hlook := c_lookL (l := l) (w := w) x1 (hA2.congr f5) t4
  rw [← e1] at hlook
  refine bX13_move_179 B hlook x1.1.1 (fun S6 hq6 => ?_)
  obtain ⟨ζ, y1, y2, y3⟩ := hq6
  rw [mny_congr f5, show rwf ε t = rwf (takA α v i) t from funext fun i => rwf_congr f5 t i] at y3
  have f6 : FrM (takA α v i) ζ := f5.tr y2.m
  have hins := c_insertL (l := l) (w := w) (q := q) (k := k) y1 y3 (by omega) hk13.1 (Pok_D f6.d (hA2.1.pok q30))
  rw [← e2] at hins
  refine bX13_move_187 B hins y1.1.1 (fun S7 hq7 => ?_)
  obtain ⟨η, z1, z2, z3⟩ := hq7
  have f7 : FrM (takA α v i) η := f6.tr z2.m
  have hkeep := c_keepL (l := l) (w := w) z1 t4 hk13.2.1 z3.1 (fun j hj => (z3.2.2 j hj).1)
  rw [← e1] at hkeep
  refine bX13_move_196 B hkeep z1.1.1 (fun S8 hq8 => bX13_move_204 B ?_)
  obtain ⟨θ, u1, u2, u3⟩ := hq8
  refine PM.rf u1 ?_ (fun F hF => by rw [u2 F hF]; exact setRow_fr f7 F hF) rfl
  rw [u3 896 (by decide) (by decide), z2 896 rfl, y2 896 rfl, x3 896 (by decide) (by decide), d2 896 rfl, c2 896 rfl]; exact f2.2
end MM3
