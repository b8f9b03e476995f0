/-! THE CLASS'S PICTURE: T c i: the address of the component c of the i-th thing -/
/-- 0 the planner, 1 town, 2 its roads, 3 depot, 4 .. 7 lists (homes, lockers, vans, parcels), 8 schedule, 9 its trip, 10 minutes, 11 lates, 12 loads, 13 round, 14 its trip, 15 choice, 16 17 trial and its row, 18 19 rest and its row; 20 home 21 its place 22 its orders; 23 locker 24 place 25 free 26 kept; 27 van 28 route 29 its row; 30 parcel 31 kept; 32 .. 35 the lists' arrays -/
def cKd : Nat → Nat
  | 0 => 13 | 1 => 10 | 2 => 21 | 3 => 6 | 4 => 1 | 5 => 1 | 6 => 1 | 7 => 1 | 8 => 9 | 9 => 11 | 10 => 21 | 11 => 21 | 12 => 21 | 13 => 7 | 14 => 11 | 15 => 2 | 16 => 8 | 17 => 22 | 18 => 8 | 19 => 22
  | 20 => 3 | 21 => 6 | 22 => 21 | 23 => 4 | 24 => 6 | 25 => 21 | 26 => 21 | 27 => 12 | 28 => 8 | 29 => 22 | 30 => 5 | 31 => 21 | _ => 0
def cLn : Nat → Nat
  | 2 => 24 | 10 => 12 | 11 => 12 | 12 => 12 | 17 => 13 | 19 => 13 | 22 => 3 | 25 => 3 | 26 => 3 | 29 => 13 | 31 => 5 | _ => 0
def cCnt (α : Ab) (c : Nat) : Nat := if c < 20 then 1 else if c < 23 then nH α else if c < 27 then nL α else if c < 30 then nV α else if c < 32 then nP α else 0
def LK : List (Nat × Nat × Nat) := [(0, 768, 1), (0, 769, 4), (0, 770, 5), (0, 771, 6), (0, 772, 7), (0, 773, 8), (0, 774, 13), (0, 775, 15), (0, 776, 16), (0, 777, 18), (1, 576, 2), (1, 577, 3), (8, 512, 1), (8, 513, 9), (8, 514, 10), (8, 515, 11), (8, 516, 12), (13, 384, 1), (13, 385, 4), (13, 386, 5), (13, 387, 14), (9, 640, 1), (14, 640, 1), (16, 448, 17), (18, 448, 19), (20, 128, 21), (20, 130, 22), (23, 192, 24), (23, 193, 25), (23, 194, 26), (27, 708, 28), (28, 448, 29), (30, 269, 31)]
def fam : Nat → Nat | 0 => 20 | 1 => 23 | 2 => 27 | _ => 30
def fci : Nat → Nat | 0 => 2 | 1 => 3 | 2 => 11 | _ => 4
abbrev Tb : Type := Nat → Nat → Nat
def CRk (S : St) (T : Tb) (α : Ab) : Prop := ∀ c i, i < cCnt α c → kd S (T c i) = cKd c ∧ (21 ≤ cKd c → ln S (T c i) = cLn c)
def CRd (T : Tb) (α : Ab) : Prop := ∀ c i c' i', i < cCnt α c → i' < cCnt α c' → T c i = T c' i' → c = c' ∧ i = i'
def CRl (S : St) (T : Tb) (α : Ab) : Prop := ∀ t ∈ LK, ∀ i, i < cCnt α t.1 → gP S t.2.1 (T t.1 i) = some (T t.2.2 i)
def CRs (w : Wd) (S : St) (T : Tb) (α : Ab) : Prop := (∀ j, j < 4 → ∃ N, Ls w S (T (4 + j) 0) (T (32 + j) 0) N (cCnt α (fam j)) (fci j) (T (fam j))) ∧ ∀ j j', j < 4 → j' < 4 → kd S (T (32 + j) 0) = 23 → T (32 + j) 0 = T (32 + j') 0 → j = j'
def Hm (S : St) (T : Tb) (α : Ab) (i : Nat) : Prop := gI S 320 (T 21 i) = α 901 i ∧ gI S 321 (T 21 i) = α 902 i ∧ gI S 129 (T 20 i) = α 903 i ∧ gI S 131 (T 20 i) = α 904 i ∧ ∀ k, k < 3 → k < cl (α 904 i) → rI S (T 22 i) k = α 905 (3 * i + k)
def Lo (S : St) (T : Tb) (α : Ab) (k : Nat) : Prop := gI S 320 (T 24 k) = α 907 k ∧ gI S 321 (T 24 k) = α 908 k ∧ ∀ b, b < 3 → rI S (T 25 k) b = α 839 (3 * k + b)
def Va (S : St) (T : Tb) (α : Ab) (v : Nat) : Prop := gI S 704 (T 27 v) = nI v ∧ gI S 705 (T 27 v) = α 910 v ∧ gI S 706 (T 27 v) = α 911 v ∧ gI S 707 (T 27 v) = α 912 v ∧ gI S 449 (T 28 v) = nI (mny α v) ∧ ∀ k, k < mny α v → rP S (T 29 v) k = some (T 30 (rwf α v k))
def vop (T : Tb) (α : Ab) (q : Nat) : Option Nat := if vof α q = -1 then none else some (T 27 (cl (vof α q)))
def Pa (S : St) (T : Tb) (α : Ab) (q : Nat) : Prop := (gI S 256 (T 30 q) = nI q ∧ gI S 257 (T 30 q) = α 914 q ∧ gI S 258 (T 30 q) = α 915 q ∧ gI S 259 (T 30 q) = α 916 q ∧ gP S 260 (T 30 q) = some (T 20 (cl (α 916 q))) ∧ gI S 261 (T 30 q) = α 917 q ∧ gI S 262 (T 30 q) = α 918 q) ∧ gP S 263 (T 30 q) = vop T α q ∧ gI S 264 (T 30 q) = α 835 q ∧ gI S 265 (T 30 q) = α 834 q ∧ gI S 266 (T 30 q) = α 836 q ∧ (α 834 q = 2 → gI S 267 (T 30 q) = α 837 q) ∧ gI S 268 (T 30 q) = α 838 q
def To (S : St) (T : Tb) (α : Ab) : Prop := rI S (T 2 0) = α 897 ∧ gI S 320 (T 3 0) = α 898 0 ∧ gI S 321 (T 3 0) = α 899 0 ∧ gI S 778 (T 0 0) = α 832 0
def CR (w : Wd) (S : St) (T : Tb) (α : Ab) : Prop := CRk S T α ∧ CRd T α ∧ CRl S T α ∧ CRs w S T α ∧ To S T α ∧ (∀ i, i < nH α → Hm S T α i) ∧ (∀ k, k < nL α → Lo S T α k) ∧ (∀ v, v < nV α → Va S T α v) ∧ ∀ q, q < nP α → Pa S T α q
section CRX
variable {w : Wd} {S S' : St} {T : Tb} {α β : Ab}
theorem cn1 {c : Nat} (h : c < 20) : 0 < cCnt α c := by unfold cCnt; rw [if_pos h]; omega
theorem cnH {c i : Nat} (h : 20 ≤ c) (h2 : c < 23) (hi : i < nH α) : i < cCnt α c := by unfold cCnt; rw [if_neg (by omega), if_pos h2]; exact hi
theorem cnL {c i : Nat} (h : 23 ≤ c) (h2 : c < 27) (hi : i < nL α) : i < cCnt α c := by unfold cCnt; rw [if_neg (by omega), if_neg (by omega), if_pos h2]; exact hi
theorem cnV {c i : Nat} (h : 27 ≤ c) (h2 : c < 30) (hi : i < nV α) : i < cCnt α c := by unfold cCnt; rw [if_neg (by omega), if_neg (by omega), if_neg (by omega), if_pos h2]; exact hi
theorem cnP {c i : Nat} (h : 30 ≤ c) (h2 : c < 32) (hi : i < nP α) : i < cCnt α c := by unfold cCnt; rw [if_neg (by omega), if_neg (by omega), if_neg (by omega), if_neg (by omega), if_pos h2]; exact hi
theorem cnt_lt {c i : Nat} (h : i < cCnt α c) : c < 32 := by
  rcases Nat.lt_or_ge c 32 with z | z
  · exact z
  · unfold cCnt at h; rw [if_neg (by omega), if_neg (by omega), if_neg (by omega), if_neg (by omega), if_neg (by omega)] at h; omega
theorem cKd_pos : ∀ c, c < 32 → cKd c ≠ 0 := by decide
theorem CR.k (h : CR w S T α) {c i : Nat} (hi : i < cCnt α c) : kd S (T c i) = cKd c := (h.1 c i hi).1
theorem CR.k0 (h : CR w S T α) {c i : Nat} (hi : i < cCnt α c) : kd S (T c i) ≠ 0 := by rw [h.k hi]; exact cKd_pos c (cnt_lt hi)
theorem CR.lnn (h : CR w S T α) {c i : Nat} (hi : i < cCnt α c) (hc : 21 ≤ cKd c) : ln S (T c i) = cLn c := (h.1 c i hi).2 hc
theorem CR.ne (h : CR w S T α) {c i c' i' : Nat} (hi : i < cCnt α c) (hi' : i' < cCnt α c') (hn : c ≠ c' ∨ i ≠ i') : T c i ≠ T c' i' := fun z => by
  obtain ⟨a, b⟩ := h.2.1 c i c' i' hi hi' z
  rcases hn with n | n <;> contradiction
theorem CR.lk (h : CR w S T α) (t : Nat × Nat × Nat) (ht : t ∈ LK) {i : Nat} (hi : i < cCnt α t.1) : gP S t.2.1 (T t.1 i) = some (T t.2.2 i) := h.2.2.1 t ht i hi
theorem CR.ls (h : CR w S T α) {j : Nat} (hj : j < 4) : ∃ N, Ls w S (T (4 + j) 0) (T (32 + j) 0) N (cCnt α (fam j)) (fci j) (T (fam j)) := h.2.2.2.1.1 j hj
theorem CR.to (h : CR w S T α) : To S T α := h.2.2.2.2.1
theorem CR.hm (h : CR w S T α) {i : Nat} (hi : i < nH α) : Hm S T α i := h.2.2.2.2.2.1 i hi
theorem CR.lo (h : CR w S T α) {i : Nat} (hi : i < nL α) : Lo S T α i := h.2.2.2.2.2.2.1 i hi
theorem CR.va (h : CR w S T α) {i : Nat} (hi : i < nV α) : Va S T α i := h.2.2.2.2.2.2.2.1 i hi
theorem CR.pa (h : CR w S T α) {i : Nat} (hi : i < nP α) : Pa S T α i := h.2.2.2.2.2.2.2.2 i hi
/-- the same values at the valid places -/
def VI (α β : Ab) : Prop := (α 900 0 = β 900 0 ∧ α 906 0 = β 906 0 ∧ α 909 0 = β 909 0 ∧ α 913 0 = β 913 0) ∧ (α 897 = β 897 ∧ α 898 0 = β 898 0 ∧ α 899 0 = β 899 0 ∧ α 832 0 = β 832 0) ∧
  (∀ i, i < nH α → α 901 i = β 901 i ∧ α 902 i = β 902 i ∧ α 903 i = β 903 i ∧ α 904 i = β 904 i ∧ ∀ k, k < 3 → α 905 (3 * i + k) = β 905 (3 * i + k)) ∧
  (∀ k, k < nL α → α 907 k = β 907 k ∧ α 908 k = β 908 k ∧ ∀ b, b < 3 → α 839 (3 * k + b) = β 839 (3 * k + b)) ∧
  (∀ v, v < nV α → α 910 v = β 910 v ∧ α 911 v = β 911 v ∧ α 912 v = β 912 v ∧ α 840 v = β 840 v ∧ ∀ k, k < mny α v → α 841 (12 * v + k) = β 841 (12 * v + k)) ∧
  ∀ q, q < nP α → (α 914 q = β 914 q ∧ α 915 q = β 915 q ∧ α 916 q = β 916 q ∧ α 917 q = β 917 q ∧ α 918 q = β 918 q) ∧ α 834 q = β 834 q ∧ α 835 q = β 835 q ∧ α 836 q = β 836 q ∧ α 837 q = β 837 q ∧ α 838 q = β 838 q
theorem viH (h : VI α β) : nH β = nH α := by have := h.1.1; unfold nH; rw [this]
theorem viL (h : VI α β) : nL β = nL α := by have := h.1.2.1; unfold nL; rw [this]
theorem viV (h : VI α β) : nV β = nV α := by have := h.1.2.2.1; unfold nV; rw [this]
theorem viP (h : VI α β) : nP β = nP α := by have := h.1.2.2.2; unfold nP; rw [this]
theorem viC (h : VI α β) (c : Nat) : cCnt β c = cCnt α c := by unfold cCnt; rw [viH h, viL h, viV h, viP h]
theorem viM (h : VI α β) {v : Nat} (hv : v < nV α) : mny β v = mny α v := by have := (h.2.2.2.2.1 v hv).2.2.2.1; unfold mny; rw [this]
theorem viR (h : VI α β) {v k : Nat} (hv : v < nV α) (hk : k < mny α v) : rwf β v k = rwf α v k := by have := (h.2.2.2.2.1 v hv).2.2.2.2 k hk; unfold rwf; rw [this]
theorem vIn_ext {q v n : Nat} (h : ∀ i, i < n → rwf β v i = rwf α v i) : vIn β q v n = vIn α q v n := by
  induction n with
  | zero => rfl
  | succ n ih => unfold vIn; rw [ih (fun i hi => h i (by omega)), h n (by omega)]
theorem vofN_ext {q n : Nat} (h1 : ∀ v, v < n → mny β v = mny α v) (h2 : ∀ v i, v < n → i < mny α v → rwf β v i = rwf α v i) : vofN β q n = vofN α q n := by
  induction n with
  | zero => rfl
  | succ n ih => unfold vofN; rw [ih (fun v hv => h1 v (by omega)) (fun v i hv => h2 v i (by omega)), h1 n (by omega), vIn_ext (fun i hi => h2 n i (by omega) hi)]
theorem viF (h : VI α β) (q : Nat) : vof β q = vof α q := by unfold vof; rw [viV h]; exact vofN_ext (fun v hv => viM h hv) (fun v i hv hi => viR h hv hi)
theorem CR.vi (h : CR w S T α) (g : VI α β) : CR w S T β := by
  obtain ⟨h1, h2, h3, h4, h5, h6, h7, h8, h9⟩ := h
  refine ⟨fun c i hi => h1 c i (by rw [← viC g]; exact hi), fun c i c' i' hi hi' => h2 c i c' i' (by rw [← viC g]; exact hi) (by rw [← viC g]; exact hi'), fun t ht i hi => h3 t ht i (by rw [← viC g]; exact hi), ⟨fun j hj => by rw [viC g]; exact h4.1 j hj, h4.2⟩, ?_, fun i hi => ?_, fun i hi => ?_, fun i hi => ?_, fun i hi => ?_⟩
  · obtain ⟨a1, a2, a3, a4⟩ := g.2.1
    unfold To at h5 ⊢; rw [← a1, ← a2, ← a3, ← a4]; exact h5
  · rw [viH g] at hi
    obtain ⟨a1, a2, a3, a4, a5⟩ := g.2.2.1 i hi
    obtain ⟨b1, b2, b3, b4, b5⟩ := h6 i hi
    exact ⟨b1.trans a1, b2.trans a2, b3.trans a3, b4.trans a4, fun k hk hk2 => (b5 k hk (by rw [a4]; exact hk2)).trans (a5 k hk)⟩
  · rw [viL g] at hi
    obtain ⟨a1, a2, a3⟩ := g.2.2.2.1 i hi
    obtain ⟨b1, b2, b3⟩ := h7 i hi
    exact ⟨b1.trans a1, b2.trans a2, fun k hk => (b3 k hk).trans (a3 k hk)⟩
  · rw [viV g] at hi
    obtain ⟨a1, a2, a3, a4, a5⟩ := g.2.2.2.2.1 i hi
    obtain ⟨b1, b2, b3, b4, b5, b6⟩ := h8 i hi
    refine ⟨b1, b2.trans a1, b3.trans a2, b4.trans a3, by rw [viM g hi]; exact b5, fun k hk => ?_⟩
    rw [viM g hi] at hk
    rw [viR g hi hk]; exact b6 k hk
  · rw [viP g] at hi
    obtain ⟨⟨a1, a2, a3, a4, a5⟩, c1, c2, c3, c4, c5⟩ := g.2.2.2.2.2 i hi
    obtain ⟨⟨b1, b2, b3, b4, b5, b6, b7⟩, d1, d2, d3, d4, d5, d6⟩ := h9 i hi
    refine ⟨⟨b1, b2.trans a1, b3.trans a2, b4.trans a3, by rw [← a3]; exact b5, b6.trans a4, b7.trans a5⟩, ?_, d2.trans c2, d3.trans c1, d4.trans c3, fun z => (d5 (c1.trans z)).trans c4, d6.trans c5⟩
    unfold vop at d1 ⊢; rw [viF g]; exact d1
theorem VI.of (f : FrM α β) : VI α β := by
  refine ⟨⟨(congrFun (f 900 rfl) 0).symm, (congrFun (f 906 rfl) 0).symm, (congrFun (f 909 rfl) 0).symm, (congrFun (f 913 rfl) 0).symm⟩, ⟨(f 897 rfl).symm, (congrFun (f 898 rfl) 0).symm, (congrFun (f 899 rfl) 0).symm, (congrFun (f 832 rfl) 0).symm⟩, fun i _ => ?_, fun i _ => ?_, fun i _ => ?_, fun i _ => ?_⟩
  · rw [f 901 rfl, f 902 rfl, f 903 rfl, f 904 rfl, f 905 rfl]; exact ⟨rfl, rfl, rfl, rfl, fun _ _ => rfl⟩
  · rw [f 907 rfl, f 908 rfl, f 839 rfl]; exact ⟨rfl, rfl, fun _ _ => rfl⟩
  · rw [f 910 rfl, f 911 rfl, f 912 rfl, f 840 rfl, f 841 rfl]; exact ⟨rfl, rfl, rfl, rfl, fun _ _ => rfl⟩
  · rw [f 914 rfl, f 915 rfl, f 916 rfl, f 917 rfl, f 918 rfl, f 834 rfl, f 835 rfl, f 836 rfl, f 837 rfl, f 838 rfl]; exact ⟨⟨rfl, rfl, rfl, rfl, rfl⟩, rfl, rfl, rfl, rfl, rfl⟩
theorem CR.frm (h : CR w S T α) (f : FrM α β) : CR w S T β := h.vi (VI.of f)
/-- fields that are scratch -/
def scrF (F : Nat) : Bool := F == 642 || F == 643 || F == 644 || F == 645 || F == 517 || F == 64 || F == 65 || F == 388 || F == 389
/-- only scratch has changed -/
def FrX (T : Tb) (S S' : St) : Prop := (∀ a, kd S' a = kd S a) ∧ (∀ a, ln S' a = ln S a) ∧ (∀ f a, scrF f = false → (f = 449 → a ≠ T 16 0 ∧ a ≠ T 18 0) → gI S' f a = gI S f a) ∧ (∀ f a, f ≠ 641 → f ≠ 66 → gP S' f a = gP S f a) ∧ (∀ a, a ≠ T 10 0 → a ≠ T 11 0 → a ≠ T 12 0 → rI S' a = rI S a) ∧ ∀ a, a ≠ T 17 0 → a ≠ T 19 0 → rP S' a = rP S a
theorem FrX.rf : FrX T S S := ⟨fun _ => rfl, fun _ => rfl, fun _ _ _ _ => rfl, fun _ _ _ _ => rfl, fun _ _ _ _ => rfl, fun _ _ _ => rfl⟩
theorem FrX.tr {S1 S2 S3 : St} (h : FrX T S1 S2) (g : FrX T S2 S3) : FrX T S1 S3 :=
  ⟨fun a => (g.1 a).trans (h.1 a), fun a => (g.2.1 a).trans (h.2.1 a), fun f a e1 e2 => (g.2.2.1 f a e1 e2).trans (h.2.2.1 f a e1 e2), fun f a e1 e2 => (g.2.2.2.1 f a e1 e2).trans (h.2.2.2.1 f a e1 e2), fun a e1 e2 e3 => (g.2.2.2.2.1 a e1 e2 e3).trans (h.2.2.2.2.1 a e1 e2 e3), fun a e1 e2 => (g.2.2.2.2.2 a e1 e2).trans (h.2.2.2.2.2 a e1 e2)⟩
theorem LK_ok : ∀ t ∈ LK, t.2.1 ≠ 641 ∧ t.2.1 ≠ 66 ∧ t.2.1 ≠ 263 ∧ t.2.1 ≠ 1 := by decide
theorem CR.frx (h : CR w S T α) (g : FrX T S S') : CR w S' T α := by
  have hh := h
  obtain ⟨h1, h2, h3, h4, h5, h6, h7, h8, h9⟩ := h
  obtain ⟨g1, g2, g3, g4, g5, g6⟩ := g
  have i0 : ∀ f a, scrF f = false → f ≠ 449 → gI S' f a = gI S f a := fun f a e1 e2 => g3 f a e1 (fun z => absurd z e2)
  have rr : ∀ c i, i < cCnt α c → c ≠ 10 → c ≠ 11 → c ≠ 12 → rI S' (T c i) = rI S (T c i) := fun c i hi e1 e2 e3 => g5 _ (hh.ne hi (cn1 (by decide)) (Or.inl e1)) (hh.ne hi (cn1 (by decide)) (Or.inl e2)) (hh.ne hi (cn1 (by decide)) (Or.inl e3))
  refine ⟨fun c i hi => ⟨(g1 _).trans (h1 c i hi).1, fun z => (g2 _).trans ((h1 c i hi).2 z)⟩, h2, fun t ht i hi => (g4 _ _ (LK_ok t ht).1 (LK_ok t ht).2.1).trans (h3 t ht i hi), ⟨fun j hj => ?_, fun j j' hj hj' z => h4.2 j j' hj hj' ((g1 _).symm.trans z)⟩, ?_, fun i hi => ?_, fun i hi => ?_, fun i hi => ?_, fun i hi => ?_⟩
  · obtain ⟨N, a1, a2, a3, a4, a5, a6, a7⟩ := h4.1 j hj
    refine ⟨N, (g1 _).trans a1, (g4 _ _ (by decide) (by decide)).trans a2, (i0 _ _ rfl (by decide)).trans a3, ?_, a5, a6, fun i hi => ?_⟩
    · rcases a4 with ⟨z1, z2⟩ | z
      · exact Or.inl ⟨(g1 _).trans z1, (g2 _).trans z2⟩
      · exact Or.inr z
    · have ho := Ls.oa (show Ls w S _ _ N _ _ _ from ⟨a1, a2, a3, a4, a5, a6, a7⟩) hi
      have k17 := hh.k (c := 17) (i := 0) (cn1 (by decide))
      have k19 := hh.k (c := 19) (i := 0) (cn1 (by decide))
      rw [g6 _ (fun z => by rw [z, k17] at ho; exact absurd ho.1 (by decide)) (fun z => by rw [z, k19] at ho; exact absurd ho.1 (by decide))]
      exact ⟨(a7 i hi).1, (g1 _).trans (a7 i hi).2⟩
  · exact ⟨(rr 2 0 (cn1 (by decide)) (by decide) (by decide) (by decide)).trans h5.1, (i0 _ _ rfl (by decide)).trans h5.2.1, (i0 _ _ rfl (by decide)).trans h5.2.2.1, (i0 _ _ rfl (by decide)).trans h5.2.2.2⟩
  · obtain ⟨b1, b2, b3, b4, b5⟩ := h6 i hi
    exact ⟨(i0 _ _ rfl (by decide)).trans b1, (i0 _ _ rfl (by decide)).trans b2, (i0 _ _ rfl (by decide)).trans b3, (i0 _ _ rfl (by decide)).trans b4, fun k hk hk2 => by rw [rr 22 i (cnH (by decide) (by decide) hi) (by decide) (by decide) (by decide)]; exact b5 k hk hk2⟩
  · obtain ⟨b1, b2, b3⟩ := h7 i hi
    exact ⟨(i0 _ _ rfl (by decide)).trans b1, (i0 _ _ rfl (by decide)).trans b2, fun k hk => by rw [rr 25 i (cnL (by decide) (by decide) hi) (by decide) (by decide) (by decide)]; exact b3 k hk⟩
  · obtain ⟨b1, b2, b3, b4, b5, b6⟩ := h8 i hi
    have c28 : i < cCnt α 28 := cnV (by decide) (by decide) hi
    have c29 : i < cCnt α 29 := cnV (by decide) (by decide) hi
    refine ⟨(i0 _ _ rfl (by decide)).trans b1, (i0 _ _ rfl (by decide)).trans b2, (i0 _ _ rfl (by decide)).trans b3, (i0 _ _ rfl (by decide)).trans b4, (g3 449 _ rfl (fun _ => ⟨hh.ne c28 (cn1 (by decide)) (Or.inl (by decide)), hh.ne c28 (cn1 (by decide)) (Or.inl (by decide))⟩)).trans b5, fun k hk => ?_⟩
    rw [g6 _ (hh.ne c29 (cn1 (by decide)) (Or.inl (by decide))) (hh.ne c29 (cn1 (by decide)) (Or.inl (by decide)))]
    exact b6 k hk
  · obtain ⟨⟨b1, b2, b3, b4, b5, b6, b7⟩, d1, d2, d3, d4, d5, d6⟩ := h9 i hi
    exact ⟨⟨(i0 _ _ rfl (by decide)).trans b1, (i0 _ _ rfl (by decide)).trans b2, (i0 _ _ rfl (by decide)).trans b3, (i0 _ _ rfl (by decide)).trans b4, (g4 _ _ (by decide) (by decide)).trans b5, (i0 _ _ rfl (by decide)).trans b6, (i0 _ _ rfl (by decide)).trans b7⟩, (g4 _ _ (by decide) (by decide)).trans d1, (i0 _ _ rfl (by decide)).trans d2, (i0 _ _ rfl (by decide)).trans d3, (i0 _ _ rfl (by decide)).trans d4, fun z => (i0 _ _ rfl (by decide)).trans (d5 z), (i0 _ _ rfl (by decide)).trans d6⟩
end CRX
