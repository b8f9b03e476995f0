/-! THE BEST PLACE -/
/-- by how much a parcel makes a van's route cost more -/
def mv (α : Ab) (q v k : Nat) : Int32 := if fitsM α v (mny α v + 1) (insL (rwf α v) k q) then costM α v (mny α v + 1) (insL (rwf α v) k q) - rc α v else 1000000
theorem mv_congr {α β : Ab} (h : FrM α β) (q v k : Nat) : mv β q v k = mv α q v k := by
  unfold mv
  rw [mny_congr h, show rwf β v = rwf α v from funext fun i => rwf_congr h v i, rc_congr h, costM_congr h]
  by_cases c : fitsM α v (mny α v + 1) (insL (rwf α v) k q)
  · rw [if_pos c, if_pos ((fitsM_congr h).mpr c)]
  · rw [if_neg c, if_neg (fun z => c ((fitsM_congr h).mp z))]
def bV (α : Ab) (q v : Nat) (b : Int32 × Int32) : Nat → Int32 × Int32
  | 0 => b
  | k + 1 => if mv α q v k < (bV α q v b k).1 then (mv α q v k, nI (16 * v + k)) else bV α q v b k
def bA (α : Ab) (q : Nat) : Nat → Int32 × Int32
  | 0 => (1000000, -1)
  | v + 1 => bV α q v (bA α q v) (mny α v + 1)
/-- the least that a parcel adds, and where: 16 v + k, -1: nowhere -/
def bst (α : Ab) (q : Nat) : Int32 × Int32 := bA α q (nV α)
theorem bV_congr {α β : Ab} (h : FrM α β) (q v : Nat) (b : Int32 × Int32) (k : Nat) : bV β q v b k = bV α q v b k := by
  induction k with
  | zero => rfl
  | succ k ih => unfold bV; rw [ih, mv_congr h]
theorem bA_congr {α β : Ab} (h : FrM α β) (q v : Nat) : bA β q v = bA α q v := by
  induction v with
  | zero => rfl
  | succ v ih => unfold bA; rw [ih, mny_congr h, bV_congr h]
theorem bst_congr {α β : Ab} (h : FrM α β) (q : Nat) : bst β q = bst α q := by unfold bst; rw [nV_congr h, bA_congr h]
theorem insL30 {α : Ab} (hA : AI1 α) {v k q : Nat} (hv : v < 4) (hk : k ≤ mny α v) (hq : q < 30) : ∀ i, i < mny α v + 1 → insL (rwf α v) k q i < 30 := by
  intro i hi
  unfold insL
  split
  · exact hA.rw30 hv (by omega)
  · split
    · exact hq
    · exact hA.rw30 hv (by omega)
section MB
variable {l : Launch} {w : Wd} {S : St} {m0 s0 ah : Nat} {A : Nat → Nat}
theorem c_mvmore {α : Ab} {v k q : Nat} (h : MR S m0 s0 ah A α) (hA : AI1 α) (hv : v < nV α) (hk : k ≤ mny α v) (hq : q < 30) :
    ConI l yX13_more (wsOf yX13_more cX13_more 6 (some .int)) rX13_more w S [.ref m0, .int (nI q), .int (nI v), .int (nI k)] (fun r S' => r = mv α q v k ∧ ∃ α', MR S' m0 s0 ah A α' ∧ FrC α α' ∧ Line α' (mny α v + 1) (insL (rwf α v) k q)) := by
  have v4 := hA.v4 hv
  refine conI_mono (c_more h (hA.rv v4) (hA.1.pok hq) hk (hA.1.tok v4 (by have := hA.m12 v4; omega) (fun i hi => hA.rw30 v4 hi)) (hA.1.tok v4 (by have := hA.m12 v4; omega) (insL30 hA v4 hk hq))) (fun r S' hq => ⟨?_, hq.2⟩)
  unfold mv
  rcases hq.1 with ⟨a, b⟩ | ⟨a, b⟩
  · rw [if_pos a, b]; rfl
  · rw [if_neg a, b]
end MB
section MB2
variable {p : Program} {l : Launch} {e : Env} {s : State} {m : MethodId} {args : Array Value} {below : List Frame} {meth : Method} {c : Code} {w : Wd} {S : St}
theorem l_bestIn (B : Bd p s m args meth c cX13_best 6 (wsOf yX13_best cX13_best 6 (some .int)) RX13 w (some .int) "best") {Q : State → Prop} {α : Ab} {m0 s0 ah q v : Nat} {b0 : Int32 × Int32} {A : Nat → Nat} (hA : AI1 α) (hq : q < 30) (hv : v < nV α)
    (hx : ∀ S' β, MR S' m0 s0 ah A β → FrT α β → β 931 0 = (bV α q v b0 (mny α v + 1)).1 → K p l e rX13_best s m args below meth c 6 w 0 0 Q S' 77 [(0, .ref m0), (1, .int (nI q)), (2, .int (bV α q v b0 (mny α v + 1)).2), (3, .int (nI v))] []) :
    ∀ d k, k + d = mny α v + 1 → ∀ S β, MR S m0 s0 ah A β → FrT α β → β 931 0 = (bV α q v b0 k).1 → K p l e rX13_best s m args below meth c 6 w 0 0 Q S 21 [(0, .ref m0), (1, .int (nI q)), (2, .int (bV α q v b0 k).2), (3, .int (nI v)), (4, .int (nI k))] [] := by
  have v4 := hA.v4 hv
  have m12 := hA.m12 v4
  intro d
  induction d with
  | zero =>
    intro k hk S β h f hb
    have hk : k = mny α v + 1 := by omega
    subst hk
    obtain ⟨⟨g1, g2, g3, g4, g5, g6, g7, g8⟩, -⟩ := id h
    obtain ⟨a1, a2, a3, a4⟩ := h.ar 840 (by decide)
    have em : rI S (A 840) (nI v).toNatClampNeg = nI (mny α v) := by rw [a4, nI_clamp (by omega), f.1 840 rfl]; exact (hA.2.2.1 v v4).1
    exact bX13_best_21 B g1 g5 g2 a1 a2 (by rw [a3]; exact vp_in_nI v4 (by decide)) (fun _ => hx S β h f hb) (fun c => absurd (by rw [em]; exact nI_lt (by omega) (by omega)) c)
  | succ d ih =>
    intro k hk S β h f hb
    obtain ⟨⟨g1, g2, g3, g4, g5, g6, g7, g8⟩, -⟩ := id h
    obtain ⟨a1, a2, a3, a4⟩ := h.ar 840 (by decide)
    have em : rI S (A 840) (nI v).toNatClampNeg = nI (mny α v) := by rw [a4, nI_clamp (by omega), f.1 840 rfl]; exact (hA.2.2.1 v v4).1
    have hAb := hA.congr f.1
    refine bX13_best_21 B g1 g5 g2 a1 a2 (by rw [a3]; exact vp_in_nI v4 (by decide)) (fun c => absurd c (by rw [em]; exact nI_nlt (by omega) (by omega))) (fun _ => ?_)
    refine bX13_best_35 B (c_mvmore h hAb (by rw [nV_congr f.1]; exact hv) (k := k) (q := q) (by rw [mny_congr f.1]; omega) hq) g1 (fun r S1 hq1 => ?_)
    obtain ⟨rfl, γ, k2, k3, -⟩ := hq1
    have f2 := f.tr k3.t
    have h931 : gI S1 931 m0 = (bV α q v b0 k).1 := by
      have := k2.sc 931 (by decide)
      exact this.trans ((congrFun (k3 931 rfl) 0).trans hb)
    rw [mv_congr f.1]
    refine bX13_best_43 B k2.1.1 (fun c => ?_) (fun c => ?_)
    · rw [h931] at c
      refine bX13_best_57 B k2.1.1 (bX13_best_71 B ?_)
      have hs := k2.setS (F := 931) (by decide) (mv α q v k)
      have e : bV α q v b0 (k + 1) = (mv α q v k, nI (16 * v + k)) := if_pos c
      have go := ih (k + 1) (by omega) _ _ hs ⟨fun F hF => by rw [au_neF (by rintro rfl; cases hF)]; exact f2.1 F hF, by rw [au_neF (by decide)]; exact f2.2⟩ (by rw [au_same, e])
      rw [e] at go
      rw [nI_1]
      refine k_l ?_ go
      rw [show (16 : Int32) * nI v = nI (16 * v) from pk_mul 16 v, nI_add]
    · rw [h931] at c
      refine bX13_best_54 B (bX13_best_71 B ?_)
      have e : bV α q v b0 (k + 1) = bV α q v b0 k := if_neg c
      have go := ih (k + 1) (by omega) _ _ k2 f2 (by rw [e]; exact (k2.sc 931 (by decide)).symm.trans h931)
      rw [e] at go
      rw [nI_1]
      exact go
theorem l_best (B : Bd p s m args meth c cX13_best 6 (wsOf yX13_best cX13_best 6 (some .int)) RX13 w (some .int) "best") {Q : State → Prop} {α : Ab} {m0 s0 ah q : Nat} {A : Nat → Nat} (hA : AI1 α) (hq : q < 30)
    (hx : ∀ S' β, MR S' m0 s0 ah A β → FrT α β → β 931 0 = (bst α q).1 → K p l e rX13_best s m args below meth c 6 w 0 0 Q S' 83 [(2, .int (bst α q).2)] []) :
    ∀ d v, v + d = nV α → ∀ S β, MR S m0 s0 ah A β → FrT α β → β 931 0 = (bA α q v).1 → K p l e rX13_best s m args below meth c 6 w 0 0 Q S 10 [(0, .ref m0), (1, .int (nI q)), (2, .int (bA α q v).2), (3, .int (nI v))] [] := by
  have n4 := hA.2.1.2.2.1.2
  intro d
  induction d with
  | zero =>
    intro v hv S β h f hb
    have hv : v = nV α := by omega
    subst hv
    have e9 : gI S 909 m0 = nI (nV α) := (h.sc 909 (by decide)).trans ((congrFun (f.1 909 rfl) 0).trans hA.2.1.2.2.1.1)
    exact bX13_best_10 B h.1.1 (fun _ => hx S β h f hb) (fun c => absurd (by rw [e9]; exact Int32.le_refl _) c)
  | succ d ih =>
    intro v hv S β h f hb
    have e9 : gI S 909 m0 = nI (nV α) := (h.sc 909 (by decide)).trans ((congrFun (f.1 909 rfl) 0).trans hA.2.1.2.2.1.1)
    have hvl : v < nV α := by omega
    refine bX13_best_10 B h.1.1 (fun c => absurd c (by rw [e9]; exact nI_ge hvl (by omega))) (fun _ => bX13_best_18 B ?_)
    refine l_bestIn B hA hq hvl (b0 := bA α q v) (fun S' γ h' f' hb' => bX13_best_77 B ?_) (mny α v + 1) 0 (by omega) S β h f hb
    rw [nI_1]
    exact ih (v + 1) (by omega) S' γ h' f' hb'
end MB2
section MB3
variable {l : Launch} {w : Wd} {S : St} {m0 s0 ah : Nat} {A : Nat → Nat}
theorem c_best {α : Ab} {q : Nat} (h : MR S m0 s0 ah A α) (hA : AI1 α) (hq : q < 30) : ConI l yX13_best (wsOf yX13_best cX13_best 6 (some .int)) rX13_best w S [.ref m0, .int (nI q)] (fun r S' => r = (bst α q).2 ∧ ∃ α', MR S' m0 s0 ah A α' ∧ FrT α α' ∧ α' 931 0 = (bst α q).1) := by
  refine con_I (by decide +kernel) rfl (Nat.le_of_ble_eq_true rfl) (fun p e s m args below meth c B => ?_)
  have hs := h.setS (F := 931) (by decide) 1000000
  refine bX13_best_0 B h.1.1 (l_best B hA hq (fun S' β h' f hb => bX13_best_83 B ⟨rfl, β, h', f, hb⟩) (nV α) 0 (by omega) _ _ hs ⟨fun F hF => by rw [au_neF (by rintro rfl; cases hF)], by rw [au_neF (by decide)]⟩ au_same)
end MB3
