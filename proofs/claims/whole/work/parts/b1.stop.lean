/-! A STOP in numbers: who changes -/
/-- a parcel in order: attempts, what waits, what lies in a locker -/
def Gp (D : Ab) (x : Nat) : Prop := isN (D 835 x) 3 ∧ (D 834 x = 0 → D 838 x = 0) ∧ (D 834 x = 2 → (∃ k, k < nL D ∧ D 836 x = nI k) ∧ (∃ b, b < 3 ∧ D 837 x = nI b) ∧ isN (D 838 x) 2)
def AIy (α : Ab) : Prop := AIz α ∧ (∀ q, q < nP α → α 915 q ≤ 40) ∧ ∀ q, q < nP α → α 834 q = 2 → isN (α 838 q) 2
theorem AIy.gp {α : Ab} (h : AIy α) {x : Nat} (hx : x < nP α) : Gp α x := by
  refine ⟨h.1.2.2.2.2.2.1 x hx, fun z => ?_, fun z => ?_⟩
  · exact (h.1.2.2.2.2.1 x hx z).1
  · obtain ⟨⟨k, k4, e1⟩, b⟩ := h.1.1.2.2 x (h.1.1.1.p30 hx) z
    have hk := h.1.2.2.2.2.2.2.1 x hx z
    refine ⟨⟨cl (α 836 x), hk, ?_⟩, b, h.2.2 x hx z⟩
    rw [e1, cl_nI (by omega)]
def Gw (D : Ab) (x : Nat) : Prop := D 834 x = 0 → isN (D 835 x) 2
theorem AIy.gw {α : Ab} (h : AIy α) {x : Nat} (hx : x < nP α) : Gw α x := fun z => (h.1.2.2.2.2.1 x hx z).2
theorem tryD_lo {D : Ab} {q h k F x : Nat} (h1 : F < 842) (h2 : F = 839 ∨ x ≠ q) (h3 : F ≠ 839) : (tryD D q h k).2 F x = D F x := by
  have hx : x ≠ q := by rcases h2 with z | z; · exact absurd z h3
                        · exact z
  unfold tryD
  split
  · split
    · split
      · show leftD _ q _ F x = D F x
        unfold leftD
        by_cases z6 : F = 836
        · subst z6; rw [aset_same, va_up_ne _ _ hx, goD_lo (by decide)]
        · rw [aset_ne z6]
          by_cases z4 : F = 834
          · subst z4; rw [aset_same, va_up_ne _ _ hx, goD_lo (by decide)]
          · rw [aset_ne z4, au_neF (by omega), goD_lo h1]
      · exact congrFun (goD_lo h1) x
    · rfl
  · split
    · rfl
    · show layD D q _ _ F x = D F x
      unfold layD
      rw [aset_ne h3]
      by_cases z8 : F = 838
      · subst z8; rw [aset_same, va_up_ne _ _ hx]
      · rw [aset_ne z8]
        by_cases z7 : F = 837
        · subst z7; rw [aset_same, va_up_ne _ _ hx]
        · rw [aset_ne z7]
          by_cases z6 : F = 836
          · subst z6; rw [aset_same, va_up_ne _ _ hx]
          · rw [aset_ne z6]
            by_cases z4 : F = 834
            · subst z4; rw [aset_same, va_up_ne _ _ hx]
            · rw [aset_ne z4, au_neF (by omega), goD_lo h1]
theorem tryD_35 {D : Ab} {q h k : Nat} : (tryD D q h k).2 835 = D 835 := by
  unfold tryD
  split
  · split
    · split
      · have e1 : leftD (goD D (D 901 (whD D h k)) (D 902 (whD D h k))) q (whD D h k) 835 = D 835 := by
          unfold leftD
          rw [aset_ne (by decide), aset_ne (by decide), au_neF (by decide), goD_lo (F := 835) (by decide)]
        exact e1
      · exact goD_lo (D := D) (gx := D 901 (whD D h k)) (gy := D 902 (whD D h k)) (F := 835) (by decide)
    · rfl
  · split
    · rfl
    · show layD D q (whD D h k) (cl (boxD D q (whD D h k))) 835 = D 835
      unfold layD
      rw [aset_ne (by decide), aset_ne (by decide), aset_ne (by decide), aset_ne (by decide), aset_ne (by decide), au_neF (by decide), goD_lo (F := 835) (by decide)]
theorem tryD_no {D : Ab} {q h k F : Nat} (h0 : (tryD D q h k).1 = false) (hF : F < 842) : (tryD D q h k).2 F = D F := by
  unfold tryD at h0 ⊢
  split at h0 <;> rename_i c1
  · rw [if_pos c1]
    split at h0 <;> rename_i c2
    · rw [if_pos c2]
      split at h0 <;> rename_i c3
      · cases h0
      · rw [if_neg c3]; exact goD_lo hF
    · rw [if_neg c2]
  · rw [if_neg c1]
    split at h0 <;> rename_i c2
    · rw [if_pos c2]
    · cases h0
theorem tryD_yes {D : Ab} {q h k : Nat} (h0 : (tryD D q h k).1 = true) : (tryD D q h k).2 834 q = 3 ∨ ((tryD D q h k).2 834 q = 2 ∧ (tryD D q h k).2 836 q = nI (whD D h k) ∧ (tryD D q h k).2 837 q = nI (cl (boxD D q (whD D h k))) ∧ (tryD D q h k).2 838 q = 0 ∧ ¬ 200 ≤ D 905 (3 * h + k) ∧ ¬ boxD D q (whD D h k) = -1) := by
  unfold tryD at h0 ⊢
  split at h0 <;> rename_i c1
  · rw [if_pos c1]
    split at h0 <;> rename_i c2
    · rw [if_pos c2]
      split at h0 <;> rename_i c3
      · rw [if_pos c3]
        left
        show leftD _ q (whD D h k) 834 q = 3
        unfold leftD
        rw [aset_ne (by decide), aset_same, va_up_self]
      · cases h0
    · cases h0
  · rw [if_neg c1]
    split at h0 <;> rename_i c2
    · cases h0
    · rw [if_neg c2]
      right
      refine ⟨?_, ?_, ?_, ?_, c1, fun z => c2 (Or.inr (Or.inl z))⟩
      · show layD D q (whD D h k) (cl (boxD D q (whD D h k))) 834 q = 2
        unfold layD
        rw [aset_ne (by decide), aset_ne (by decide), aset_ne (by decide), aset_ne (by decide), aset_same, va_up_self]
      · show layD D q (whD D h k) (cl (boxD D q (whD D h k))) 836 q = _
        unfold layD
        rw [aset_ne (by decide), aset_ne (by decide), aset_ne (by decide), aset_same, va_up_self]
      · show layD D q (whD D h k) (cl (boxD D q (whD D h k))) 837 q = _
        unfold layD
        rw [aset_ne (by decide), aset_ne (by decide), aset_same, va_up_self]
      · show layD D q (whD D h k) (cl (boxD D q (whD D h k))) 838 q = _
        unfold layD
        rw [aset_ne (by decide), aset_same, va_up_self]
theorem plcD_x {q h F x : Nat} (h1 : F < 842) (h2 : x ≠ q) (h3 : F ≠ 839) : ∀ d k (D : Ab), (plcD q h d k D).2 F x = D F x := by
  intro d
  induction d with
  | zero => intro k D; rfl
  | succ d ih =>
    intro k D
    unfold plcD
    split
    · exact tryD_lo h1 (Or.inr h2) h3
    · rw [ih]; exact tryD_lo h1 (Or.inr h2) h3
theorem plcD_35 {q h : Nat} : ∀ d k (D : Ab), (plcD q h d k D).2 835 = D 835 := by
  intro d
  induction d with
  | zero => intro k D; rfl
  | succ d ih =>
    intro k D
    unfold plcD
    split
    · exact tryD_35
    · rw [ih]; exact tryD_35
/-- an order's goal is there -/
def OrdL (D : Ab) (h : Nat) : Prop := ∀ k, k < cl (D 904 h) → ∃ wh, (D 905 (3 * h + k) = nI (100 + wh) ∧ wh < nL D) ∨ (D 905 (3 * h + k) = nI (200 + wh) ∧ wh < nH D)
theorem tryD_n {D : Ab} {q h k : Nat} : nL (tryD D q h k).2 = nL D := by unfold nL; rw [tryD_st (by decide)]
theorem tryD_nh {D : Ab} {q h k : Nat} : nH (tryD D q h k).2 = nH D := by unfold nH; rw [tryD_st (by decide)]
theorem OrdL.try {D : Ab} {q h h' k : Nat} (o : OrdL D h) : OrdL (tryD D q h' k).2 h := by
  unfold OrdL nL nH at o ⊢
  rw [tryD_st (by decide), tryD_st (by decide), tryD_st (by decide), tryD_st (by decide)]; exact o
theorem Gp.try {D : Ab} {q h k : Nat} (g : Gp D q) (z : D 834 q = 0) (o : OrdL D h) (hk : k < cl (D 904 h)) (n4 : nL D ≤ 4) (n16 : nH D ≤ 16) : Gp (tryD D q h k).2 q := by
  have e35 : (tryD D q h k).2 835 q = D 835 q := congrFun tryD_35 q
  rcases hb : (tryD D q h k).1 with _ | _
  · unfold Gp at g ⊢
    rw [tryD_no hb (by decide), tryD_no hb (by decide), tryD_no hb (by decide), tryD_no hb (by decide), tryD_no hb (by decide), tryD_n]
    exact g
  · refine ⟨by rw [e35]; exact g.1, fun y => ?_, fun y => ?_⟩
    · rcases tryD_yes hb with a | ⟨a, -⟩
      · rw [a] at y; exact absurd y (by decide)
      · rw [a] at y; exact absurd y (by decide)
    · rcases tryD_yes hb with a | ⟨-, a2, a3, a4, a5, a6⟩
      · rw [a] at y; exact absurd y (by decide)
      · rw [a2, a3, a4, tryD_n]
        refine ⟨⟨_, ?_, rfl⟩, ⟨_, ?_, rfl⟩, by decide, by decide⟩
        · obtain ⟨wh, (b | b)⟩ := o k hk
          · rw [whD_eq b.1 (by decide) (by decide) (by omega)]; exact b.2
          · exact absurd (by rw [b.1]; exact Int32.not_lt.mp (nI_nlt (a := 200 + wh) (b := 200) (by omega) (by have := b.2; omega))) a5
        · rcases boxD_cases D q (whD D h k) with e1 | ⟨b, hb3, e1⟩
          · exact absurd e1 a6
          · rw [e1, cl_nI (by omega)]; exact hb3
theorem Gp.plc {q h : Nat} {n : Nat} : ∀ d k (D : Ab), Gp D q → D 834 q = 0 → OrdL D h → nL D ≤ 4 → nH D ≤ 16 → cl (D 904 h) = n → k + d = n → Gp (plcD q h d k D).2 q ∧ ((plcD q h d k D).1 = true ↔ ¬ (plcD q h d k D).2 834 q = 0) := by
  intro d
  induction d with
  | zero => intro k D g z o n4 n16 e1 e2; exact ⟨g, ⟨fun y => (by cases y), fun y => absurd z y⟩⟩
  | succ d ih =>
    intro k D g z o n4 n16 e1 e2
    have g2 := g.try z o (k := k) (by omega) n4 n16
    unfold plcD
    split <;> rename_i hb
    · refine ⟨g2, ⟨fun _ y => ?_, fun _ => hb⟩⟩
      rcases tryD_yes hb with a | ⟨a, -⟩
      · rw [a] at y; exact absurd y (by decide)
      · rw [a] at y; exact absurd y (by decide)
    · have hb' : (tryD D q h k).1 = false := by simpa using hb
      refine ih (k + 1) _ g2 (by rw [tryD_no hb' (by decide)]; exact z) o.try (by rw [tryD_n]; exact n4) (by rw [tryD_nh]; exact n16) (by rw [tryD_st (by decide)]; exact e1) (by omega)
