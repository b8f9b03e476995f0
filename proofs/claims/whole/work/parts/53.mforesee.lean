/-! LOOKING AHEAD -/
def cpF (β : Ab) (F : Nat) : Ab := aset β (F + 1000) (va_cpy (β F) (β (F + 1000)) 0 0 (mLen F))
def bec (α : Ab) : Ab := cpF (cpF (cpF (cpF (cpF (cpF (cpF (cpF (au α 1832 0 (α 832 0)) 834) 835) 836) 837) 838) 839) 840) 841
theorem cpF_ne {β : Ab} {F G : Nat} (h : G ≠ F + 1000) : cpF β F G = β G := aset_ne h
theorem cpF_at {β : Ab} {F i : Nat} (h : i < mLen F) : cpF β F (F + 1000) i = β F i := by
  unfold cpF
  rw [aset_same, pk_cpy_in (by omega) (by omega)]
  congr 1
  omega
theorem bec_lo {α : Ab} {G : Nat} (h : G < 1832 ∨ G = 1833 ∨ 1842 ≤ G) : bec α G = α G := by
  unfold bec
  rw [cpF_ne (by omega), cpF_ne (by omega), cpF_ne (by omega), cpF_ne (by omega), cpF_ne (by omega), cpF_ne (by omega), cpF_ne (by omega), cpF_ne (by omega), au_neF (by omega)]
theorem bec_at {α : Ab} {F i : Nat} (h1 : 834 ≤ F) (h2 : F ≤ 841) (h : i < mLen F) : bec α (F + 1000) i = α F i := by
  have hF : F = 834 ∨ F = 835 ∨ F = 836 ∨ F = 837 ∨ F = 838 ∨ F = 839 ∨ F = 840 ∨ F = 841 := by omega
  unfold bec
  rcases hF with rfl | rfl | rfl | rfl | rfl | rfl | rfl | rfl
  · rw [cpF_ne (by decide), cpF_ne (by decide), cpF_ne (by decide), cpF_ne (by decide), cpF_ne (by decide), cpF_ne (by decide), cpF_ne (by decide), cpF_at h, au_neF (by decide)]
  · rw [cpF_ne (by decide), cpF_ne (by decide), cpF_ne (by decide), cpF_ne (by decide), cpF_ne (by decide), cpF_ne (by decide), cpF_at h, cpF_ne (by decide), au_neF (by decide)]
  · rw [cpF_ne (by decide), cpF_ne (by decide), cpF_ne (by decide), cpF_ne (by decide), cpF_ne (by decide), cpF_at h, cpF_ne (by decide), cpF_ne (by decide), au_neF (by decide)]
  · rw [cpF_ne (by decide), cpF_ne (by decide), cpF_ne (by decide), cpF_ne (by decide), cpF_at h, cpF_ne (by decide), cpF_ne (by decide), cpF_ne (by decide), au_neF (by decide)]
  · rw [cpF_ne (by decide), cpF_ne (by decide), cpF_ne (by decide), cpF_at h, cpF_ne (by decide), cpF_ne (by decide), cpF_ne (by decide), cpF_ne (by decide), au_neF (by decide)]
  · rw [cpF_ne (by decide), cpF_ne (by decide), cpF_at h, cpF_ne (by decide), cpF_ne (by decide), cpF_ne (by decide), cpF_ne (by decide), cpF_ne (by decide), au_neF (by decide)]
  · rw [cpF_ne (by decide), cpF_at h, cpF_ne (by decide), cpF_ne (by decide), cpF_ne (by decide), cpF_ne (by decide), cpF_ne (by decide), cpF_ne (by decide), au_neF (by decide)]
  · rw [cpF_at h, cpF_ne (by decide), cpF_ne (by decide), cpF_ne (by decide), cpF_ne (by decide), cpF_ne (by decide), cpF_ne (by decide), cpF_ne (by decide), au_neF (by decide)]
theorem bec_0 {α : Ab} : bec α 1832 0 = α 832 0 := by
  unfold bec
  rw [cpF_ne (by decide), cpF_ne (by decide), cpF_ne (by decide), cpF_ne (by decide), cpF_ne (by decide), cpF_ne (by decide), cpF_ne (by decide), cpF_ne (by decide), au_same]
/-- the state ahead as numbers, the state's own being these -/
def becD (α : Ab) : Ab := fun F => if 832 ≤ F ∧ F < 846 then bec α (F + 1000) else α F
section MF
variable {l : Launch} {w : Wd} {S : St} {m0 s0 ah : Nat} {A : Nat → Nat}
theorem c_copyM {β : Ab} {F y : Nat} (h : MR S m0 s0 ah A β) (h1 : mLen F ≠ 0) (h2 : mLen (F + 1000) = mLen F) (h3 : mLen F < 100) : ConV l yX12_copy (wsOf yX12_copy cX12_copy 3 none) rX12_copy w S [.ref y, .ref (A F), .ref (A (F + 1000))] (fun S' => MR S' m0 s0 ah A (cpF β F)) := by
  refine con_V (by decide +kernel) rfl (Nat.le_of_ble_eq_true rfl) (fun p e s m args below meth c B => ?_)
  obtain ⟨a1, a2, a3, a4⟩ := h.ar F h1
  obtain ⟨b1, b2, b3, b4⟩ := h.ar (F + 1000) (by rw [h2]; exact h1)
  have e0 : (0 : Int32).toNatClampNeg = 0 := rfl
  refine bX12_copy_0 B a2 b2 (nI_nn (by omega)) (by rw [a3, nI_clamp (by omega), e0]; omega) (by rw [a3, b3, h2, nI_clamp (by omega), e0]; omega) ?_
  rw [a3, nI_clamp (by omega), a4, b4, e0]
  exact h.setA (F := F + 1000) (by rw [h2]; exact h1) _
theorem c_becomeM {α : Ab} (h : MR S m0 s0 ah A α) : ConV l yX12_become (wsOf yX12_become cX12_become 2 none) rX12_become w S [.ref ah, .ref s0] (fun S' => MR S' m0 s0 ah A (bec α)) := by
  refine con_V (by decide +kernel) rfl (Nat.le_of_ble_eq_true rfl) (fun p e s m args below meth c B => ?_)
  obtain ⟨⟨g1, g2, g3, g4, g5, g6, g7, g8⟩, -⟩ := id h
  have h1 : MR (sI S 832 ah (gI S 832 s0)) m0 s0 ah A (au α 1832 0 (α 832 0)) := by
    have := h.setS (F := 1832) (by decide) (α 832 0)
    rw [show gI S 832 s0 = α 832 0 from h.sc 832 (by decide)]
    exact this
  refine bX12_become_0 B g2 g3 (h1.ar 834 (by decide)).1 (h1.ar 1834 (by decide)).1 (c_copyM (F := 834) h1 (by decide) rfl (by decide)) (fun S2 h2 => ?_)
  refine bX12_become_20 B h2.1.2.1 (h2.ar 835 (by decide)).1 h2.1.2.2.1 (h2.ar 1835 (by decide)).1 (c_copyM (F := 835) h2 (by decide) rfl (by decide)) (fun S3 h3 => ?_)
  refine bX12_become_32 B h3.1.2.1 (h3.ar 836 (by decide)).1 h3.1.2.2.1 (h3.ar 1836 (by decide)).1 (c_copyM (F := 836) h3 (by decide) rfl (by decide)) (fun S4 h4 => ?_)
  refine bX12_become_44 B h4.1.2.1 (h4.ar 837 (by decide)).1 h4.1.2.2.1 (h4.ar 1837 (by decide)).1 (c_copyM (F := 837) h4 (by decide) rfl (by decide)) (fun S5 h5 => ?_)
  refine bX12_become_56 B h5.1.2.1 (h5.ar 838 (by decide)).1 h5.1.2.2.1 (h5.ar 1838 (by decide)).1 (c_copyM (F := 838) h5 (by decide) rfl (by decide)) (fun S6 h6 => ?_)
  refine bX12_become_68 B h6.1.2.1 (h6.ar 839 (by decide)).1 h6.1.2.2.1 (h6.ar 1839 (by decide)).1 (c_copyM (F := 839) h6 (by decide) rfl (by decide)) (fun S7 h7 => ?_)
  refine bX12_become_80 B h7.1.2.1 (h7.ar 840 (by decide)).1 h7.1.2.2.1 (h7.ar 1840 (by decide)).1 (c_copyM (F := 840) h7 (by decide) rfl (by decide)) (fun S8 h8 => ?_)
  exact bX12_become_92 B h8.1.2.1 (h8.ar 841 (by decide)).1 h8.1.2.2.1 (h8.ar 1841 (by decide)).1 (c_copyM (F := 841) h8 (by decide) rfl (by decide)) (fun S9 h9 => bX12_become_104 B h9)
theorem MR.ahead {α : Ab} (h : MR S m0 s0 ah A (bec α)) : MD m0 s0 ah A (bec α) 1000 ah (becD α) S := by
  refine ⟨?_, Or.inr ⟨rfl, rfl⟩, fun F h1 h2 => ?_⟩
  · rw [show wr (becD α) 1000 (bec α) = bec α from ?_]
    · exact h
    · funext F
      unfold wr becD
      by_cases c : 832 + 1000 ≤ F ∧ F < 846 + 1000
      · rw [if_pos c, if_pos (by omega), show F - 1000 + 1000 = F by omega]
      · rw [if_neg c]
  · unfold becD
    rw [if_neg (by omega), bec_lo (by omega)]
theorem MR.self {α : Ab} (h : MR S m0 s0 ah A α) : MD m0 s0 ah A α 0 s0 α S := ⟨by rw [wr_0]; exact h, Or.inl ⟨rfl, rfl⟩, fun _ _ _ => rfl⟩
end MF
/-- how many are in a state -/
def hwN (D : Ab) (v : Int32) : Nat → Int32
  | 0 => 0
  | q + 1 => hwN D v q + (if D 834 q = v then 1 else 0)
section MHW
variable {p : Program} {l : Launch} {e : Env} {s : State} {m : MethodId} {args : Array Value} {below : List Frame} {meth : Method} {c : Code} {w : Wd} {S : St}
theorem l_how (B : Bd p s m args meth c cX12_how 4 (wsOf yX12_how cX12_how 4 (some .int)) RX12 w (some .int) "how") {Q : State → Prop} {m0 s0 ah off x : Nat} {A : Nat → Nat} {α D : Ab} {v : Int32} (h : MD m0 s0 ah A α off x D S) (hC : AIc α)
    (hx : K p l e rX12_how s m args below meth c 4 w 0 0 Q S 39 [(2, .int (hwN D v (nP α)))] []) : ∀ d q, q + d = nP α → K p l e rX12_how s m args below meth c 4 w 0 0 Q S 4 [(0, .ref x), (1, .int v), (2, .int (hwN D v q)), (3, .int (nI q))] [] := by
  have n30 := hC.2.2.2.2
  have e9 : gI S 913 m0 = nI (nP α) := (h.stS 913 (by decide) (by decide) rfl).trans ((congrFun (h.2.2 913 (by decide) (by decide)) 0).trans hC.2.2.2.1)
  obtain ⟨k1, k2, k3⟩ := h.knd
  obtain ⟨a1, a2, a3, a4⟩ := h.ar 834 (by decide) (by decide) (by decide)
  intro d
  induction d with
  | zero =>
    intro q hq
    have hq : q = nP α := by omega
    subst hq
    exact bX12_how_4 B k1 k2 k3 (fun _ => hx) (fun c => absurd (by rw [e9]; exact Int32.le_refl _) c)
  | succ d ih =>
    intro q hq
    have hql : q < nP α := by omega
    have go := ih (q + 1) (by omega)
    have es : hwN D v (q + 1) = hwN D v q + (if D 834 q = v then 1 else 0) := rfl
    rw [es] at go
    have ev : rI S (A (834 + off)) (nI q).toNatClampNeg = D 834 q := by rw [a4, nI_clamp (by omega)]
    refine bX12_how_4 B k1 k2 k3 (fun c => absurd c (by rw [e9]; exact nI_ge hql (by omega))) (fun _ => ?_)
    refine bX12_how_15 B k1 a1 a2 (by rw [a3]; exact vp_in_nI (show q < 30 by omega) (by decide)) (fun c => ?_) (fun c => ?_)
    · rw [ev] at c
      rw [if_neg c] at go
      exact bX12_how_30 B (bX12_how_31 B (by rw [nI_1]; exact go))
    · rw [ev] at c
      rw [if_pos c] at go
      exact bX12_how_26 B (bX12_how_31 B (by rw [nI_1]; exact go))
end MHW
section MHX
variable {l : Launch} {w : Wd} {S : St} {m0 s0 ah off x : Nat} {A : Nat → Nat} {α D : Ab}
theorem c_howD {v : Int32} (h : MD m0 s0 ah A α off x D S) (hC : AIc α) : ConI l yX12_how (wsOf yX12_how cX12_how 4 (some .int)) rX12_how w S [.ref x, .int v] (fun r S' => S = S' ∧ r = hwN D v (nP α)) := by
  refine con_I (by decide +kernel) rfl (Nat.le_of_ble_eq_true rfl) (fun p e s m args below meth c B => ?_)
  exact bX12_how_0 B (l_how B h hC (bX12_how_39 B ⟨rfl, rfl⟩) (nP α) 0 (by omega))
end MHX
