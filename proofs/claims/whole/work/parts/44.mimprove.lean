/-! IMPROVING: the first of the turned rows that cost the least -/
def imI (α : Ab) (v a : Nat) (b0 : Int32 × Int32 × Int32) : Nat → Int32 × Int32 × Int32
  | 0 => b0
  | j + 1 => if ¬ α 910 v < fullM α (mny α v) (revF (rwf α v) a (a + 1 + j)) ∧ costM α v (mny α v) (revF (rwf α v) a (a + 1 + j)) < (imI α v a b0 j).1 then (costM α v (mny α v) (revF (rwf α v) a (a + 1 + j)), nI a, nI (a + 1 + j)) else imI α v a b0 j
def imA (α : Ab) (v : Nat) : Nat → Int32 × Int32 × Int32
  | 0 => (rc α v, -1, -1)
  | a + 1 => imI α v a (imA α v a) (mny α v - (a + 1))
theorem imI_at (α : Ab) (v a : Nat) (b0 : Int32 × Int32 × Int32) : ∀ j, imI α v a b0 j = b0 ∨ ∃ b, a < b ∧ b ≤ a + j ∧ (imI α v a b0 j).2 = (nI a, nI b) := by
  intro j
  induction j with
  | zero => exact Or.inl rfl
  | succ j ih =>
    unfold imI
    split
    · exact Or.inr ⟨a + 1 + j, by omega, by omega, rfl⟩
    · rcases ih with i1 | ⟨b, i1, i2, i3⟩
      · exact Or.inl i1
      · exact Or.inr ⟨b, i1, by omega, i3⟩
theorem imA_at (α : Ab) (v : Nat) : ∀ n, n ≤ mny α v → imA α v n = (rc α v, -1, -1) ∨ ∃ a b, a < b ∧ b < mny α v ∧ (imA α v n).2 = (nI a, nI b) := by
  intro n
  induction n with
  | zero => exact fun _ => Or.inl rfl
  | succ n ih =>
    intro hn
    have e : imA α v (n + 1) = imI α v n (imA α v n) (mny α v - (n + 1)) := rfl
    rw [e]
    rcases imI_at α v n (imA α v n) (mny α v - (n + 1)) with c | ⟨b, c1, c2, c3⟩
    · rw [c]; exact ih (by omega)
    · exact Or.inr ⟨n, b, c1, by omega, c3⟩
def opImprove (α : Ab) (a : Int32) : Out :=
  if isIx a (nV α) then
    if (imA α (cl a) (mny α (cl a))).2.1 = -1 then (0, 0, α)
    else (0, rc α (cl a) - (imA α (cl a) (mny α (cl a))).1, setRow α (cl a) (mny α (cl a)) (revF (rwf α (cl a)) (cl (imA α (cl a) (mny α (cl a))).2.1) (cl (imA α (cl a) (mny α (cl a))).2.2)))
  else (1, 0, α)
section MI1
variable {p : Program} {l : Launch} {e : Env} {s : State} {m : MethodId} {args : Array Value} {below : List Frame} {meth : Method} {c : Code} {w : Wd} {S : St}
theorem l_imI (B : Bd p s m args meth c cX13_improve 9 (wsOf yX13_improve cX13_improve 9 (some .int)) RX13 w (some .int) "improve") {Q : State → Prop} {α : Ab} {m0 s0 ah v a : Nat} {x2 th : Int32} {b0 : Int32 × Int32 × Int32} {A : Nat → Nat} (hA : AI1 α) (hv : v < nV α) (ha : a < mny α v)
    (hx : ∀ S' β, MR S' m0 s0 ah A β → FrH th α β → K p l e rX13_improve s m args below meth c 9 w 0 0 Q S' 129 [(0, .ref m0), (1, .int (nI v)), (2, .int x2), (3, .int (imI α v a b0 (mny α v - (a + 1))).1), (4, .int (imI α v a b0 (mny α v - (a + 1))).2.1), (5, .int (imI α v a b0 (mny α v - (a + 1))).2.2), (6, .int (nI a))] []) :
    ∀ d j, j + d = mny α v - (a + 1) → ∀ S β, MR S m0 s0 ah A β → FrH th α β → K p l e rX13_improve s m args below meth c 9 w 0 0 Q S 56 [(0, .ref m0), (1, .int (nI v)), (2, .int x2), (3, .int (imI α v a b0 j).1), (4, .int (imI α v a b0 j).2.1), (5, .int (imI α v a b0 j).2.2), (6, .int (nI a)), (7, .int (nI (a + 1 + j)))] [] := by
  have v4 := hA.v4 hv
  have m12 := hA.m12 v4
  intro d
  induction d with
  | zero =>
    intro j hj S β h f
    have hj : j = mny α v - (a + 1) := by omega
    subst hj
    obtain ⟨⟨g1, g2, g3, g4, g5, g6, g7, g8⟩, -⟩ := id h
    obtain ⟨a1, a2, a3, a4⟩ := h.ar 840 (by decide)
    have em : rI S (A 840) (nI v).toNatClampNeg = nI (mny α v) := by rw [a4, nI_clamp (by omega), f.1 840 rfl]; exact (hA.2.2.1 v v4).1
    exact bX13_improve_56 B g1 g5 g2 a1 a2 (by rw [a3]; exact vp_in_nI v4 (by decide)) (fun _ => hx S β h f) (fun c => absurd (by rw [em]; exact nI_le (by omega) (by omega)) c)
  | succ d ih =>
    intro j hj S β h f
    obtain ⟨⟨g1, g2, g3, g4, g5, g6, g7, g8⟩, -⟩ := id h
    obtain ⟨a1, a2, a3, a4⟩ := h.ar 840 (by decide)
    have em : rI S (A 840) (nI v).toNatClampNeg = nI (mny α v) := by rw [a4, nI_clamp (by omega), f.1 840 rfl]; exact (hA.2.2.1 v v4).1
    have hb : a + 1 + j < mny α v := by omega
    have hAb := hA.congr f.1
    have go := ih (j + 1) (by omega)
    refine bX13_improve_56 B g1 g5 g2 a1 a2 (by rw [a3]; exact vp_in_nI v4 (by decide)) (fun c => absurd c (by rw [em]; exact nI_ge hb (by omega))) (fun _ => ?_)
    refine bX13_improve_70 B (c_lookL h hAb v4) g1 (fun S1 hq1 => ?_)
    obtain ⟨γ, k1, k2, k3⟩ := hq1
    rw [mny_congr f.1, show rwf β v = rwf α v from funext fun i => rwf_congr f.1 v i] at k3
    refine bX13_improve_75 B (c_turnL k1 k3 hb (by omega)) k1.1.1 (fun S2 hq2 => ?_)
    obtain ⟨δ, l1, l2, l3⟩ := hq2
    have f2 : FrM α δ := f.1.tr (k2.m.tr l2.m)
    refine bX13_improve_83 B (c_costL l1 (hA.1.D f2.d) l3 v4) l1.1.1 (fun r S3 hq3 => ?_)
    obtain ⟨y1, ε, y2, y3, y4, y5⟩ := hq3
    have f3 : FrH th α ε := ⟨f2.tr y3.m, by rw [y3 896 rfl, l2 896 rfl, k2 896 rfl]; exact f.2⟩
    rw [costM_D f2.d] at y1
    rw [fullM_D f2.d] at y5
    subst y1
    obtain ⟨o1, o2, o3, o4⟩ := y2.ar 910 (by decide)
    have eroom : rI S3 (A 910) (nI v).toNatClampNeg = α 910 v := by rw [o4, nI_clamp (by omega), f3.1 910 rfl]
    have efull : gI S3 930 m0 = fullM α (mny α v) (revF (rwf α v) a (a + 1 + j)) := (y2.sc 930 (by decide)).trans y5
    have skip : ¬ (¬ α 910 v < fullM α (mny α v) (revF (rwf α v) a (a + 1 + j)) ∧ costM α v (mny α v) (revF (rwf α v) a (a + 1 + j)) < (imI α v a b0 j).1) → K p l e rX13_improve s m args below meth c 9 w 0 0 Q S3 123 [(0, .ref m0), (1, .int (nI v)), (2, .int x2), (3, .int (imI α v a b0 j).1), (4, .int (imI α v a b0 j).2.1), (5, .int (imI α v a b0 j).2.2), (6, .int (nI a)), (7, .int (nI (a + 1 + j)))] [] := by
      intro hn
      have e : imI α v a b0 (j + 1) = imI α v a b0 j := if_neg hn
      rw [e] at go
      refine bX13_improve_123 B ?_
      rw [nI_1]
      exact go S3 ε y2 f3
    refine bX13_improve_88 B y2.1.1 o1 o2 (by rw [o3]; exact vp_in_nI v4 (by decide)) (fun c => ?_) (fun c => ?_)
    · rw [eroom, efull] at c
      exact skip (fun z => z.1 c)
    · rw [eroom, efull] at c
      refine bX13_improve_103 B (fun c2 => ?_) (fun c2 => bX13_improve_109 B (skip (fun z => c2 z.2)))
      have e : imI α v a b0 (j + 1) = (costM α v (mny α v) (revF (rwf α v) a (a + 1 + j)), nI a, nI (a + 1 + j)) := if_pos ⟨c, c2⟩
      rw [e] at go
      refine bX13_improve_112 B (bX13_improve_123 B ?_)
      rw [nI_1]
      exact go S3 ε y2 f3
theorem l_imA (B : Bd p s m args meth c cX13_improve 9 (wsOf yX13_improve cX13_improve 9 (some .int)) RX13 w (some .int) "improve") {Q : State → Prop} {α : Ab} {m0 s0 ah v : Nat} {x2 th : Int32} {A : Nat → Nat} (hA : AI1 α) (hv : v < nV α)
    (hx : ∀ S' β, MR S' m0 s0 ah A β → FrH th α β → K p l e rX13_improve s m args below meth c 9 w 0 0 Q S' 135 [(0, .ref m0), (1, .int (nI v)), (2, .int x2), (3, .int (imA α v (mny α v)).1), (4, .int (imA α v (mny α v)).2.1), (5, .int (imA α v (mny α v)).2.2)] []) :
    ∀ d a, a + d = mny α v → ∀ S β, MR S m0 s0 ah A β → FrH th α β → K p l e rX13_improve s m args below meth c 9 w 0 0 Q S 36 [(0, .ref m0), (1, .int (nI v)), (2, .int x2), (3, .int (imA α v a).1), (4, .int (imA α v a).2.1), (5, .int (imA α v a).2.2), (6, .int (nI a))] [] := by
  have v4 := hA.v4 hv
  have m12 := hA.m12 v4
  intro d
  induction d with
  | zero =>
    intro a ha S β h f
    have ha : a = mny α v := by omega
    subst ha
    obtain ⟨⟨g1, g2, g3, g4, g5, g6, g7, g8⟩, -⟩ := id h
    obtain ⟨a1, a2, a3, a4⟩ := h.ar 840 (by decide)
    have em : rI S (A 840) (nI v).toNatClampNeg = nI (mny α v) := by rw [a4, nI_clamp (by omega), f.1 840 rfl]; exact (hA.2.2.1 v v4).1
    exact bX13_improve_36 B g1 g5 g2 a1 a2 (by rw [a3]; exact vp_in_nI v4 (by decide)) (fun _ => hx S β h f) (fun c => absurd (by rw [em]; exact Int32.le_refl _) c)
  | succ d ih =>
    intro a ha S β h f
    obtain ⟨⟨g1, g2, g3, g4, g5, g6, g7, g8⟩, -⟩ := id h
    obtain ⟨a1, a2, a3, a4⟩ := h.ar 840 (by decide)
    have em : rI S (A 840) (nI v).toNatClampNeg = nI (mny α v) := by rw [a4, nI_clamp (by omega), f.1 840 rfl]; exact (hA.2.2.1 v v4).1
    refine bX13_improve_36 B g1 g5 g2 a1 a2 (by rw [a3]; exact vp_in_nI v4 (by decide)) (fun c => absurd c (by rw [em]; exact nI_ge (show a < mny α v by omega) (by omega))) (fun _ => bX13_improve_50 B ?_)
    have go := l_imI (b0 := imA α v a) (x2 := x2) (th := th) B hA hv (show a < mny α v by omega) (fun S' γ h' f' => bX13_improve_129 B (by rw [nI_1]; exact ih (a + 1) (by omega) S' γ h' f')) (mny α v - (a + 1)) 0 (by omega) S β h f
    rw [nI_1]
    exact go
end MI1
section MI2
variable {l : Launch} {w : Wd} {S : St} {m0 s0 ah : Nat} {A : Nat → Nat}
theorem c_improve {α : Ab} {ia : Int32} (h : MR S m0 s0 ah A α) (hA : AI1 α) : ConI l yX13_improve (wsOf yX13_improve cX13_improve 9 (some .int)) rX13_improve w S [.ref m0, .int ia] (PM m0 s0 ah A (opImprove α ia)) := by
  refine con_I (by decide +kernel) rfl (Nat.le_of_ble_eq_true rfl) (fun p e s m args below meth c B => ?_)
  have h1 : MR (sI S 896 m0 0) m0 s0 ah A (au α 896 0 0) := h.setS (F := 896) (by decide) 0
  have f1 : FrM α (au α 896 0 0) := FrM.th
  have hA1 := hA.congr f1
  refine bX13_improve_0 B h.1.1 (c_isVan h1 hA1.2.1) (fun r S' hq => ?_)
  obtain ⟨rfl, hq⟩ := hq
  rw [nV_congr f1] at hq
  unfold opImprove
  rcases hq with ⟨rfl, ha⟩ | ⟨rfl, ha⟩
  rotate_left
  · rw [if_neg ha]
    exact bX13_improve_10 B (fun z => absurd rfl z) (fun _ => bX13_improve_13 B (c_no h1) h1.1.1 (fun r S' hq => bX13_improve_18 B (hq.back f1)))
  rw [if_pos ha]
  obtain ⟨v, hv, rfl⟩ := ha.nI
  have v4 := hA.v4 hv
  have m12 := hA.m12 v4
  rw [cl_nI (by omega)]
  refine bX13_improve_10 B (fun _ => ?_) (fun z => absurd z ne1)
  refine bX13_improve_19 B (c_routeCost h1 (hA1.rv v4) (hA1.1.tok v4 (by rw [mny_congr f1]; omega) (fun i hi => hA1.rw30 v4 hi))) h1.1.1 (fun r S2 hq2 => bX13_improve_24 B ?_)
  rw [mny_congr f1, show rwf (au α 896 0 0) v = rwf α v from funext fun i => rwf_congr f1 v i] at hq2
  obtain ⟨k1, γ, k2, k3, k4, -⟩ := hq2
  have er : r = rc α v := by rw [k1, costM_congr f1]; rfl
  subst er
  have f2 : FrH 0 α γ := ⟨f1.tr k3.m, by rw [k3 896 rfl]; exact au_same⟩
  refine l_imA (x2 := rc α v) (th := 0) B hA hv (fun S3 δ h3 f3 => ?_) (mny α v) 0 (by omega) S2 γ k2 f2
  by_cases hn : (imA α v (mny α v)).2.1 = -1
  · rw [if_pos hn]
    exact bX13_improve_135 B (fun z => absurd hn z) (fun _ => bX13_improve_141 B (PM.rf h3 f3.2 f3.1 rfl))
  · rw [if_neg hn]
    rcases imA_at α v (mny α v) (Nat.le_refl _) with e | ⟨a, b, i1, i2, e⟩
    · exact absurd (by rw [e]) hn
    · have ea : (imA α v (mny α v)).2.1 = nI a := by rw [e]
      have eb : (imA α v (mny α v)).2.2 = nI b := by rw [e]
      rw [ea, eb]
      rw [ea] at hn
      rw [cl_nI (by omega), cl_nI (by omega)]
      refine bX13_improve_135 B (fun _ => ?_) (fun z => absurd z hn)
      refine bX13_improve_143 B (c_lookL h3 (hA.congr f3.1) v4) h3.1.1 (fun S4 hq4 => ?_)
      obtain ⟨ε, x1, x2, x3⟩ := hq4
      rw [mny_congr f3.1, show rwf δ v = rwf α v from funext fun i => rwf_congr f3.1 v i] at x3
      refine bX13_improve_148 B (c_turnL x1 x3 i2 (by omega)) x1.1.1 (fun S5 hq5 => ?_)
      obtain ⟨ζ, y1, y2, y3⟩ := hq5
      have f5 : FrM α ζ := f3.1.tr (x2.m.tr y2.m)
      refine bX13_improve_156 B (c_keepL y1 v4 m12 y3.1 (fun i hi => (y3.2.2 i hi).1)) y1.1.1 (fun S6 hq6 => bX13_improve_161 B ?_)
      obtain ⟨η, z1, z2, z3⟩ := hq6
      refine PM.rf z1 ?_ (fun F hF => by rw [z2 F hF]; exact setRow_fr f5 F hF) rfl
      rw [z3 896 (by decide) (by decide), y2 896 rfl, x2 896 rfl]; exact f3.2
end MI2
