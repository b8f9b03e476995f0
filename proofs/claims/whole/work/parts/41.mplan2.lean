theorem lcN_pos {α : Ab} {n q : Nat} (hq : q < n) (h1 : Loose α q) : 0 < lcN α n := by
  induction n with
  | zero => exact absurd hq (by omega)
  | succ n ih =>
    unfold lcN
    by_cases c : q = n
    · subst c; rw [if_pos h1]; omega
    · have := ih (by omega); omega
theorem nP_putA {α : Ab} {q v k : Nat} : nP (putA α q v k) = nP α := nP_setRow
/-- the parcel found: it can be put in, and is loose no more -/
theorem plS_ok {α : Ab} (hA : AI1 α) (h : ¬ (pS α (nP α)).2.1 = -1) : ∃ q v k, q < nP α ∧ v < nV α ∧ k ≤ mny α v ∧ mny α v + 1 ≤ 12 ∧ Loose α q ∧ (pS α (nP α)) = (mv α q v k, nI q, nI (16 * v + k)) ∧ ¬ mv α q v k = 1000000 ∧ plS α = putA α q v k ∧ AI1 (putA α q v k) ∧ lcN (putA α q v k) (nP α) < lcN α (nP α) := by
  rcases pS_at α (nP α) with e | ⟨q, v, k, i1, i2, i3, i4, i5, i6⟩
  · exact absurd (by rw [e]) h
  · have hne : ¬ mv α q v k = 1000000 := fun z => by rw [z] at i5; exact absurd i5 (by decide)
    have hfit := mv_fit hne
    have ho : ¬ On α q := (vof_iff hA q).mp i6.2
    have hA2 := hA.put i2 i3 i1 hfit ho
    have q30 := hA.p30 i1
    refine ⟨q, v, k, i1, i2, i3, hfit, i6, i4, hne, ?_, hA2, ?_⟩
    · unfold plS
      rw [i4]
      have v4 := hA.v4 i2
      have e1 : cl (nI q) = q := cl_nI (by omega)
      have e2 : cl (nI (16 * v + k)) = 16 * v + k := cl_nI (by omega)
      show putA α (cl (nI q)) (cl (nI (16 * v + k)) / 16) (cl (nI (16 * v + k)) % 16) = _
      rw [e1, e2, show (16 * v + k) / 16 = v by omega, show (16 * v + k) % 16 = k by omega]
    · refine lcN_lt (fun x hx => ?_) i1 i6 (fun z => ?_)
      · have hx1 : α 834 x = 0 := by have := hx.1; unfold putA at this; rw [setRow_ne (by decide) (by decide)] at this; exact this
        refine ⟨hx1, (vof_iff hA x).mpr (fun z => ?_)⟩
        exact (vof_iff hA2 x).mp hx.2 ((On_putA hA i2 i3 q30 hfit x).mpr (Or.inr z))
      · exact (vof_iff hA2 q).mp z.2 ((On_putA hA i2 i3 q30 hfit q).mpr (Or.inl rfl))
/-- what lasts is the same, and this was thrown -/
def FrH (th : Int32) (α β : Ab) : Prop := FrM α β ∧ β 896 0 = th
section MPL2
variable {p : Program} {l : Launch} {e : Env} {s : State} {m : MethodId} {args : Array Value} {below : List Frame} {meth : Method} {c : Code} {w : Wd} {S : St}
theorem l_planScan (B : Bd p s m args meth c cX13_plan 7 (wsOf yX13_plan cX13_plan 7 (some .int)) RX13 w (some .int) "plan") {Q : State → Prop} {α : Ab} {m0 s0 ah : Nat} {cnt th : Int32} {A : Nat → Nat} (hA : AI1 α)
    (hx : ∀ S' β, MR S' m0 s0 ah A β → FrH th α β → K p l e rX13_plan s m args below meth c 7 w 0 0 Q S' 83 [(0, .ref m0), (1, .int cnt), (2, .int (pS α (nP α)).2.1), (3, .int (pS α (nP α)).2.2)] []) :
    ∀ d i, i + d = nP α → ∀ S β, MR S m0 s0 ah A β → FrH th α β → K p l e rX13_plan s m args below meth c 7 w 0 0 Q S 18 [(0, .ref m0), (1, .int cnt), (2, .int (pS α i).2.1), (3, .int (pS α i).2.2), (4, .int (pS α i).1), (5, .int (nI i))] [] := by
  have n30 := hA.2.1.2.2.2.2
  intro d
  induction d with
  | zero =>
    intro i hi S β h f
    have hi : i = nP α := by omega
    subst hi
    have e9 : gI S 913 m0 = nI (nP α) := (h.sc 913 (by decide)).trans ((congrFun (f.1 913 rfl) 0).trans hA.2.1.2.2.2.1)
    exact bX13_plan_18 B h.1.1 (fun _ => hx S β h f) (fun c => absurd (by rw [e9]; exact Int32.le_refl _) c)
  | succ d ih =>
    intro i hi S β h f
    have e9 : gI S 913 m0 = nI (nP α) := (h.sc 913 (by decide)).trans ((congrFun (f.1 913 rfl) 0).trans hA.2.1.2.2.2.1)
    have hil : i < nP α := by omega
    have go := ih (i + 1) (by omega)
    have hAb := hA.congr f.1
    have skip : ¬ (Loose α i ∧ ¬ (bst α i).2 = -1 ∧ (bst α i).1 < (pS α i).1) → ∀ S β, MR S m0 s0 ah A β → FrH th α β → K p l e rX13_plan s m args below meth c 7 w 0 0 Q S 77 [(0, .ref m0), (1, .int cnt), (2, .int (pS α i).2.1), (3, .int (pS α i).2.2), (4, .int (pS α i).1), (5, .int (nI i))] [] := by
      intro hn S β h f
      refine bX13_plan_77 B ?_
      have e : pS α (i + 1) = pS α i := if_neg hn
      rw [e] at go
      rw [nI_1]
      exact go S β h f
    refine bX13_plan_18 B h.1.1 (fun c => absurd c (by rw [e9]; exact nI_ge hil (by omega))) (fun _ => ?_)
    refine bX13_plan_27 B (c_isFree h hAb (show i < 30 by omega)) h.1.1 (fun r S' hq => ?_)
    obtain ⟨rfl, hq⟩ := hq
    rw [Loose_congr f.1] at hq
    rcases hq with ⟨rfl, hL⟩ | ⟨rfl, hL⟩
    rotate_left
    · exact bX13_plan_33 B (fun z => absurd rfl z) (fun _ => bX13_plan_36 B (skip (fun z => hL z.1) S β h f))
    refine bX13_plan_33 B (fun _ => ?_) (fun z => absurd z ne1)
    refine bX13_plan_39 B (c_best h hAb (show i < 30 by omega)) h.1.1 (fun r S2 hq2 => ?_)
    obtain ⟨rfl, γ, k2, k3, k4⟩ := hq2
    rw [bst_congr f.1] at *
    have f2 : FrH th α γ := ⟨f.1.tr k3.1, k3.2.trans f.2⟩
    have h931 : gI S2 931 m0 = (bst α i).1 := (k2.sc 931 (by decide)).trans k4
    refine bX13_plan_45 B (fun c => skip (fun z => z.2.1 c) S2 γ k2 f2) (fun c => ?_)
    refine bX13_plan_53 B k2.1.1 (fun c2 => ?_) (fun c2 => bX13_plan_62 B (skip (fun z => c2 (by rw [h931]; exact z.2.2)) S2 γ k2 f2))
    rw [h931] at c2
    refine bX13_plan_65 B k2.1.1 (bX13_plan_77 B ?_)
    have e : pS α (i + 1) = ((bst α i).1, nI i, (bst α i).2) := if_pos ⟨hL, c, c2⟩
    rw [e] at go
    rw [nI_1, h931]
    exact go S2 γ k2 f2
theorem l_plan (B : Bd p s m args meth c cX13_plan 7 (wsOf yX13_plan cX13_plan 7 (some .int)) RX13 w (some .int) "plan") {Q : State → Prop} {m0 s0 ah : Nat} {A : Nat → Nat} {th : Int32} : ∀ d (α : Ab), AI1 α → lcN α (nP α) ≤ d → ∀ (cnt : Int32),
    (∀ S' β, MR S' m0 s0 ah A β → FrH th (plA α d).2 β → K p l e rX13_plan s m args below meth c 7 w 0 0 Q S' 88 [(1, .int (cnt + (plA α d).1))] []) →
    ∀ S β, MR S m0 s0 ah A β → FrH th α β → K p l e rX13_plan s m args below meth c 7 w 0 0 Q S 7 [(0, .ref m0), (1, .int cnt)] [] := by
  intro d
  induction d with
  | zero =>
    intro α hA hd cnt hx S β h f
    refine bX13_plan_7 B (l_planScan B hA (cnt := cnt) (fun S' γ h' f' => ?_) (nP α) 0 (by omega) S β h f)
    have hn : (pS α (nP α)).2.1 = -1 := by
      rcases pS_at α (nP α) with e | ⟨q, v, k, i1, i2, i3, i4, i5, i6⟩
      · rw [e]
      · have := lcN_pos i1 i6; omega
    refine bX13_plan_83 B (fun c => absurd hn c) (fun _ => ?_)
    refine k_l ?_ (hx S' γ h' f')
    rw [show (plA α 0).1 = 0 from rfl, i32_add0]
  | succ d ih =>
    intro α hA hd cnt hx S β h f
    refine bX13_plan_7 B (l_planScan B hA (cnt := cnt) (fun S' γ h' f' => ?_) (nP α) 0 (by omega) S β h f)
    by_cases hn : (pS α (nP α)).2.1 = -1
    · have e : plA α (d + 1) = (0, α) := if_pos hn
      rw [e] at hx
      refine bX13_plan_83 B (fun c => absurd hn c) (fun _ => ?_)
      refine k_l ?_ (hx S' γ h' f')
      rw [i32_add0]
    · have e : plA α (d + 1) = ((plA (plS α) d).1 + 1, (plA (plS α) d).2) := if_neg hn
      rw [e] at hx
      obtain ⟨q, v, k, i1, i2, i3, i4, i5, i6, i7, i8, i9, i10⟩ := plS_ok hA hn
      rw [i8] at hx
      refine bX13_plan_83 B (fun _ => ?_) (fun c => absurd c hn)
      rw [i6]
      have v4 := hA.v4 i2
      have m12 := hA.m12 v4
      have e1 : nI (16 * v + k) / 16 = nI v := by
        rw [show (16 : Int32) = nI 16 from rfl, pk_div (by omega) (by decide) (by decide), show (16 * v + k) / 16 = v by omega]
      have e2 : nI (16 * v + k) - nI (16 * v + k) / 16 * 16 = nI k := by
        rw [show (16 : Int32) = nI 16 from rfl, pk_rem (by omega) (by decide) (by decide), show (16 * v + k) % 16 = k by omega]
      have hAg := hA.congr f'.1
      have hmore := c_mvmore (l := l) (w := w) (S := S') (m0 := m0) (s0 := s0) (ah := ah) (A := A) (v := v) (k := k) (q := q) h' hAg (by rw [nV_congr f'.1]; exact i2) (by rw [mny_congr f'.1]; exact i3) (hA.p30 i1)
      rw [← e1, ← e2] at hmore
      refine bX13_plan_90 B hmore h'.1.1 (fun r S2 hq2 => ?_)
      obtain ⟨-, δ, k2, k3, k4⟩ := hq2
      rw [mny_congr f'.1, show rwf γ v = rwf α v from funext fun i => rwf_congr f'.1 v i] at k4
      have hk := c_keepL (l := l) (w := w) k2 v4 i4 k4.1 (fun i hi => (k4.2.2 i hi).1)
      rw [← e1] at hk
      refine bX13_plan_103 B hk k2.1.1 (fun S3 hq3 => bX13_plan_112 B ?_)
      obtain ⟨ε, d1, d2, d3⟩ := hq3
      refine ih (putA α q v k) i9 (by rw [nP_putA]; omega) (cnt + 1) (fun S4 ζ z1 z2 => ?_) S3 ε d1 ⟨fun F hF => ?_, ?_⟩
      · refine k_l ?_ (hx S4 ζ z1 z2)
        rw [Int32.add_assoc, Int32.add_comm 1]
      · rw [d2 F hF]
        exact setRow_fr (f'.1.tr k3.m) F hF
      · rw [d3 896 (by decide) (by decide), k3 896 rfl]; exact f'.2
end MPL2
section MPL3
variable {l : Launch} {w : Wd} {S : St} {m0 s0 ah : Nat} {A : Nat → Nat}
def opPlan (α : Ab) : Out := (0, (plA α (nP α)).1, (plA α (nP α)).2)
theorem c_plan {α : Ab} (h : MR S m0 s0 ah A α) (hA : AI1 α) : ConI l yX13_plan (wsOf yX13_plan cX13_plan 7 (some .int)) rX13_plan w S [.ref m0] (PM m0 s0 ah A (opPlan α)) := by
  refine con_I (by decide +kernel) rfl (Nat.le_of_ble_eq_true rfl) (fun p e s m args below meth c B => ?_)
  have h1 : MR (sI S 896 m0 0) m0 s0 ah A (au α 896 0 0) := h.setS (F := 896) (by decide) 0
  refine bX13_plan_0 B h.1.1 (l_plan B (th := 0) (nP α) α hA (lcN_le ..) 0 (fun S' β h' f' => ?_) _ _ h1 ⟨FrM.th, au_same⟩)
  refine bX13_plan_88 B (PM.rf h' f'.2 f'.1 ?_)
  show (0 : Int32) + _ = _
  simp [opPlan]
end MPL3
