/-! THE REFERENCE'S CALLS, routes: what is thrown, what is answered, what is then -/
abbrev cl (x : Int32) : Nat := x.toNatClampNeg
abbrev Out : Type := Int32 × Int32 × Ab
def PM (m s ah : Nat) (A : Nat → Nat) (o : Out) (r : Int32) (S' : St) : Prop := r = o.2.1 ∧ ∃ β, MR S' m s ah A β ∧ β 896 0 = o.1 ∧ FrM o.2.2 β
theorem cl_nI {k : Nat} (h : k < 1000) : cl (nI k) = k := nI_clamp (by omega)
theorem isIn_ix {a : Int32} {n : Nat} (hn : n < 1000) : (0 ≤ a ∧ a ≤ nI n) ↔ isIx a (n + 1) := by
  have e0 : (0 : Int32).toInt = 0 := by decide
  rw [Int32.le_iff_toInt_le, Int32.le_iff_toInt_le, nI_toInt (by omega), e0]
  unfold isIx
  omega
section MP
variable {l : Launch} {w : Wd} {S : St} {m0 s0 ah : Nat} {A : Nat → Nat}
theorem FrM.th {α : Ab} {v : Int32} : FrM α (au α 896 0 v) := fun F hF => au_neF (by rintro rfl; cases hF)
theorem c_no {α : Ab} {v : Int32} (h : MR S m0 s0 ah A α) : ConI l yX13_no (wsOf yX13_no cX13_no 2 (some .int)) rX13_no w S [.ref m0, .int v] (PM m0 s0 ah A (v, 0, α)) := by
  refine con_I (by decide +kernel) rfl (Nat.le_of_ble_eq_true rfl) (fun p e s m args below meth c B => ?_)
  exact bX13_no_0 B h.1.1 ⟨rfl, _, h.setS (F := 896) (by decide) v, au_same, FrM.th⟩
theorem PM.rf {o : Out} {α : Ab} {S : St} (h : MR S m0 s0 ah A α) (h1 : α 896 0 = o.1) (h2 : FrM o.2.2 α) {r : Int32} (hr : r = o.2.1) : PM m0 s0 ah A o r S := ⟨hr, α, h, h1, h2⟩
theorem PM.back {α β : Ab} {v r : Int32} {S : St} (f : FrM α β) (h : PM m0 s0 ah A (v, 0, β) r S) : PM m0 s0 ah A (v, 0, α) r S := by
  obtain ⟨h1, γ, h2, h3, h4⟩ := h
  exact ⟨h1, γ, h2, h3, f.tr h4⟩
theorem PM.eq {o o' : Out} {r : Int32} {S : St} (e : o = o') (h : PM m0 s0 ah A o r S) : PM m0 s0 ah A o' r S := e ▸ h
def opPut (α : Ab) (a b c : Int32) : Out :=
  if isIx a (nP α) ∧ isIx b (nV α) ∧ isIx c (mny α (cl b) + 1) then
    if Loose α (cl a) ∧ ¬ mv α (cl a) (cl b) (cl c) = 1000000 then (0, mv α (cl a) (cl b) (cl c), putA α (cl a) (cl b) (cl c)) else (2, 0, α)
  else (1, 0, α)
theorem ne1 : ¬ (1 : Int32) = 0 := by decide
theorem c_put {α : Ab} {ia ib ic : Int32} (h : MR S m0 s0 ah A α) (hA : AI1 α) : ConI l yX13_put (wsOf yX13_put cX13_put 5 (some .int)) rX13_put w S [.ref m0, .int ia, .int ib, .int ic] (PM m0 s0 ah A (opPut α ia ib ic)) := by
  refine con_I (by decide +kernel) rfl (Nat.le_of_ble_eq_true rfl) (fun p e s m args below meth c B => ?_)
  have h1 : MR (sI S 896 m0 0) m0 s0 ah A (au α 896 0 0) := h.setS (F := 896) (by decide) 0
  have f1 : FrM α (au α 896 0 0) := FrM.th
  have hA1 := hA.congr f1
  have bad : ∀ {S1 : St} {β : Ab}, MR S1 m0 s0 ah A β → FrM α β → ¬ (isIx ia (nP α) ∧ isIx ib (nV α) ∧ isIx ic (mny α (cl ib) + 1)) → K p l e rX13_put s m args below meth c 5 w 0 0 (MQ below (va_Qi (PM m0 s0 ah A (opPut α ia ib ic)) (fun S' t => Hd w S' t.heap) (wA w)) args s rX13_put.cells rX13_put.slots (wA w)) S1 38 [(0, .ref m0)] [] := by
    intro S1 β hb fb hn
    refine bX13_put_38 B (c_no hb) hb.1.1 (fun r S' hq => bX13_put_43 B ?_)
    unfold opPut
    rw [if_neg hn]
    exact hq.back fb
  refine bX13_put_0 B h.1.1 (c_isParcel h1 hA1.2.1) (fun r S' hq => ?_)
  obtain ⟨rfl, hq⟩ := hq
  rw [nP_congr f1] at hq
  rcases hq with ⟨rfl, ha⟩ | ⟨rfl, ha⟩
  rotate_left
  · exact bX13_put_10 B (fun _ => bad h1 f1 (fun z => ha z.1)) (fun z => absurd rfl z)
  refine bX13_put_10 B (fun z => absurd z ne1) (fun _ => ?_)
  refine bX13_put_13 B (c_isVan h1 hA1.2.1) h1.1.1 (fun r S' hq => ?_)
  obtain ⟨rfl, hq⟩ := hq
  rw [nV_congr f1] at hq
  rcases hq with ⟨rfl, hb⟩ | ⟨rfl, hb⟩
  rotate_left
  · exact bX13_put_18 B (fun _ => bad h1 f1 (fun z => hb z.2.1)) (fun z => absurd rfl z)
  refine bX13_put_18 B (fun z => absurd z ne1) (fun _ => ?_)
  obtain ⟨q, hq, rfl⟩ := ha.nI
  obtain ⟨v, hv, rfl⟩ := hb.nI
  have q30 := hA.p30 hq
  have v4 := hA.v4 hv
  have m12 := hA.m12 v4
  obtain ⟨⟨g1, g2, g3, g4, g5, g6, g7, g8⟩, -⟩ := id h1
  obtain ⟨a1, a2, a3, a4⟩ := h1.ar 840 (by decide)
  have em : rI (sI S 896 m0 0) (A 840) (nI v).toNatClampNeg = nI (mny α v) := by rw [a4, nI_clamp (by omega), f1 840 rfl]; exact (hA.2.2.1 v v4).1
  refine bX13_put_21 B g1 g5 g2 a1 a2 (by rw [a3]; exact vp_in_nI v4 (by decide)) c_isIn (fun r S' hq1 => ?_)
  obtain ⟨rfl, hq1⟩ := hq1
  rw [em, isIn_ix (by omega)] at hq1
  have ev : cl (nI v) = v := cl_nI (by omega)
  have eq : cl (nI q) = q := cl_nI (by omega)
  rcases hq1 with ⟨rfl, hc⟩ | ⟨rfl, hc⟩
  rotate_left
  · exact bX13_put_35 B (fun z => absurd rfl z) (fun _ => bad h1 f1 (fun z => hc (by have := z.2.2; rw [ev] at this; exact this)))
  refine bX13_put_35 B (fun _ => ?_) (fun z => absurd z ne1)
  obtain ⟨k, hk, rfl⟩ := hc.nI
  have ek : cl (nI k) = k := cl_nI (by omega)
  have eo : opPut α (nI q) (nI v) (nI k) = if Loose α q ∧ ¬ mv α q v k = 1000000 then (0, mv α q v k, putA α q v k) else (2, 0, α) := by
    unfold opPut
    rw [ev, eq, ek, if_pos ⟨ha, hb, hc⟩]
  rw [eo]
  refine bX13_put_44 B (c_isFree h1 hA1 q30) g1 (fun r S' hq1 => ?_)
  obtain ⟨rfl, hq1⟩ := hq1
  rw [Loose_congr f1] at hq1
  rcases hq1 with ⟨rfl, hL⟩ | ⟨rfl, hL⟩
  rotate_left
  · rw [if_neg (fun z => hL z.1)]
    refine bX13_put_49 B (fun z => absurd rfl z) (fun _ => bX13_put_52 B (c_no h1) g1 (fun r S' hq => bX13_put_57 B (hq.back f1)))
  refine bX13_put_49 B (fun _ => ?_) (fun z => absurd z ne1)
  refine bX13_put_58 B (c_mvmore h1 hA1 (by rw [nV_congr f1]; exact hv) (by rw [mny_congr f1]; omega) q30) g1 (fun r S2 hq2 => ?_)
  obtain ⟨rfl, γ, k2, k3, k4⟩ := hq2
  rw [mv_congr f1, mny_congr f1, show rwf (au α 896 0 0) v = rwf α v from funext fun i => rwf_congr f1 v i] at *
  have f2 := f1.tr k3.m
  refine bX13_put_65 B (fun cc => ?_) (fun cc => ?_)
  · rw [if_pos ⟨hL, cc⟩]
    have hfit := mv_fit cc
    refine bX13_put_80 B (c_keepL k2 v4 hfit k4.1 (fun i hi => (k4.2.2 i hi).1)) k2.1.1 (fun S3 hq3 => ?_)
    obtain ⟨δ, d1, d2, d3⟩ := hq3
    refine bX13_put_85 B (PM.rf d1 ((congrFun (d3 896 (by decide) (by decide)) 0).trans ((congrFun (k3 896 rfl) 0).trans au_same)) ?_ rfl)
    intro F hF
    rw [d2 F hF]
    exact setRow_fr f2 F hF
  · rw [if_neg (fun z => z.2 cc)]
    exact bX13_put_74 B (c_no k2) k2.1.1 (fun r S' hq => bX13_put_79 B (hq.back f2))
end MP
