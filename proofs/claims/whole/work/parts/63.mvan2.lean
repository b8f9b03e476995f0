def finV (α : Ab) (v : Nat) : Tr := finW (α 897) (fun i => pdat α (rwf α v i)) (α 898 0) (α 899 0) (α 911 v) (mny α v)
def latV (α : Ab) (v : Nat) : Int32 := (wk (α 897) (fun i => pdat α (rwf α v i)) (t00 (α 898 0) (α 899 0) (α 911 v)) (mny α v)).2
def vanV (α : Ab) (v what : Nat) : Int32 := if what = 0 then α 910 v else if what = 1 then α 911 v else if what = 2 then α 912 v else if what = 3 then nI (mny α v) else if what = 4 then rc α v else if what = 5 then (finV α v).2.2.2.2.1 else if what = 6 then latV α v else if what = 7 then (finV α v).2.2.2.1 else if what = 8 then (finV α v).2.2.2.2.2 else fullM α (mny α v) (rwf α v)
theorem vanV_congr {α β : Ab} (f : FrM α β) (k what : Nat) : vanV β k what = vanV α k what := by
  have hr : rwf β k = rwf α k := funext fun i => rwf_congr f k i
  have hp : (fun i => pdat β (rwf α k i)) = fun i => pdat α (rwf α k i) := funext fun i => pdat_congr f _
  unfold vanV finV latV
  rw [hr, hp, mny_congr f, rc_congr f, fullM_D f.d, f 910 rfl, f 911 rfl, f 912 rfl, f 897 rfl, f 898 rfl, f 899 rfl]
def opTellV (α : Ab) (a b : Int32) : Out := if isIx a (nV α) ∧ isIx b 10 then (0, vanV α (cl a) (cl b), α) else (1, 0, α)
section MVT
variable {l : Launch} {w : Wd} {S : St} {m0 s0 ah : Nat} {A : Nat → Nat}
theorem c_vanTold {α : Ab} {v u : Nat} (h : MR S m0 s0 ah A α) (hA : AI1 α) (hv : v < 4) (hu : u < 10) : ConI l yX13_vanTold (wsOf yX13_vanTold cX13_vanTold 5 (some .int)) rX13_vanTold w S [.ref m0, .int (nI v), .int (nI u)] (fun r S' => r = vanV α v u ∧ ∃ β, MR S' m0 s0 ah A β ∧ FrC α β) := by
  refine con_I (by decide +kernel) rfl (Nat.le_of_ble_eq_true rfl) (fun p e s m args below meth c B => ?_)
  refine bX13_vanTold_0 B (c_routeCost h (hA.rv hv) (hA.1.tok hv (by have := hA.m12 hv; omega) (fun i hi => hA.rw30 hv hi))) (Nat.le_of_ble_eq_true rfl) (Nat.le_of_ble_eq_true rfl) h.1.1 (fun r S2 hq2 => ?_)
  obtain ⟨hr, β, h2, f2, hL, y1, y2, y3, y4, y5, -⟩ := hq2
  refine bX13_vanTold_5 B (Nat.le_of_ble_eq_true rfl) (Nat.le_of_ble_eq_true rfl) (fun q hq => ?_)
  have hn := h2.kinds hq
  have h1 := MR_nw h2 hq 21 10
  have kq : kd (nw S2 q 21 10) q = 21 := by rw [kd_nw, if_pos rfl]
  have lq : ln (nw S2 q 21 10) q = 10 := by rw [ln_nw, if_pos rfl]
  revert h1 kq lq
  generalize nw S2 q 21 10 = S1
  intro h1 kq lq
  have n1 : ∀ F, mLen F ≠ 0 → ¬ A F = q := fun F hF z => hn.2.2.2 F hF z.symm
  have ek : (nI v).toNatClampNeg = v := nI_clamp (by omega)
  have hin : ∀ {N}, N = 4 → vp_in (nI v) N := fun e0 => by rw [e0]; exact vp_in_nI hv (by decide)
  have h6 : ∀ j, j < 10 → vp_in (nI j) (ln S1 q) := fun j hj => by rw [lq]; exact vp_in_nI hj (by decide)
  obtain ⟨a1, a2, a3, a4⟩ := h1.ar 910 (by decide)
  obtain ⟨b1, b2, b3, b4⟩ := h1.ar 911 (by decide)
  obtain ⟨c1, c2, c3, c4⟩ := h1.ar 912 (by decide)
  have m1 := n1 910 (by decide)
  have m2 := n1 911 (by decide)
  have m3 := n1 912 (by decide)
  have hm : ∀ g, MR (sRI S1 q g) m0 s0 ah A β := fun g => h1.own hn.2.2.2 g
  have s1 : gI S1 922 m0 = nI (mny α v) := (h1.sc 922 (by decide)).trans hL.1
  have s2 : gI S1 926 m0 = (finV α v).2.2.2.2.1 := (h1.sc 926 (by decide)).trans y1
  have s3 : gI S1 927 m0 = latV α v := (h1.sc 927 (by decide)).trans y2
  have s4 : gI S1 928 m0 = (finV α v).2.2.2.1 := (h1.sc 928 (by decide)).trans y3
  have s5 : gI S1 929 m0 = (finV α v).2.2.2.2.2 := (h1.sc 929 (by decide)).trans y4
  have s6 : gI S1 930 m0 = fullM α (mny α v) (rwf α v) := (h1.sc 930 (by decide)).trans y5
  refine bX13_vanTold_10 B h1.1.1 a1 a2 (hin a3) kq (h6 0 (by omega)) b1 b2 (hin b3) (h6 1 (by omega)) c1 c2 (hin c3) (h6 2 (by omega)) (h6 3 (by omega)) (h6 4 (by omega)) (h6 5 (by omega)) (h6 6 (by omega)) (h6 7 (by omega)) (h6 8 (by omega)) (h6 9 (by omega)) ?_
  simp only [rI_sRI, if_neg m1, if_neg m2, if_neg m3, a4, b4, c4, ek, s1, s2, s3, s4, s5, s6, f2.m 910 rfl, f2.m 911 rfl, f2.m 912 rfl, hr]
  refine bX13_vanTold_87 B kq (h6 u hu) ⟨?_, β, hm _, f2⟩
  rw [rI_sRI, if_pos rfl, nI_clamp (show u < 2 ^ 31 by omega)]
  have hu6 : u = 0 ∨ u = 1 ∨ u = 2 ∨ u = 3 ∨ u = 4 ∨ u = 5 ∨ u = 6 ∨ u = 7 ∨ u = 8 ∨ u = 9 := by omega
  rcases hu6 with rfl | rfl | rfl | rfl | rfl | rfl | rfl | rfl | rfl | rfl <;> rfl
end MVT
