section MC2
variable {l : Launch} {w : Wd} {S : St} {m0 s0 ah : Nat} {A : Nat → Nat}
theorem c_counted {α : Ab} {u : Nat} (h : MR S m0 s0 ah A α) (hA : AI1 α) (hu : u < 12) : ConI l yX13_counted (wsOf yX13_counted cX13_counted 5 (some .int)) rX13_counted w S [.ref m0, .int (nI u)] (fun r S' => r = cntV α u ∧ ∃ β, MR S' m0 s0 ah A β ∧ FrC α β) := by
  refine con_I (by decide +kernel) rfl (Nat.le_of_ble_eq_true rfl) (fun p e s m args below meth c B => ?_)
  refine bX13_counted_0 B (l_ctLoose B h hA ?_ (nP α) 0 (by omega))
  refine bX13_counted_39 B (l_ctCost B hA (fun S2 β h2 f2 => ?_) (nV α) 0 (by omega) S α h FrC.rf)
  refine bX13_counted_66 B (Nat.le_of_ble_eq_true rfl) (Nat.le_of_ble_eq_true rfl) (fun q hq => ?_)
  have hAb := hA.congr f2.m
  have hn := h2.kinds hq
  have h1 := MR_nw h2 hq 21 12
  have kq : kd (nw S2 q 21 12) q = 21 := by rw [kd_nw, if_pos rfl]
  have lq : ln (nw S2 q 21 12) q = 12 := by rw [ln_nw, if_pos rfl]
  revert h1 kq lq
  generalize nw S2 q 21 12 = S1
  intro h1 kq lq
  have h6 : ∀ j, j < 12 → vp_in (nI j) (ln S1 q) := fun j hj => by rw [lq]; exact vp_in_nI hj (by decide)
  have hm : ∀ g, MR (sRI S1 q g) m0 s0 ah A β := fun g => h1.own hn.2.2.2 g
  obtain ⟨⟨g1, g2, g3, g4, g5, g6, g7, g8⟩, -⟩ := id h1
  have s1 : gI S1 832 s0 = α 832 0 := (h1.sc 832 (by decide)).trans (congrFun (f2.m 832 rfl) 0)
  have s2 : gI S1 900 m0 = α 900 0 := (h1.sc 900 (by decide)).trans (congrFun (f2.m 900 rfl) 0)
  have s3 : gI S1 906 m0 = α 906 0 := (h1.sc 906 (by decide)).trans (congrFun (f2.m 906 rfl) 0)
  have s4 : gI S1 909 m0 = α 909 0 := (h1.sc 909 (by decide)).trans (congrFun (f2.m 909 rfl) 0)
  have s5 : gI S1 913 m0 = α 913 0 := (h1.sc 913 (by decide)).trans (congrFun (f2.m 913 rfl) 0)
  have hw : ∀ g v, ConI l yX12_how (wsOf yX12_how cX12_how 4 (some .int)) rX12_how w (sRI S1 q g) [.ref s0, .int v] (fun r S' => sRI S1 q g = S' ∧ r = hwN α v (nP α)) := fun g v => by
    refine conI_mono (c_howD (hm g).self hAb.2.1) (fun r S' hq => ⟨hq.1, ?_⟩)
    rw [hq.2, hwN_congr f2.m, nP_congr f2.m]
  have rr : ∀ g, rI (sRI S1 q g) q = g := fun g => by rw [rI_sRI, if_pos rfl]
  refine bX13_counted_70 B g1 g5 g2 kq (h6 0 (by omega)) (h6 1 (by omega)) (h6 2 (by omega)) (h6 3 (by omega)) (h6 4 (by omega)) g5 (hw _ 0) (Nat.le_of_ble_eq_true rfl) (Nat.le_of_ble_eq_true rfl) g2 (fun r S3 hq3 => ?_)
  obtain ⟨rfl, rfl⟩ := hq3
  have h18 := hw
  refine bX13_counted_118 B kq (h6 5 (by omega)) kq (h6 6 (by omega)) g1 g5 (by rw [sRI_sRI, sRI_sRI]; exact hw _ 1) (Nat.le_of_ble_eq_true rfl) (Nat.le_of_ble_eq_true rfl) g2 (fun r S3 hq3 => ?_)
  obtain ⟨rfl, rfl⟩ := hq3
  refine bX13_counted_135 B kq (h6 7 (by omega)) g1 g5 (by rw [sRI_sRI]; exact hw _ 2) (Nat.le_of_ble_eq_true rfl) (Nat.le_of_ble_eq_true rfl) g2 (fun r S3 hq3 => ?_)
  obtain ⟨rfl, rfl⟩ := hq3
  refine bX13_counted_147 B kq (h6 8 (by omega)) g1 g5 (by rw [sRI_sRI]; exact hw _ 3) (Nat.le_of_ble_eq_true rfl) (Nat.le_of_ble_eq_true rfl) g2 (fun r S3 hq3 => ?_)
  obtain ⟨rfl, rfl⟩ := hq3
  refine bX13_counted_159 B kq (h6 9 (by omega)) g1 g5 (by rw [sRI_sRI]; exact hw _ 4) (Nat.le_of_ble_eq_true rfl) (Nat.le_of_ble_eq_true rfl) g2 (fun r S3 hq3 => ?_)
  obtain ⟨rfl, rfl⟩ := hq3
  refine bX13_counted_171 B kq (h6 10 (by omega)) kq (h6 11 (by omega)) ?_
  simp only [sRI_sRI, rr, s1, s2, s3, s4, s5]
  refine bX13_counted_177 B kq (h6 u hu) ⟨?_, β, hm _, f2⟩
  rw [rr, nI_clamp (show u < 2 ^ 31 by omega)]
  have hu6 : u = 0 ∨ u = 1 ∨ u = 2 ∨ u = 3 ∨ u = 4 ∨ u = 5 ∨ u = 6 ∨ u = 7 ∨ u = 8 ∨ u = 9 ∨ u = 10 ∨ u = 11 := by omega
  rcases hu6 with rfl | rfl | rfl | rfl | rfl | rfl | rfl | rfl | rfl | rfl | rfl | rfl <;> rfl
end MC2
