section MC3
variable {l : Launch} {w : Wd} {S : St} {m0 s0 ah : Nat} {A : Nat → Nat}
theorem c_count {α : Ab} {ia : Int32} (h : MR S m0 s0 ah A α) (hA : AI1 α) : ConI l yX13_count (wsOf yX13_count cX13_count 2 (some .int)) rX13_count w S [.ref m0, .int ia] (PM m0 s0 ah A (opCount α ia)) := by
  refine con_I (by decide +kernel) rfl (Nat.le_of_ble_eq_true rfl) (fun p e s m args below meth c B => ?_)
  have h1 : MR (sI S 896 m0 0) m0 s0 ah A (au α 896 0 0) := h.setS (F := 896) (by decide) 0
  have f1 : FrM α (au α 896 0 0) := FrM.th
  unfold opCount
  refine bX13_count_0 B h.1.1 c_isIn (Nat.le_of_ble_eq_true rfl) (Nat.le_of_ble_eq_true rfl) (fun r S' hq => ?_)
  obtain ⟨rfl, hq⟩ := hq
  rw [show (11 : Int32) = nI 11 from rfl, isIn_ix (n := 11) (by omega)] at hq
  rcases hq with ⟨rfl, hb⟩ | ⟨rfl, hb⟩
  rotate_left
  · rw [if_neg hb]
    exact bX13_count_12 B (fun _ => bX13_count_23 B (c_no h1) (Nat.le_of_ble_eq_true rfl) (Nat.le_of_ble_eq_true rfl) h1.1.1 (fun r S' hq => k_wid (Nat.le_of_ble_eq_true rfl) (Nat.le_of_ble_eq_true rfl) (bX13_count_28 B (hq.back f1)))) (fun z => absurd rfl z)
  rw [if_pos hb]
  obtain ⟨u, hu, rfl⟩ := hb.nI
  rw [cl_nI (show u < 1000 by omega)]
  refine bX13_count_12 B (fun z => absurd z ne1) (fun _ => ?_)
  refine bX13_count_15 B (c_counted h1 (hA.congr f1) (by omega)) (Nat.le_of_ble_eq_true rfl) (Nat.le_of_ble_eq_true rfl) h1.1.1 (fun r S' hq => bX13_count_20 B (k_wid (Nat.le_of_ble_eq_true rfl) (Nat.le_of_ble_eq_true rfl) (bX13_count_28 B ?_)))
  obtain ⟨rfl, β, h2, f2⟩ := hq
  exact PM.rf h2 ((congrFun (f2 896 rfl) 0).trans au_same) (f1.tr f2.m) (cntV_congr f1 ..)
end MC3
