section MVU
variable {l : Launch} {w : Wd} {S : St} {m0 s0 ah : Nat} {A : Nat → Nat}
theorem c_van {α : Ab} {ia ib : Int32} (h : MR S m0 s0 ah A α) (hA : AI1 α) : ConI l yX13_van (wsOf yX13_van cX13_van 3 (some .int)) rX13_van w S [.ref m0, .int ia, .int ib] (PM m0 s0 ah A (opTellV α ia ib)) := by
  refine con_I (by decide +kernel) rfl (Nat.le_of_ble_eq_true rfl) (fun p e s m args below meth c B => ?_)
  have h1 : MR (sI S 896 m0 0) m0 s0 ah A (au α 896 0 0) := h.setS (F := 896) (by decide) 0
  have f1 : FrM α (au α 896 0 0) := FrM.th
  have bad : ¬ (isIx ia (nV α) ∧ isIx ib 10) → K p l e rX13_van s m args below meth c 3 w 0 0 (MQ below (va_Qi (PM m0 s0 ah A (opTellV α ia ib)) (fun S' t => Hd w S' t.heap) (wA w)) args s rX13_van.cells rX13_van.slots (wA w)) (sI S 896 m0 0) 32 [(0, .ref m0)] [] := by
    intro hn
    refine bX13_van_32 B (c_no h1) (Nat.le_of_ble_eq_true rfl) (Nat.le_of_ble_eq_true rfl) h1.1.1 (fun r S' hq => k_wid (Nat.le_of_ble_eq_true rfl) (Nat.le_of_ble_eq_true rfl) (bX13_van_37 B ?_))
    unfold opTellV
    rw [if_neg hn]
    exact hq.back f1
  refine bX13_van_0 B h.1.1 (c_isVan h1 (hA.2.1.congr f1)) (Nat.le_of_ble_eq_true rfl) (Nat.le_of_ble_eq_true rfl) (fun r S' hq => ?_)
  obtain ⟨rfl, hq⟩ := hq
  rw [nV_congr f1] at hq
  rcases hq with ⟨rfl, ha⟩ | ⟨rfl, ha⟩
  rotate_left
  · exact bX13_van_10 B (fun _ => bad (fun z => ha z.1)) (fun z => absurd rfl z)
  refine bX13_van_10 B (fun z => absurd z ne1) (fun _ => bX13_van_13 B c_isIn (Nat.le_of_ble_eq_true rfl) (Nat.le_of_ble_eq_true rfl) (fun r S' hq => ?_))
  obtain ⟨rfl, hq⟩ := hq
  rw [show (9 : Int32) = nI 9 from rfl, isIn_ix (n := 9) (by omega)] at hq
  rcases hq with ⟨rfl, hb⟩ | ⟨rfl, hb⟩
  rotate_left
  · exact bX13_van_20 B (fun _ => bad (fun z => hb z.2)) (fun z => absurd rfl z)
  refine bX13_van_20 B (fun z => absurd z ne1) (fun _ => ?_)
  unfold opTellV
  rw [if_pos ⟨ha, hb⟩]
  have n16 := hA.2.1.2.2.1.2
  obtain ⟨k, hk, rfl⟩ := ha.nI
  obtain ⟨u, hu, rfl⟩ := hb.nI
  rw [cl_nI (show k < 1000 by omega), cl_nI (show u < 1000 by omega)]
  refine bX13_van_23 B (c_vanTold h1 (hA.congr f1) (show k < 4 by omega) (by omega)) (Nat.le_of_ble_eq_true rfl) (Nat.le_of_ble_eq_true rfl) h1.1.1 (fun r S' hq => bX13_van_29 B (k_wid (Nat.le_of_ble_eq_true rfl) (Nat.le_of_ble_eq_true rfl) (bX13_van_37 B ?_)))
  obtain ⟨rfl, β, h2, f2⟩ := hq
  exact PM.rf h2 ((congrFun (f2 896 rfl) 0).trans au_same) (f1.tr f2.m) (vanV_congr f1 ..)
end MVU
