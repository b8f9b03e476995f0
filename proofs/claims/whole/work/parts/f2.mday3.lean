/-! THE REFERENCE'S DAY at its own numbers -/
section MFR3
variable {l : Launch} {w : Wd} {S : St} {m0 s0 ah : Nat} {A : Nat → Nat}
theorem c_mdrive2 {α : Ab} (h : MR S m0 s0 ah A α) (hA : AI α) : ConI l yX13_drive (wsOf yX13_drive cX13_drive 1 (some .int)) rX13_drive w S [.ref m0] (PM m0 s0 ah A (0, (driveD (au α 896 0 0)).1, (driveD (au α 896 0 0)).2)) := by
  refine con_I (by decide +kernel) rfl (Nat.le_of_ble_eq_true rfl) (fun p e s m args below meth c B => ?_)
  have h1 : MR (sI S 896 m0 0) m0 s0 ah A (au α 896 0 0) := h.setS (F := 896) (by decide) 0
  have f1 : FrM α (au α 896 0 0) := FrM.th
  have hA1 := hA.congr f1
  obtain ⟨⟨g1, g2, g3, g4, g5, g6, g7, g8⟩, -⟩ := id h1
  refine bX13_drive_0 B h.1.1 g5 (c_driveD h1.self hA1.2.1 hA1.1.2.1 hA1.1.rows_ok hA1.2.2) g2 (fun r S' hq => bX13_drive_12 B ⟨hq.1, _, hq.2.1, ?_, hq.2.frm (off := 0)⟩)
  show wr _ 0 _ 896 0 = _
  rw [wr_out (by decide)]
  exact au_same
theorem c_mforesee2 {α : Ab} {ia : Int32} (h : MR S m0 s0 ah A α) (hA : AI α) : ConI l yX13_foresee (wsOf yX13_foresee cX13_foresee 3 (some .int)) rX13_foresee w S [.ref m0, .int ia] (PM m0 s0 ah A (if isIx ia 3 then (0, forD (au α 896 0 0) (becD (au α 896 0 0)) (cl ia), au α 896 0 0) else (1, 0, au α 896 0 0))) := by
  refine con_I (by decide +kernel) rfl (Nat.le_of_ble_eq_true rfl) (fun p e s m args below meth c B => ?_)
  have h1 : MR (sI S 896 m0 0) m0 s0 ah A (au α 896 0 0) := h.setS (F := 896) (by decide) 0
  have f1 : FrM α (au α 896 0 0) := FrM.th
  have hA1 := hA.congr f1
  have t1 : au α 896 0 0 896 0 = 0 := au_same
  revert h1 f1 hA1 t1
  generalize au α 896 0 0 = β
  intro h1 f1 hA1 t1
  obtain ⟨⟨g1, g2, g3, g4, g5, g6, g7, g8⟩, -⟩ := id h1
  refine bX13_foresee_0 B h.1.1 c_isIn (fun r S' hq1 => ?_)
  obtain ⟨rfl, hq1⟩ := hq1
  rw [show (2 : Int32) = nI 2 from rfl, isIn_ix (n := 2) (by omega)] at hq1
  rcases hq1 with ⟨rfl, hd⟩ | ⟨rfl, hd⟩
  rotate_left
  · exact bX13_foresee_11 B (fun z => absurd rfl z) (fun _ => bX13_foresee_14 B (c_no h1) g1 (fun r S' hq => bX13_foresee_19 B (by rw [if_neg hd]; exact hq)))
  refine bX13_foresee_11 B (fun _ => ?_) (fun z => absurd z ne1)
  obtain ⟨u, hu, rfl⟩ := hd.nI
  rw [cl_nI (by omega)]
  refine bX13_foresee_20 B g1 g6 g5 (c_becomeM h1) g3 (fun S2 h2 => ?_)
  have hw2 : AIw (bec β) := hA1.2.1.D (fun F a b => bec_lo (by omega))
  have hc2 : AIc (bec β) := hA1.1.2.1.congr (fun F hF => bec_lo (by have := scrP_in hF; omega))
  have np2 : nP (bec β) = nP β := by unfold nP; rw [bec_lo (by omega)]
  refine bX13_foresee_31 B h2.1.1 h2.1.2.2.2.2.2.1 (c_driveD h2.ahead hw2 hc2 (RowsOk_bec hA1.1.rows_ok) (LaidOk_bec hA1.2.2)) h2.1.2.2.1 (fun r S3 hq3 => ?_)
  obtain ⟨rfl, h3⟩ := hq3
  -- the state's own has not changed
  have fin : ∀ S4 : St, S4 = S3 → ∀ r, r = forD β (becD β) u → PM m0 s0 ah A (if isIx (nI u) 3 then (0, forD β (becD β) u, β) else (1, 0, β)) r S4 := by
    intro S4 e4 r hr
    subst e4
    rw [if_pos hd]
    refine ⟨hr, _, h3.1, ?_, fun F hF => ?_⟩
    · rw [wr_out (by omega), bec_lo (by omega)]; exact t1
    · rw [wr_out (by have := scrP_in hF; omega), bec_lo (by have := scrP_in hF; omega)]
  have h3s : MD m0 s0 ah A (wr (driveD (becD β)).2 1000 (bec β)) 0 s0 (wr (driveD (becD β)).2 1000 (bec β)) S3 := h3.1.self
  have hc3 : AIc (wr (driveD (becD β)).2 1000 (bec β)) := hc2.congr (fun F hF => wr_out (by have := scrP_in hF; omega))
  have np3 : nP (wr (driveD (becD β)).2 1000 (bec β)) = nP β := by rw [← np2]; unfold nP; rw [wr_out (by omega)]
  have hwc : ∀ n, hwN (wr (driveD (becD β)).2 1000 (bec β)) 4 n = hwN β 4 n := by
    intro n
    induction n with
    | zero => rfl
    | succ n ih => unfold hwN; rw [ih, wr_out (by omega), bec_lo (by omega)]
  refine bX13_foresee_38 B (fun c => ?_) (fun c => ?_)
  · rw [show (0 : Int32) = nI 0 from rfl, nI_eq (by omega) (by omega)] at c
    refine bX13_foresee_47 B (fun c2 => ?_) (fun c2 => ?_)
    · rw [show (1 : Int32) = nI 1 from rfl, nI_eq (by omega) (by omega)] at c2
      refine bX13_foresee_72 B h3.1.1.1 h3.1.1.2.2.2.2.2.1 h3.knd.1 (bX13_foresee_79 B (fin S3 rfl _ ?_))
      rw [h3.sc 833 (by decide) (by decide) rfl]
      unfold forD
      rw [if_neg c, if_neg c2]
    · rw [show (1 : Int32) = nI 1 from rfl, nI_eq (by omega) (by omega)] at c2
      refine bX13_foresee_52 B h3.1.1.1 h3.1.1.2.2.2.2.2.1 (c_howD h3 hc2) h3.knd.1 (fun r S4 hq4 => ?_)
      obtain ⟨rfl, rfl⟩ := hq4
      refine bX13_foresee_60 B h3.1.1.1 h3.1.1.2.2.2.2.1 (c_howD h3s hc3) h3s.knd.1 (fun r S4 hq4 => ?_)
      obtain ⟨rfl, rfl⟩ := hq4
      refine bX13_foresee_68 B (bX13_foresee_79 B (fin S3 rfl _ ?_))
      rw [np2, np3, hwc]
      unfold forD
      rw [if_neg c, if_pos c2]
  · rw [show (0 : Int32) = nI 0 from rfl, nI_eq (by omega) (by omega)] at c
    refine bX13_foresee_43 B (bX13_foresee_79 B (fin S3 rfl _ ?_))
    unfold forD
    rw [if_pos c]
end MFR3
