/-- all that the reference's planner is: counts, routes, the map, orders, what lies in lockers -/
def AI (α : Ab) : Prop := AI1 α ∧ AIw α ∧ LaidOk α
theorem AI1.rows_ok {α : Ab} (h : AI1 α) : RowsOk α := ⟨fun v hv => h.2.2.1 v hv, fun v i hv hi => ⟨(h.2.2.2.2.1 v i hv hi).1, h.rw30 hv hi⟩⟩
theorem LaidOk.congr {α β : Ab} (f : FrM α β) (h : LaidOk α) : LaidOk β := h.of (f 834 rfl) (f 836 rfl) (f 837 rfl)
theorem AI.congr {α β : Ab} (f : FrM α β) (h : AI α) : AI β := ⟨h.1.congr f, h.2.1.D f.d, h.2.2.congr f⟩
theorem becD_at {α : Ab} {F i : Nat} (h1 : 834 ≤ F) (h2 : F ≤ 841) (h : i < mLen F) : becD α F i = α F i := by
  unfold becD; rw [if_pos (by omega)]; exact bec_at h1 h2 h
theorem becD_st {α : Ab} {F : Nat} (h1 : 846 ≤ F) : becD α F = α F := by unfold becD; rw [if_neg (by omega)]
theorem RowsOk_bec {α : Ab} (h : RowsOk α) : RowsOk (becD α) := by
  have e40 : ∀ v, v < 4 → becD α 840 v = α 840 v := fun v hv => becD_at (by decide) (by decide) hv
  have em : ∀ v, v < 4 → mny (becD α) v = mny α v := fun v hv => by unfold mny; rw [e40 v hv]
  have e41 : ∀ v i, v < 4 → i < 12 → becD α 841 (12 * v + i) = α 841 (12 * v + i) := fun v i hv hi => becD_at (by decide) (by decide) (show 12 * v + i < 48 by omega)
  refine ⟨fun v hv => by rw [e40 v hv, em v hv]; exact h.1 v hv, fun v i hv hi => ?_⟩
  rw [em v hv] at hi
  have h12 : i < 12 := by have := (h.1 v hv).2; omega
  have er : rwf (becD α) v i = rwf α v i := by unfold rwf; rw [e41 v i hv h12]
  rw [er, e41 v i hv h12]; exact h.2 v i hv hi
theorem LaidOk_bec {α : Ab} (h : LaidOk α) : LaidOk (becD α) := by
  intro q h30 hq
  rw [becD_at (by decide) (by decide) (show q < 30 from h30)] at hq
  rw [becD_at (by decide) (by decide) (show q < 30 from h30), becD_at (by decide) (by decide) (show q < 30 from h30)]
  exact h q h30 hq
section MFR
variable {l : Launch} {w : Wd} {S : St} {m0 s0 ah : Nat} {A : Nat → Nat}
theorem MD.frm {off x : Nat} {α D : Ab} (h : MD m0 s0 ah A α 0 x D S) : FrM D (wr D 0 α) := by
  intro F hF
  rcases scrP_in hF with ⟨a, b, -⟩ | ⟨a, b⟩
  · exact wr_in (off := 0) a (by omega)
  · exact h.nost (by omega) (by omega)
theorem c_mdrive {α : Ab} (h : MR S m0 s0 ah A α) (hA : AI α) : ConI l yX13_drive (wsOf yX13_drive cX13_drive 1 (some .int)) rX13_drive w S [.ref m0] (fun r S' => ∃ α1, FrM α α1 ∧ PM m0 s0 ah A (0, (driveD α1).1, (driveD α1).2) r S') := by
  refine con_I (by decide +kernel) rfl (Nat.le_of_ble_eq_true rfl) (fun p e s m args below meth c B => ?_)
  have h1 : MR (sI S 896 m0 0) m0 s0 ah A (au α 896 0 0) := h.setS (F := 896) (by decide) 0
  have f1 : FrM α (au α 896 0 0) := FrM.th
  have hA1 := hA.congr f1
  obtain ⟨⟨g1, g2, g3, g4, g5, g6, g7, g8⟩, -⟩ := id h1
  refine bX13_drive_0 B h.1.1 g5 (c_driveD h1.self hA1.2.1 hA1.1.2.1 hA1.1.rows_ok hA1.2.2) g2 (fun r S' hq => bX13_drive_12 B ⟨_, f1, hq.1, _, hq.2.1, ?_, hq.2.frm (off := 0)⟩)
  show wr _ 0 _ 896 0 = _
  rw [wr_out (by decide)]
  exact au_same
/-- what is foreseen -/
def forD (α D : Ab) (what : Nat) : Int32 := if what = 0 then (driveD D).1 else if what = 1 then hwN (driveD D).2 4 (nP α) - hwN α 4 (nP α) else (driveD D).2 833 0
theorem c_mforesee {α : Ab} {ia : Int32} (h : MR S m0 s0 ah A α) (hA : AI α) : ConI l yX13_foresee (wsOf yX13_foresee cX13_foresee 3 (some .int)) rX13_foresee w S [.ref m0, .int ia] (fun r S' => ∃ α1, FrM α α1 ∧ PM m0 s0 ah A (if isIx ia 3 then (0, forD α1 (becD α1) (cl ia), α1) else (1, 0, α1)) r S') := by
  refine con_I (by decide +kernel) rfl (Nat.le_of_ble_eq_true rfl) (fun p e s m args below meth c B => ?_)
  have h1 : MR (sI S 896 m0 0) m0 s0 ah A (au α 896 0 0) := h.setS (F := 896) (by decide) 0
  have f1 : FrM α (au α 896 0 0) := FrM.th
  have hA1 := hA.congr f1
  have t1 : au α 896 0 0 896 0 = 0 := au_same
  revert h1 f1 hA1 t1
  generalize au α 896 0 0 = β
  intro h1 f1 hA1 t1
  obtain ⟨⟨g1, g2, g3, g4, g5, g6, g7, g8⟩, -⟩ := id h1
  refine bX13_foresee_0 B h.1.1 c_isIn (fun r S' hq1 => ?_)
  obtain ⟨rfl, hq1⟩ := hq1
  rw [show (2 : Int32) = nI 2 from rfl, isIn_ix (n := 2) (by omega)] at hq1
  rcases hq1 with ⟨rfl, hd⟩ | ⟨rfl, hd⟩
  rotate_left
  · exact bX13_foresee_11 B (fun z => absurd rfl z) (fun _ => bX13_foresee_14 B (c_no h1) g1 (fun r S' hq => bX13_foresee_19 B ⟨β, f1, by rw [if_neg hd]; exact hq⟩))
  refine bX13_foresee_11 B (fun _ => ?_) (fun z => absurd z ne1)
  obtain ⟨u, hu, rfl⟩ := hd.nI
  rw [cl_nI (by omega)]
  refine bX13_foresee_20 B g1 g6 g5 (c_becomeM h1) g3 (fun S2 h2 => ?_)
  have hw2 : AIw (bec β) := hA1.2.1.D (fun F a b => bec_lo (by omega))
  have hc2 : AIc (bec β) := hA1.1.2.1.congr (fun F hF => bec_lo (by have := scrP_in hF; omega))
  have np2 : nP (bec β) = nP β := by unfold nP; rw [bec_lo (by omega)]
  refine bX13_foresee_31 B h2.1.1 h2.1.2.2.2.2.2.1 (c_driveD h2.ahead hw2 hc2 (RowsOk_bec hA1.1.rows_ok) (LaidOk_bec hA1.2.2)) h2.1.2.2.1 (fun r S3 hq3 => ?_)
  obtain ⟨rfl, h3⟩ := hq3
  -- the state's own has not changed
  have fin : ∀ S4 : St, S4 = S3 → ∀ r, r = forD β (becD β) u → ∃ α1, FrM α α1 ∧ PM m0 s0 ah A (if isIx (nI u) 3 then (0, forD α1 (becD α1) u, α1) else (1, 0, α1)) r S4 := by
    intro S4 e4 r hr
    subst e4
    refine ⟨β, f1, ?_⟩
    rw [if_pos hd]
    refine ⟨hr, _, h3.1, ?_, fun F hF => ?_⟩
    · rw [wr_out (by omega), bec_lo (by omega)]; exact t1
    · rw [wr_out (by have := scrP_in hF; omega), bec_lo (by have := scrP_in hF; omega)]
  have h3s : MD m0 s0 ah A (wr (driveD (becD β)).2 1000 (bec β)) 0 s0 (wr (driveD (becD β)).2 1000 (bec β)) S3 := h3.1.self
  have hc3 : AIc (wr (driveD (becD β)).2 1000 (bec β)) := hc2.congr (fun F hF => wr_out (by have := scrP_in hF; omega))
  have np3 : nP (wr (driveD (becD β)).2 1000 (bec β)) = nP β := by rw [← np2]; unfold nP; rw [wr_out (by omega)]
  have hwc : ∀ n, hwN (wr (driveD (becD β)).2 1000 (bec β)) 4 n = hwN β 4 n := by
    intro n
    induction n with
    | zero => rfl
    | succ n ih => unfold hwN; rw [ih, wr_out (by omega), bec_lo (by omega)]
  refine bX13_foresee_38 B (fun c => ?_) (fun c => ?_)
  · rw [show (0 : Int32) = nI 0 from rfl, nI_eq (by omega) (by omega)] at c
    refine bX13_foresee_47 B (fun c2 => ?_) (fun c2 => ?_)
    · rw [show (1 : Int32) = nI 1 from rfl, nI_eq (by omega) (by omega)] at c2
      refine bX13_foresee_72 B h3.1.1.1 h3.1.1.2.2.2.2.2.1 h3.knd.1 (bX13_foresee_79 B (fin S3 rfl _ ?_))
      rw [h3.sc 833 (by decide) (by decide) rfl]
      unfold forD
      rw [if_neg c, if_neg c2]
    · rw [show (1 : Int32) = nI 1 from rfl, nI_eq (by omega) (by omega)] at c2
      refine bX13_foresee_52 B h3.1.1.1 h3.1.1.2.2.2.2.2.1 (c_howD h3 hc2) h3.knd.1 (fun r S4 hq4 => ?_)
      obtain ⟨rfl, rfl⟩ := hq4
      refine bX13_foresee_60 B h3.1.1.1 h3.1.1.2.2.2.2.1 (c_howD h3s hc3) h3s.knd.1 (fun r S4 hq4 => ?_)
      obtain ⟨rfl, rfl⟩ := hq4
      refine bX13_foresee_68 B (bX13_foresee_79 B (fin S3 rfl _ ?_))
      rw [np2, np3, hwc]
      unfold forD
      rw [if_neg c, if_pos c2]
  · rw [show (0 : Int32) = nI 0 from rfl, nI_eq (by omega) (by omega)] at c
    refine bX13_foresee_43 B (bX13_foresee_79 B (fin S3 rfl _ ?_))
    unfold forD
    rw [if_pos c]
end MFR
