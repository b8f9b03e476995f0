def im2 (b : Int32 × Int32 × Int32) : Int32 × Int32 := if b.2.1 = -1 then (0, 0) else b.2
section IMPRC
variable {p : Program} {l : Launch} {e : Env} {s : State} {m : MethodId} {args : Array Value} {below : List Frame} {meth : Method} {c : Code} {w : Wd} {S : St}
variable {T : Tb}
theorem l_imI2 (B : Bd p s m args meth c cX11_improve 10 (wsOf yX11_improve cX11_improve 10 (some .int)) RX11 w (some .int) "improve") (hl : l.stackTraces = false) (ht : ∀ x ∈ c.exceptionTable.toList, False) {Qc : Array Value → State → Outcome → State → Prop} {px' : String → St → Prop} {ka na : Nat} (hka : ka ≤ rX11_improve.cells) (hna : na ≤ rX11_improve.slots) {α : Ab} {v a : Nat} {x3 : Int32} {b0 : Int32 × Int32 × Int32} (hA : AIz α) (hv : v < nV α) (ha : a < mny α v)
    (hx : ∀ S', CR w S' T α → K p l e rX11_improve s m args below meth c 10 w ka na (vx_MQ below Qc (XCs w px') args s rX11_improve.cells rX11_improve.slots (wA w)) S' 156 [(0, .ref (T 0 0)), (2, .ref (T 27 v)), (3, .int x3), (4, .int (imI α v a b0 (mny α v - (a + 1))).1), (5, .int (im2 (imI α v a b0 (mny α v - (a + 1)))).1), (6, .int (im2 (imI α v a b0 (mny α v - (a + 1)))).2), (7, .int (nI a))] []) :
    ∀ d j, j + d = mny α v - (a + 1) → ∀ S, CR w S T α → K p l e rX11_improve s m args below meth c 10 w ka na (vx_MQ below Qc (XCs w px') args s rX11_improve.cells rX11_improve.slots (wA w)) S 66 [(0, .ref (T 0 0)), (2, .ref (T 27 v)), (3, .int x3), (4, .int (imI α v a b0 j).1), (5, .int (im2 (imI α v a b0 j)).1), (6, .int (im2 (imI α v a b0 j)).2), (7, .int (nI a)), (8, .int (nI (a + 1 + j)))] [] := by
  have v4 := hA.1.1.v4 hv
  have m12 := hA.1.1.m12 v4
  have ap := fun {S : St} (h : CR w S T α) => h.apart hv (Or.inl rfl : (16 : Nat) = 16 ∨ (16 : Nat) = 18)
  intro d
  induction d with
  | zero =>
    intro j hj S h
    have hj : j = mny α v - (a + 1) := by omega
    subst hj
    exact bX11_improve_66 B hl ht (h.kv hv).1 (h.kv hv).2.1 (h.kv hv).2.2 (fun _ => hx S h) (fun c => absurd (by rw [(h.va hv).2.2.2.2.1]; exact nI_le (by omega) (by omega)) c)
  | succ d ih =>
    intro j hj S h
    have go := ih (j + 1) (by omega)
    have hb : a + 1 + j < mny α v := by omega
    have hR := h.rv hA.1.1 hv
    have hL := rw_P hA.1.1 hv
    have next : ∀ S', CR w S' T α → ∀ b : Int32 × Int32 × Int32, imI α v a b0 (j + 1) = b → K p l e rX11_improve s m args below meth c 10 w ka na (vx_MQ below Qc (XCs w px') args s rX11_improve.cells rX11_improve.slots (wA w)) S' 150 [(0, .ref (T 0 0)), (2, .ref (T 27 v)), (3, .int x3), (4, .int b.1), (5, .int (im2 b).1), (6, .int (im2 b).2), (7, .int (nI a)), (8, .int (nI (a + 1 + j)))] [] := by
      intro S' h' b e
      refine bX11_improve_150 B hl ht ?_
      rw [nI_1, ← e]
      exact go S' h'
    refine bX11_improve_66 B hl ht (h.kv hv).1 (h.kv hv).2.1 (h.kv hv).2.2 (fun c => absurd c (by rw [(h.va hv).2.2.2.2.1]; exact nI_ge hb (by omega))) (fun _ => ?_)
    refine bX11_improve_78 B hl ht h.x.1 h.x.2.2.2.2.2.2.2.2.2.1 (h.kv hv).1 (h.kv hv).2.1 (c_copyX h (Or.inl rfl) hR hL (ap h).1 (ap h).2) hka hna (h.k1 16 (by decide)) (fun S1 hq1 => ?_)
    obtain ⟨f1, m1⟩ := hq1
    have h1 := h.frx (f1.frx (Or.inl rfl))
    refine bX11_improve_89 B hl ht h1.x.1 h1.x.2.2.2.2.2.2.2.2.2.1 (c_turX (a := a) (b := a + 1 + j) h1 (Or.inl rfl) m1 hb (by omega) hL) hka hna (h1.k1 16 (by decide)) (fun S2 hq2 => ?_)
    obtain ⟨f2, m2⟩ := hq2
    have h2 := h1.frx (f2.frx (Or.inl rfl))
    have hL2 := revF_P (a := a) hb hL
    have h0 : imI α v a b0 (j + 1) = if ¬ α 910 v < fullM α (mny α v) (revF (rwf α v) a (a + 1 + j)) ∧ costM α v (mny α v) (revF (rwf α v) a (a + 1 + j)) < (imI α v a b0 j).1 then (costM α v (mny α v) (revF (rwf α v) a (a + 1 + j)), nI a, nI (a + 1 + j)) else imI α v a b0 j := rfl
    refine bX11_improve_100 B hl ht h2.x.1 h2.x.2.2.2.2.2.2.2.2.2.1 (h2.kv hv).1 (c_fitX (v := v) h2 hv m2 hL2) hka hna (h2.k1 16 (by decide)) (fun x S3 hq3 => ?_)
    obtain ⟨rfl, hf⟩ := hq3
    rcases hf with ⟨rfl, hf⟩ | ⟨rfl, hf⟩
    · refine bX11_improve_111 B hl ht (fun _ => ?_) (fun z => absurd z (by decide))
      refine bX11_improve_117 B hl ht h2.x.1 h2.x.2.2.2.2.2.2.1 h2.x.2.2.2.2.2.2.2.2.2.1 (c_fol h2 hA hv m2 m12 hL2) hka hna (h2.k1 8 (by decide)) (fun x S3 hq3 => ?_)
      obtain ⟨rfl, fq⟩ := hq3
      have h3 := h2.frx (FrX.ofS fq.frs)
      refine bX11_improve_129 B hl ht (fun c => ?_) (fun c => ?_)
      · exact next S3 h3 (imI α v a b0 j) (h0.trans (if_neg (fun z => absurd z.2 (Int32.not_lt.mpr c))))
      · refine bX11_improve_138 B hl ht ?_
        have := next S3 h3 (costM α v (mny α v) (revF (rwf α v) a (a + 1 + j)), nI a, nI (a + 1 + j)) (h0.trans (if_pos ⟨hf.2, Int32.not_le.mp c⟩))
        unfold im2 at this
        simp only [if_neg (nI_nm1 (v := a) (by omega))] at this
        exact this
    · refine bX11_improve_111 B hl ht (fun z => absurd rfl z) (fun _ => bX11_improve_114 B hl ht ?_)
      exact next S2 h2 (imI α v a b0 j) (h0.trans (if_neg (fun z => hf ⟨m12, z.1⟩)))
theorem l_imA2 (B : Bd p s m args meth c cX11_improve 10 (wsOf yX11_improve cX11_improve 10 (some .int)) RX11 w (some .int) "improve") (hl : l.stackTraces = false) (ht : ∀ x ∈ c.exceptionTable.toList, False) {Qc : Array Value → State → Outcome → State → Prop} {px' : String → St → Prop} {ka na : Nat} (hka : ka ≤ rX11_improve.cells) (hna : na ≤ rX11_improve.slots) {α : Ab} {v : Nat} {x3 : Int32} (hA : AIz α) (hv : v < nV α)
    (hx : ∀ S', CR w S' T α → K p l e rX11_improve s m args below meth c 10 w ka na (vx_MQ below Qc (XCs w px') args s rX11_improve.cells rX11_improve.slots (wA w)) S' 162 [(2, .ref (T 27 v)), (3, .int x3), (4, .int (imA α v (mny α v)).1), (5, .int (im2 (imA α v (mny α v))).1), (6, .int (im2 (imA α v (mny α v))).2)] []) :
    ∀ d a, a + d = mny α v → ∀ S, CR w S T α → K p l e rX11_improve s m args below meth c 10 w ka na (vx_MQ below Qc (XCs w px') args s rX11_improve.cells rX11_improve.slots (wA w)) S 48 [(0, .ref (T 0 0)), (2, .ref (T 27 v)), (3, .int x3), (4, .int (imA α v a).1), (5, .int (im2 (imA α v a)).1), (6, .int (im2 (imA α v a)).2), (7, .int (nI a))] [] := by
  have v4 := hA.1.1.v4 hv
  have m12 := hA.1.1.m12 v4
  intro d
  induction d with
  | zero =>
    intro a ha S h
    have ha : a = mny α v := by omega
    subst ha
    exact bX11_improve_48 B hl ht (h.kv hv).1 (h.kv hv).2.1 (h.kv hv).2.2 (fun _ => hx S h) (fun c => absurd (by rw [(h.va hv).2.2.2.2.1]; exact Int32.le_refl _) c)
  | succ d ih =>
    intro a ha S h
    have ham : a < mny α v := by omega
    refine bX11_improve_48 B hl ht (h.kv hv).1 (h.kv hv).2.1 (h.kv hv).2.2 (fun c => absurd c (by rw [(h.va hv).2.2.2.2.1]; exact nI_ge ham (by omega))) (fun _ => ?_)
    refine bX11_improve_60 B hl ht ?_
    rw [nI_1]
    refine l_imI2 B hl ht hka hna hA hv ham (b0 := imA α v a) (fun S' h' => ?_) (mny α v - (a + 1)) 0 (by omega) S h
    refine bX11_improve_156 B hl ht ?_
    rw [nI_1]
    exact ih (a + 1) (by omega) S' h'
end IMPRC
section IMPRD
variable {l : Launch} {w : Wd} {S : St} {T : Tb} {α : Ab}
theorem k_improve (hf : l.stackTraces = false) (h : CR w S T α) (hA : AIz α) {a : Int32} : ConXI l yX11_improve (wsOf yX11_improve cX11_improve 10 (some .int)) rX11_improve w S [.ref (T 0 0), .int a] (CP w (T 0 0) (opImprove α a)) (CE w (T 0 0) [nIO] (opImprove α a)) := by
  have n4 := hA.1.1.2.1.2.2.1.2
  refine conX_I (by decide +kernel) rfl (Nat.le_of_ble_eq_true rfl) (fun p e s m args below meth c B ht => ?_)
  refine bX11_improve_0 B hf ht h.x.1 h.x.2.2.2.2.1 (c_nvan h) (Nat.le_of_ble_eq_true rfl) (Nat.le_of_ble_eq_true rfl) (h.k1 6 (by decide)) (fun r S' hq => ?_)
  obtain ⟨rfl, rfl⟩ := hq
  refine bX11_improve_8 B hf ht (c_needIx hf (by omega)) (Nat.le_of_ble_eq_true rfl) (Nat.le_of_ble_eq_true rfl) (fun E S' hq => ?_) (fun S' hq => ?_)
  · obtain ⟨rfl, rfl, hn⟩ := hq
    exact CE.mk 0 rfl h (if_neg hn)
  obtain ⟨rfl, h1⟩ := hq
  have eo : opImprove α a = if (imA α (cl a) (mny α (cl a))).2.1 = -1 then (0, 0, α) else (0, rc α (cl a) - (imA α (cl a) (mny α (cl a))).1, setRow α (cl a) (mny α (cl a)) (revF (rwf α (cl a)) (cl (imA α (cl a) (mny α (cl a))).2.1) (cl (imA α (cl a) (mny α (cl a))).2.2))) := if_pos h1
  obtain ⟨v, hv, rfl⟩ := h1.nI
  have hA1 := hA.1.1
  have v4 := hA1.v4 hv
  have m12 := hA1.m12 v4
  rw [cl_nI (by omega)] at eo
  refine bX11_improve_11 B hf ht h.x.1 h.x.2.2.2.2.1 (c_gvan h hv) (Nat.le_of_ble_eq_true rfl) (Nat.le_of_ble_eq_true rfl) (h.k1 6 (by decide)) (fun r S' hq1 => ?_)
  obtain ⟨rfl, rfl⟩ := hq1
  refine bX11_improve_19 B hf ht (h.kv hv).1 h.x.1 h.x.2.2.2.2.2.2.1 (h.kv hv).2.1 (c_fol h hA hv (h.rv hA1 hv) m12 (rw_P hA1 hv)) (Nat.le_of_ble_eq_true rfl) (Nat.le_of_ble_eq_true rfl) (h.k1 8 (by decide)) (fun r S1 hq1 => ?_)
  obtain ⟨rfl, fq⟩ := hq1
  refine bX11_improve_35 B hf ht (l_imA2 B hf ht (Nat.le_of_ble_eq_true rfl) (Nat.le_of_ble_eq_true rfl) hA hv (fun S2 h2 => ?_) (mny α v) 0 (by omega) S1 (h.frx (FrX.ofS fq.frs)))
  rcases imA_at α v (mny α v) (Nat.le_refl _) with z | ⟨a, b, hab, hb, z⟩
  · have e1 : (imA α v (mny α v)).2.1 = -1 := by rw [z]
    have e2 : im2 (imA α v (mny α v)) = (0, 0) := if_pos e1
    have e3 : (imA α v (mny α v)).1 = rc α v := by rw [z]
    rw [e2, e3]
    rw [if_pos e1] at eo
    refine bX11_improve_162 B hf ht (h2.kv hv).1 (h2.kv hv).2.1 c_turn0 (Nat.le_of_ble_eq_true rfl) (Nat.le_of_ble_eq_true rfl) (h2.kv hv).2.2 (fun S3 hq3 => ?_)
    subst hq3
    refine bX11_improve_173 B hf ht (Nat.le_of_ble_eq_true rfl) (Nat.le_of_ble_eq_true rfl) (CP.mk h2 ?_)
    rw [eo]
    show _ = (_, rc α v - rc α v, _)
    simp
  · have e1 : ¬ (imA α v (mny α v)).2.1 = -1 := by rw [z]; exact nI_nm1 (by omega)
    have e2 : im2 (imA α v (mny α v)) = (nI a, nI b) := (if_neg e1).trans z
    have ea : (imA α v (mny α v)).2.1 = nI a := congrArg Prod.fst z
    have eb : (imA α v (mny α v)).2.2 = nI b := congrArg Prod.snd z
    rw [e2]
    rw [if_neg e1, ea, eb, cl_nI (by omega), cl_nI (by omega)] at eo
    refine bX11_improve_162 B hf ht (h2.kv hv).1 (h2.kv hv).2.1 (c_turn (h2.rv hA1 hv) hb (by omega)) (Nat.le_of_ble_eq_true rfl) (Nat.le_of_ble_eq_true rfl) (h2.kv hv).2.2 (fun S3 hq3 => ?_)
    obtain ⟨g, rfl, g2⟩ := hq3
    have hB := rev_ai1 hA1 hv hb (show a ≤ b by omega)
    refine bX11_improve_173 B hf ht (Nat.le_of_ble_eq_true rfl) (Nat.le_of_ble_eq_true rfl) (CP.mk (h2.row hA1 (g := g) hv m12 (revF_P hb (rw_P hA1 hv)) (fun i hi => (g2 i hi).trans (congrArg some revF_L)) (fun _ => rfl) (fun _ => rfl) (fun f x => ?_) (fun f x _ => rfl) (fun _ => rfl) (fun x => rP_sRP ..) (fun q hq => ?_)) (by rw [eo]; rfl))
    · rw [gI_sRP]
      split
      · rename_i c; rw [c.1, c.2]; exact (h2.va hv).2.2.2.2.1
      · rfl
    · have e5 : vop T (setRow α v (mny α v) (revF (rwf α v) a b)) q = vop T α q := by unfold vop; rw [vof_revA hA1 hv hb (by omega) hB]
      rw [e5]
      exact (h2.pa hq).2.1
end IMPRD
