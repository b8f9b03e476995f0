section PLANC
variable {p : Program} {l : Launch} {e : Env} {s : State} {m : MethodId} {args : Array Value} {below : List Frame} {meth : Method} {c : Code} {w : Wd} {S : St}
variable {T : Tb}
theorem l_pscan (B : Bd p s m args meth c cX11_plan 4 (wsOf yX11_plan cX11_plan 4 (some .int)) RX11 w (some .int) "plan") {Q : State → Prop} {α : Ab} {cn tn : Int32} (hA : AIz α)
    (hx : ∀ S', CR w S' T α → ChO S' T (scS α (nP α)) → K p l e rX11_plan s m args below meth c 4 w 0 0 Q S' 56 [(0, .ref (T 0 0)), (1, .int cn), (2, .int tn)] []) :
    ∀ d i, i + d = nP α → ∀ S, CR w S T α → ChO S T (scS α i) → K p l e rX11_plan s m args below meth c 4 w 0 0 Q S 24 [(0, .ref (T 0 0)), (1, .int cn), (2, .int tn), (3, .int (nI i))] [] := by
  have n30 := hA.1.1.2.1.2.2.2.2
  intro d
  induction d with
  | zero =>
    intro i hi S h ho
    have hi : i = nP α := by omega
    subst hi
    refine bX11_plan_24 B h.x.1 h.x.2.2.2.2.2.1 (c_npar h) (h.k1 7 (by decide)) (fun r S1 hq1 => ?_)
    obtain ⟨rfl, rfl⟩ := hq1
    exact bX11_plan_32 B (fun _ => hx S h ho) (fun c => absurd (Int32.le_refl _) c)
  | succ d ih =>
    intro i hi S h ho
    have hip : i < nP α := by omega
    refine bX11_plan_24 B h.x.1 h.x.2.2.2.2.2.1 (c_npar h) (h.k1 7 (by decide)) (fun r S1 hq1 => ?_)
    obtain ⟨rfl, rfl⟩ := hq1
    refine bX11_plan_32 B (fun c => absurd c (nI_ge hip (by omega))) (fun _ => ?_)
    refine bX11_plan_35 B h.x.1 h.x.2.2.2.2.2.1 (c_gpar h hip) (h.k1 7 (by decide)) (fun r S1 hq1 => ?_)
    obtain ⟨rfl, rfl⟩ := hq1
    refine bX11_plan_44 B (h.kp hip) (c_weighPut h hA hip ho) h.x.1 (fun S1 hq1 => bX11_plan_50 B ?_)
    rw [nI_1]
    exact ih (i + 1) (by omega) S1 hq1.1 hq1.2
theorem l_plc (B : Bd p s m args meth c cX11_plan 4 (wsOf yX11_plan cX11_plan 4 (some .int)) RX11 w (some .int) "plan") {Q : State → Prop} : ∀ d (α : Ab), AIz α → ∀ t, t + d = nP α → ∀ cn : Int32,
    (∀ S', CR w S' T (plA α d).2 → K p l e rX11_plan s m args below meth c 4 w 0 0 Q S' 96 [(1, .int (cn + (plA α d).1))] []) →
    ∀ S, CR w S T α → K p l e rX11_plan s m args below meth c 4 w 0 0 Q S 4 [(0, .ref (T 0 0)), (1, .int cn), (2, .int (nI t))] [] := by
  intro d
  induction d with
  | zero =>
    intro α hA t ht cn hx S h
    have ht : t = nP α := by omega
    subst ht
    refine bX11_plan_4 B h.x.1 h.x.2.2.2.2.2.1 (c_npar h) (h.k1 7 (by decide)) (fun r S1 hq1 => ?_)
    obtain ⟨rfl, rfl⟩ := hq1
    refine bX11_plan_12 B (fun _ => ?_) (fun c => absurd (Int32.le_refl _) c)
    refine k_l ?_ (hx S h)
    rw [show (plA α 0).1 = 0 from rfl, i32_add0]
  | succ d ih =>
    intro α hA t ht cn hx S h
    have n30 := hA.1.1.2.1.2.2.2.2
    have htp : t < nP α := by omega
    refine bX11_plan_4 B h.x.1 h.x.2.2.2.2.2.1 (c_npar h) (h.k1 7 (by decide)) (fun r S1 hq1 => ?_)
    obtain ⟨rfl, rfl⟩ := hq1
    refine bX11_plan_12 B (fun c => absurd c (nI_ge htp (by omega))) (fun _ => ?_)
    refine bX11_plan_15 B h.x.1 h.x.2.2.2.2.2.2.2.2.1 (c_forget h) (h.k1 15 (by decide)) (fun S1 hq1 => ?_)
    refine bX11_plan_22 B (l_pscan B hA (fun S2 h2 ho => ?_) (nP α) 0 (by omega) S1 (h.frx hq1.1) hq1.2)
    rcases scS_pS hA.1.1 (nP α) (Nat.le_refl _) with ⟨e1, e2⟩ | ⟨x, q', sp, e1, e2, e3, e4⟩
    · rw [e1] at ho
      have ep : plA α (d + 1) = (0, α) := if_pos (by rw [e2])
      rw [ep] at hx
      refine bX11_plan_56 B h2.x.1 h2.x.2.2.2.2.2.2.2.2.1 (h2.k1 15 (by decide)) (fun y c => by rw [show gP S2 66 (T 15 0) = none from ho] at c; cases c) (fun _ => bX11_plan_66 B ?_)
      refine k_l ?_ (hx S2 h2)
      rw [i32_add0]
    · rw [e1] at ho
      have q30 : ∃ q v k, q < nP α ∧ v < nV α ∧ k ≤ mny α v ∧ mny α v + 1 ≤ 12 ∧ Loose α q ∧ q' = q ∧ sp = nI (16 * v + k) ∧ plS α = putA α q v k := by
        have hne : ¬ (pS α (nP α)).2.1 = -1 := by
          rcases pS_at α (nP α) with z | ⟨q, v, k, z1, z2, z3, z4, z5, z6⟩
          · rw [z] at e2
            have : (1000000 : Int32) = x := congrArg Prod.fst e2
            rw [← this] at e3
            exact absurd e3 (by decide)
          · rw [z4]; exact nI_nm1 (by omega)
        obtain ⟨q, v, k, i1, i2, i3, i4, i5, i6, i7, i8, i9, i10⟩ := plS_ok hA.1.1 hne
        rw [e2] at i6
        have f1 : nI q' = nI q := congrArg (fun z : Int32 × Int32 × Int32 => z.2.1) i6
        have f2 : sp = nI (16 * v + k) := congrArg (fun z : Int32 × Int32 × Int32 => z.2.2) i6
        refine ⟨q, v, k, i1, i2, i3, i4, i5, ?_, f2, i8⟩
        exact (nI_i q' q (by omega) (by omega)).mp f1
      obtain ⟨q, v, k, i1, i2, i3, i4, i5, rfl, rfl, i8⟩ := q30
      have hne : ¬ (pS α (nP α)).2.1 = -1 := by rw [e2]; exact nI_nm1 (by omega)
      have ep : plA α (d + 1) = ((plA (plS α) d).1 + 1, (plA (plS α) d).2) := if_neg hne
      rw [ep, i8] at hx
      have ho' := (vof_iff hA.1.1 q').mp i5.2
      refine bX11_plan_56 B h2.x.1 h2.x.2.2.2.2.2.2.2.2.1 (h2.k1 15 (by decide)) (fun y c => ?_) (fun c => by rw [ho.1] at c; cases c)
      have hp := c_putSpot (l := l) h2 hA.1.1 i2 i3 i1 i4 ho'
      rw [show nI (16 * v + k) = gI S2 65 (T 15 0) from ho.2.2.symm] at hp
      refine bX11_plan_69 B h2.x.1 h2.x.2.2.2.2.2.2.2.2.1 (h2.k1 15 (by decide)) ho.1 h2.x.2.2.2.2.2.2.2.2.1 (h2.k1 15 (by decide)) hp (fun S3 h3 => bX11_plan_87 B ?_)
      rw [nI_1]
      refine ih (putA α q' v k) (hA.put i2 i3 i1 i4 i5) (t + 1) (by rw [nP_putA]; omega) (cn + 1) (fun S4 h4 => ?_) S3 h3.1
      refine k_l ?_ (hx S4 h4)
      rw [Int32.add_assoc, Int32.add_comm 1]
end PLANC
section PLAND
variable {l : Launch} {w : Wd} {S : St} {T : Tb} {α : Ab}
theorem k_plan (h : CR w S T α) (hA : AIz α) : ConI l yX11_plan (wsOf yX11_plan cX11_plan 4 (some .int)) rX11_plan w S [.ref (T 0 0)] (CP w (T 0 0) (opPlan α)) := by
  refine con_I (by decide +kernel) rfl (Nat.le_of_ble_eq_true rfl) (fun p e s m args below meth c B => ?_)
  refine bX11_plan_0 B (l_plc B (nP α) α hA 0 (by omega) 0 (fun S' h' => bX11_plan_96 B (CP.mk h' ?_)) S h)
  show _ = (_, _ + _, _)
  unfold opPlan
  simp
end PLAND
