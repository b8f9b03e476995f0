/-! THE START: what the Statement gives -/
theorem str_ref {own : String} {k : Nat} {C : String} {args : Array Value} {s : State} (h : (Cond.exactly (.string own k) C).before args s = true) : ∃ a : Nat, (Term.string own k).eval args s none [] s = some (.ref a) := by
  obtain ⟨a, -, -, -, h1, -⟩ := Cond.exactly_spec h
  exact ⟨a, h1⟩
theorem zs_of {b : Nat} {s : State} (hts : ∀ w ∈ lw_tbl, w.before #[Value.ref b] s = true) (hgv : (Jvm.Cond.and given_1 narrow_1).before #[Value.ref b] s = true) : ∃ wB wE wM : Nat, ∀ (D : va_G) (i1 i2 i3 i4 : ClassId), Zs (D, i1, i2, i3, i4, [], (fun q : Nat => s.heap.size ≤ q), wB, wE, wM) s s.heap := by
  have G := flat_of_before _ hgv
  have hA : ∀ a : Nat, a < s.heap.size → ¬ (fun q : Nat => s.heap.size ≤ q) a := fun a h => Nat.not_le.mpr h
  obtain ⟨wB, b1, b2⟩ := va_Tof (tm := .static "LastMile" "BOX_VOLUMES" "[I") (ty := .int) (N := 3) (f := fun j => .int (if j = 0 then 5 else if j = 1 then 15 else 40)) (A := fun q : Nat => s.heap.size ≤ q) (by decide) (G _ (by decide +kernel)) (va_eqt (z := 3) (G _ (by decide +kernel))) (fun j hj => by
    rcases (show j = 0 ∨ j = 1 ∨ j = 2 by omega) with rfl | rfl | rfl
    · exact va_eqt (z := 5) (G (Cond.eq (.elem (.static "LastMile" "BOX_VOLUMES" "[I") (.int 0)) (.int 5)) (by decide +kernel))
    · exact va_eqt (z := 15) (G (Cond.eq (.elem (.static "LastMile" "BOX_VOLUMES" "[I") (.int 1)) (.int 15)) (by decide +kernel))
    · exact va_eqt (z := 40) (G (Cond.eq (.elem (.static "LastMile" "BOX_VOLUMES" "[I") (.int 2)) (.int 40)) (by decide +kernel))) hA
  obtain ⟨wE, e1, e2⟩ := va_Tof (tm := .static "java/util/ArrayList" "DEFAULTCAPACITY_EMPTY_ELEMENTDATA" "[Ljava/lang/Object;") (ty := .object "java/lang/Object") (N := 0) (f := fun _ => .null) (A := fun q : Nat => s.heap.size ≤ q) (by decide) (G _ (by decide +kernel)) (va_eqt (z := 0) (G _ (by decide +kernel))) (fun j hj => absurd hj (Nat.not_lt_zero _)) hA
  obtain ⟨wM, hM⟩ := va_Mi.of (C := "[Ljava/lang/Object;") (G (Cond.isRef (.mirror "[Ljava/lang/Object;")) (by decide +kernel))
  refine ⟨wB, wE, wM, fun D i1 i2 i3 i4 => ⟨⟨va_Zref (hts _ (by decide +kernel)) (hts _ (by decide +kernel)) b1 hA, b2⟩, ⟨va_Zref (hts _ (by decide +kernel)) (hts _ (by decide +kernel)) e1 hA, e2⟩, ⟨va_AO.of (hts (.arrayOver (.object "LastMile$Parcel")) (by decide +kernel)), va_AO.of (hts (.arrayOver (.object "java/lang/Object")) (by decide +kernel)), hM, va_Dc.of (hts (.declares ⟨"java/lang/Object", "getClass", "()Ljava/lang/Class;"⟩) (by decide +kernel)), fun q hq => ?_⟩, ⟨fun q hq => ?_, fun q hq => ?_⟩, ?_⟩⟩
  · have h := List.all_eq_true.mp (show NOb.all (fun q => decide (Cond.castable q "java/lang/Object" ∈ lw_tbl)) = true by decide +kernel) q hq
    exact va_Nw.of rfl (hts _ (of_decide_eq_true h))
  · have h := List.all_eq_true.mp (show NF.all (fun q => decide (Cond.fieldLinkNest q.1 q.2.1 q.2.2.1 q.2.2.2.1 q.2.2.2.2.1 q.2.2.2.2.2 ∈ lw_tbl)) = true by decide +kernel) q hq
    exact va_Nw.of rfl (hts _ (of_decide_eq_true h))
  · have h := List.all_eq_true.mp (show NM.all (fun q => decide (Cond.methodLinkNest q.1 q.2.1 q.2.2.1 q.2.2.2 ∈ lw_tbl)) = true by decide +kernel) q hq
    exact va_Nw.of rfl (hts _ (of_decide_eq_true h))
  · refine ⟨vx_Zqof (hts _ (by decide +kernel)) (hts _ (by decide +kernel)) (G _ (by decide +kernel)) hA, vx_Zqof (hts _ (by decide +kernel)) (hts _ (by decide +kernel)) (G _ (by decide +kernel)) hA, fun q hq => ?_, fun q hq => ?_, fun q hq => ?_, fun q hq => ?_⟩
    · have h := List.all_eq_true.mp (show NS.all (fun q => decide (Cond.stringRef "LastMile" q.1 q.2 ∈ lw_tbl) && decide (Cond.exactly (.string "LastMile" q.1) "java/lang/String" ∈ flatC (Jvm.Cond.and given_1 narrow_1))) = true by decide +kernel) q hq
      rw [Bool.and_eq_true] at h
      obtain ⟨a, ha⟩ := str_ref (G _ (of_decide_eq_true h.2))
      exact ⟨a, vk_R.of (hts _ (of_decide_eq_true h.1)) ha⟩
    · have h := List.all_eq_true.mp (show NC.all (fun q => decide (Cond.castable q.1 q.2 ∈ lw_tbl)) = true by decide +kernel) q hq
      exact va_Nw.of rfl (hts _ (of_decide_eq_true h))
    · have h := List.all_eq_true.mp (show NX.all (fun q => decide (Cond.not (.castable q.1 q.2) ∈ flatC (Jvm.Cond.and given_1 narrow_1))) = true by decide +kernel) q hq
      exact va_Nc.of (G _ (of_decide_eq_true h))
    · have h := List.all_eq_true.mp (show ND.all (fun q => decide (Cond.declares q ∈ lw_tbl)) = true by decide +kernel) q hq
      exact va_Nw.of rfl (hts _ (of_decide_eq_true h))
