section ADDED
variable {l : Launch} {w : Wd} {S : St} {T : Tb} {α : Ab}
theorem rw_P (hA : AI1 α) {v : Nat} (hv : v < nV α) : ∀ j, j < mny α v → rwf α v j < nP α := fun j hj => (hA.2.2.2.2.1 v j (hA.v4 hv) hj).2
theorem CR.apart (h : CR w S T α) {v : Nat} (hv : v < nV α) {c : Nat} (hc : c = 16 ∨ c = 18) : T 28 v ≠ T c 0 ∧ T 29 v ≠ T (c + 1) 0 := by
  rcases hc with rfl | rfl <;> exact ⟨h.ne (cnV (by decide) (by decide) hv) (cn1 (by decide)) (Or.inl (by decide)), h.ne (cnV (by decide) (by decide) hv) (cn1 (by decide)) (Or.inl (by decide))⟩
theorem c_addedCost {q v k : Nat} (h : CR w S T α) (hA : AIz α) (hv : v < nV α) (hk : k ≤ mny α v) (hq : q < nP α) : ConI l yX11_addedCost (wsOf yX11_addedCost cX11_addedCost 4 (some .int)) rX11_addedCost w S [.ref (T 0 0), .ref (T 30 q), .ref (T 27 v), .int (nI k)] (fun r S' => r = mv α q v k ∧ CR w S' T α) := by
  have hA1 := hA.1.1
  have m12 := hA1.m12 (hA1.v4 hv)
  have hR := h.rv hA1 hv
  have hL := rw_P hA1 hv
  have ap := h.apart hv (Or.inl rfl)
  have hx0 := h.x
  refine con_I (by decide +kernel) rfl (Nat.le_of_ble_eq_true rfl) (fun p e s m args below meth c B => ?_)
  refine bX11_addedCost_0 B hx0.1 hx0.2.2.2.2.2.2.2.2.2.1 (h.kv hv).1 (h.kv hv).2.1 (c_copyX h (Or.inl rfl) hR hL ap.1 ap.2) (h.k1 16 (by decide)) (fun S1 hq1 => ?_)
  obtain ⟨f1, m1⟩ := hq1
  have h1 := h.frx (f1.frx (Or.inl rfl))
  have hx1 := h1.x
  have hR1 := f1.rtk _ _ _ _ ap.1 ap.2 hR
  refine bX11_addedCost_11 B hx1.1 hx1.2.2.2.2.2.2.2.2.2.1 (c_insX h1 (Or.inl rfl) m1 m12 hk hL hq) (h1.k1 16 (by decide)) (fun S2 hq2 => ?_)
  obtain ⟨f2, m2⟩ := hq2
  have h2 := h1.frx (f2.frx (Or.inl rfl))
  have hx2 := h2.x
  have hR2 := f2.rtk _ _ _ _ ap.1 ap.2 hR1
  have hL2 := insL_P (q := q) hk hL hq
  refine bX11_addedCost_20 B hx2.1 hx2.2.2.2.2.2.2.2.2.2.1 (h2.kv hv).1 (c_fitX (v := v) h2 hv m2 hL2) (h2.k1 16 (by decide)) (fun x S3 hq3 => ?_)
  obtain ⟨rfl, hf⟩ := hq3
  rcases hf with ⟨rfl, hf⟩ | ⟨rfl, hf⟩
  · refine bX11_addedCost_31 B (fun _ => ?_) (fun z => absurd z (by decide))
    refine bX11_addedCost_37 B hx2.1 hx2.2.2.2.2.2.2.1 hx2.2.2.2.2.2.2.2.2.2.1 (c_fol h2 hA hv m2 hf.1 hL2) (h2.k1 8 (by decide)) (fun x S3 hq3 => ?_)
    obtain ⟨rfl, fq⟩ := hq3
    have h3 := h2.frx (FrX.ofS fq.frs)
    have hx3 := h3.x
    have hR3 := hR2.fr fq.frs
    refine bX11_addedCost_49 B hx3.1 hx3.2.2.2.2.2.2.1 (h3.kv hv).1 (h3.kv hv).2.1 (c_fol h3 hA hv hR3 m12 hL) (h3.k1 8 (by decide)) (fun x S4 hq4 => ?_)
    obtain ⟨rfl, fq4⟩ := hq4
    refine bX11_addedCost_61 B ⟨?_, h3.frx (FrX.ofS fq4.frs)⟩
    unfold mv
    rw [if_pos hf]
    rfl
  · refine bX11_addedCost_31 B (fun z => absurd rfl z) (fun _ => bX11_addedCost_34 B ⟨?_, h2⟩)
    unfold mv
    rw [if_neg hf]
end ADDED
section WPUT
variable {p : Program} {l : Launch} {e : Env} {s : State} {m : MethodId} {args : Array Value} {below : List Frame} {meth : Method} {c : Code} {w : Wd} {S : St}
variable {T : Tb}
theorem l_weighPut (B : Bd p s m args meth c cX11_weighPuttingIn 3 (wsOf yX11_weighPuttingIn cX11_weighPuttingIn 3 none) RX11 w none "weighPuttingIn") {Q : State → Prop} {α : Ab} {q : Nat} {o : Cho} (hA : AIz α) (hq : q < nP α)
    (hx : ∀ S', CR w S' T α → ChO S' T (wgA α q o (nV α)) → K p l e rX11_weighPuttingIn s m args below meth c 3 w 0 0 Q S' 58 [] []) :
    ∀ d t, t + d = nV α → ∀ S, CR w S T α → ChO S T (wgA α q o t) → K p l e rX11_weighPuttingIn s m args below meth c 3 w 0 0 Q S 10 [(0, .ref (T 0 0)), (1, .ref (T 30 q)), (2, .int (nI t))] [] := by
  have n4 := hA.1.1.2.1.2.2.1.2
  intro d
  induction d with
  | zero =>
    intro t ht S h ho
    have ht : t = nV α := by omega
    subst ht
    have hx0 := h.x
    refine bX11_weighPuttingIn_10 B hx0.1 hx0.2.2.2.2.1 (c_nvan h) (h.k1 6 (by decide)) (fun r S1 hq1 => ?_)
    obtain ⟨rfl, rfl⟩ := hq1
    exact bX11_weighPuttingIn_18 B (fun _ => hx S h ho) (fun c => absurd (Int32.le_refl _) c)
  | succ d ih =>
    intro t ht S h ho
    have htv : t < nV α := by omega
    have hx0 := h.x
    have m12 := hA.1.1.m12 (hA.1.1.v4 htv)
    have ap := h.apart htv (Or.inl rfl)
    refine bX11_weighPuttingIn_10 B hx0.1 hx0.2.2.2.2.1 (c_nvan h) (h.k1 6 (by decide)) (fun r S1 hq1 => ?_)
    obtain ⟨rfl, rfl⟩ := hq1
    refine bX11_weighPuttingIn_18 B (fun c => absurd c (nI_ge htv (by omega))) (fun _ => ?_)
    refine bX11_weighPuttingIn_21 B hx0.1 hx0.2.2.2.2.1 (c_gvan h htv) (h.k1 6 (by decide)) (fun r S1 hq1 => ?_)
    obtain ⟨rfl, rfl⟩ := hq1
    refine bX11_weighPuttingIn_31 B (h.kv htv).1 hx0.1 hx0.2.2.2.2.1 (c_gvan h htv) (h.k1 6 (by decide)) (fun r S1 hq1 => ?_)
    obtain ⟨rfl, rfl⟩ := hq1
    refine bX11_weighPuttingIn_42 B (h.kv htv).1 (h.kv htv).2.1 (c_weighPlaces (sv := 0) h hA htv hq (h.rv hA.1.1 htv) m12 (rw_P hA.1.1 htv) ap.1 ap.2 ho) hx0.1 (fun S1 hq1 => ?_)
    refine bX11_weighPuttingIn_52 B ?_
    rw [nI_1]
    exact ih (t + 1) (by omega) S1 hq1.1 hq1.2.2.1
end WPUT
section WPUT2
variable {l : Launch} {w : Wd} {S : St} {T : Tb} {α : Ab}
def sc1 (α : Ab) (q : Nat) (o : Cho) : Cho := if Loose α q then wgA α q o (nV α) else o
theorem c_weighPut {q : Nat} {o : Cho} (h : CR w S T α) (hA : AIz α) (hq : q < nP α) (ho : ChO S T o) : ConV l yX11_weighPuttingIn (wsOf yX11_weighPuttingIn cX11_weighPuttingIn 3 none) rX11_weighPuttingIn w S [.ref (T 0 0), .ref (T 30 q)] (fun S' => CR w S' T α ∧ ChO S' T (sc1 α q o)) := by
  refine con_V (by decide +kernel) rfl (Nat.le_of_ble_eq_true rfl) (fun p e s m args below meth c B => ?_)
  refine bX11_weighPuttingIn_0 B (c_loose h hq) (fun r S1 hq1 => ?_)
  obtain ⟨rfl, hL⟩ := hq1
  unfold sc1
  rcases hL with ⟨rfl, hL⟩ | ⟨rfl, hL⟩
  · rw [if_pos hL]
    refine bX11_weighPuttingIn_4 B (fun _ => ?_) (fun z => absurd z (by decide))
    exact bX11_weighPuttingIn_8 B (l_weighPut B hA hq (fun S' a b => bX11_weighPuttingIn_58 B ⟨a, b⟩) (nV α) 0 (by omega) S h ho)
  · rw [if_neg hL]
    exact bX11_weighPuttingIn_4 B (fun z => absurd rfl z) (fun _ => bX11_weighPuttingIn_7 B ⟨h, ho⟩)
end WPUT2
/-! WHAT CALLS ARE REFUSED FOR -/
section NEED
variable {l : Launch} {w : Wd} {S : St}
theorem isIx_lt {a : Int32} {n : Nat} (hn : n < 1000) : isIx a n ↔ ¬ a < 0 ∧ a < nI n := by
  have e0 : (0 : Int32).toInt = 0 := by decide
  rw [Int32.lt_iff_toInt_lt, Int32.lt_iff_toInt_lt, nI_toInt (by omega), e0]
  unfold isIx
  omega
theorem c_needIx (hf : l.stackTraces = false) {a : Int32} {n : Nat} (hn : n < 1000) : ConXV l yX11_needIndex (wsOf yX11_needIndex cX11_needIndex 2 none) rX11_needIndex w S [.int a, .int (nI n)] (fun S' => S = S' ∧ isIx a n) (fun E S' => E = nIO ∧ S = S' ∧ ¬ isIx a n) := by
  refine conX_V (by decide +kernel) rfl (Nat.le_of_ble_eq_true rfl) (fun p e s m args below meth c B ht => ?_)
  have bad : ¬ isIx a n → K p l e rX11_needIndex s m args below meth c 2 w 0 0 (vx_MQ below (va_Qv (fun S' => S = S' ∧ isIx a n) (fun S' t => Hd w S' t.heap) (wA w)) (XCs w (fun E S' => E = nIO ∧ S = S' ∧ ¬ isIx a n)) args s rX11_needIndex.cells rX11_needIndex.slots (wA w)) S 9 [] [] := fun hb => bX11_needIndex_9 B hf ht (by show 0 + 1 ≤ 1; omega) (by show 0 + 6 ≤ 6; omega) ⟨rfl, rfl, hb⟩
  refine bX11_needIndex_0 B hf ht (fun c1 => bad (fun z => ((isIx_lt hn).mp z).1 c1)) (fun c1 => ?_)
  refine bX11_needIndex_4 B hf ht (fun c2 => ?_) (fun c2 => bad (fun z => c2 ((isIx_lt hn).mp z).2))
  exact bX11_needIndex_20 B hf ht (by show 0 ≤ 1; omega) (by show 0 ≤ 6; omega) ⟨rfl, (isIx_lt hn).mpr ⟨c1, c2⟩⟩
end NEED
