theorem and1 (x : Int32) : x &&& 1 = 1 ∨ x &&& 1 = 0 := by
  obtain ⟨j, hj, e⟩ := pk_andE x (m := 1) 1 (by decide)
  rw [e]
  have hj : j < 2 := hj
  rcases Nat.lt_or_ge j 1 with z | z
  · exact Or.inr (by rw [show j = 0 by omega]; rfl)
  · exact Or.inl (by rw [show j = 1 by omega]; rfl)
section TELL
variable {l : Launch} {w : Wd} {S : St} {T : Tb} {α : Ab}
theorem nI_i (k j : Nat) (hk : k < 1000) (hj : j < 1000) : nI k = nI j ↔ k = j := nI_eq (by omega) (by omega)
theorem c_fvan {v u : Nat} (h : CR w S T α) (hA : AIz α) (hv : v < nV α) (hu : u < 10) : ConI l yX11_factOfVan (wsOf yX11_factOfVan cX11_factOfVan 4 (some .int)) rX11_factOfVan w S [.ref (T 0 0), .ref (T 27 v), .int (nI u)] (fun r S' => r = vanV α v u ∧ CR w S' T α) := by
  have hA1 := hA.1.1
  have m12 := hA1.m12 (hA1.v4 hv)
  have hR := h.rv hA1 hv
  have hL := rw_P hA1 hv
  refine con_I (by decide +kernel) rfl (Nat.le_of_ble_eq_true rfl) (fun p e s m args below meth c B => ?_)
  refine bX11_factOfVan_0 B h.x.1 h.x.2.2.2.2.2.2.1 (h.kv hv).1 (h.kv hv).2.1 (c_fol h hA hv hR m12 hL) (h.k1 8 (by decide)) (fun r S1 hq1 => ?_)
  obtain ⟨rfl, fq⟩ := hq1
  have h1 := h.frx (FrX.ofS fq.frs)
  obtain ⟨b1, b2, b3, b4, b5, b6⟩ := h1.va hv
  obtain ⟨-, f1, f2, f3, f4, -⟩ := fq
  have kv := h1.kv hv
  have sc := h1.sc
  have e9 : gP S1 513 (T 8 0) = some (T 9 0) := h1.lk (8, 513, 9) (by decide) (cn1 (by decide))
  have hi : ∀ j : Nat, j < 10 → nI u = nI j → u = j := fun j hj e => (nI_i u j (by omega) (by omega)).mp e
  refine bX11_factOfVan_12 B (fun c => ?_) (fun c => ?_) (fun c => ?_) (fun c => ?_) (fun c => ?_) (fun c => ?_) (fun c => ?_) (fun c => ?_) (fun c => ?_) (fun c => ?_)
  · rw [nI_toInt (by omega)] at c
    have hu9 : u = 9 := by omega
    subst hu9
    refine bX11_factOfVan_130 B kv.1 kv.2.1 (c_greatestLoad (h1.rv hA1 hv)) kv.2.2 (fun r S2 hq2 => ?_)
    obtain ⟨rfl, rfl⟩ := hq2
    refine bX11_factOfVan_137 B ⟨?_, h1⟩
    have e : ∀ i, i < mny α v → kfS S1 (fun i => T 30 (rwf α v i)) i = kD (fun i => pdat α (rwf α v i)) i ∧ vfS S1 (fun i => T 30 (rwf α v i)) i = vD (fun i => pdat α (rwf α v i)) i := fun i hi => by
      obtain ⟨⟨-, b2, b3, -⟩, -⟩ := h1.pa (hL i hi)
      exact ⟨b2, b3⟩
    rw [glk_congr _ e, ld0_congr _ e]
    rfl
  · obtain rfl := hi 0 (by omega) c; exact bX11_factOfVan_64 B kv.1 ⟨b2, h1⟩
  · obtain rfl := hi 1 (by omega) c; exact bX11_factOfVan_69 B kv.1 ⟨b3, h1⟩
  · obtain rfl := hi 2 (by omega) c; exact bX11_factOfVan_74 B kv.1 ⟨b4, h1⟩
  · obtain rfl := hi 3 (by omega) c; exact bX11_factOfVan_79 B kv.1 kv.2.1 kv.2.2 ⟨b5, h1⟩
  · obtain rfl := hi 4 (by omega) c; exact bX11_factOfVan_87 B ⟨rfl, h1⟩
  · obtain rfl := hi 5 (by omega) c; exact bX11_factOfVan_89 B h1.x.1 h1.x.2.2.2.2.2.2.1 (h1.k1 8 (by decide)) e9 (h1.k1 9 (by decide)) ⟨f2, h1⟩
  · obtain rfl := hi 6 (by omega) c; exact bX11_factOfVan_100 B h1.x.1 h1.x.2.2.2.2.2.2.1 (h1.k1 8 (by decide)) ⟨f4, h1⟩
  · obtain rfl := hi 7 (by omega) c; exact bX11_factOfVan_108 B h1.x.1 h1.x.2.2.2.2.2.2.1 (h1.k1 8 (by decide)) e9 (h1.k1 9 (by decide)) ⟨f1, h1⟩
  · obtain rfl := hi 8 (by omega) c; exact bX11_factOfVan_119 B h1.x.1 h1.x.2.2.2.2.2.2.1 (h1.k1 8 (by decide)) e9 (h1.k1 9 (by decide)) ⟨f3, h1⟩
theorem k_van (hf : l.stackTraces = false) (h : CR w S T α) (hA : AIz α) {a b : Int32} : ConXI l yX11_van (wsOf yX11_van cX11_van 3 (some .int)) rX11_van w S [.ref (T 0 0), .int a, .int b] (CP w (T 0 0) (opTellV α a b)) (CE w (T 0 0) [nIO] (opTellV α a b)) := by
  have n4 := hA.1.1.2.1.2.2.1.2
  refine conX_I (by decide +kernel) rfl (Nat.le_of_ble_eq_true rfl) (fun p e s m args below meth c B ht => ?_)
  refine bX11_van_0 B hf ht h.x.1 h.x.2.2.2.2.1 (c_nvan h) (Nat.le_of_ble_eq_true rfl) (Nat.le_of_ble_eq_true rfl) (h.k1 6 (by decide)) (fun r S' hq => ?_)
  obtain ⟨rfl, rfl⟩ := hq
  refine bX11_van_8 B hf ht (c_needIx hf (by omega)) (Nat.le_of_ble_eq_true rfl) (Nat.le_of_ble_eq_true rfl) (fun E S' hq => ?_) (fun S' hq => ?_)
  · obtain ⟨rfl, rfl, hn⟩ := hq
    exact CE.mk 0 rfl h (if_neg (fun z => hn z.1))
  obtain ⟨rfl, h1⟩ := hq
  refine bX11_van_11 B hf ht (c_needIx (n := 10) hf (by omega)) (Nat.le_of_ble_eq_true rfl) (Nat.le_of_ble_eq_true rfl) (fun E S' hq => ?_) (fun S' hq => ?_)
  · obtain ⟨rfl, rfl, hn⟩ := hq
    exact CE.mk 0 rfl h (if_neg (fun z => hn z.2))
  obtain ⟨rfl, h2⟩ := hq
  have eo : opTellV α a b = (0, vanV α (cl a) (cl b), α) := if_pos ⟨h1, h2⟩
  obtain ⟨v, hv, rfl⟩ := h1.nI
  obtain ⟨u, hu, rfl⟩ := h2.nI
  have v4 := hA.1.1.v4 hv
  rw [cl_nI (by omega), cl_nI (by omega)] at eo
  refine bX11_van_17 B hf ht h.x.1 h.x.2.2.2.2.1 (c_gvan h hv) (Nat.le_of_ble_eq_true rfl) (Nat.le_of_ble_eq_true rfl) (h.k1 6 (by decide)) (fun r S' hq1 => ?_)
  obtain ⟨rfl, rfl⟩ := hq1
  refine bX11_van_26 B hf ht (h.kv hv).1 (c_fvan h hA hv hu) (Nat.le_of_ble_eq_true rfl) (Nat.le_of_ble_eq_true rfl) h.x.1 (fun r S' hq1 => ?_)
  exact bX11_van_33 B hf ht (Nat.le_of_ble_eq_true rfl) (Nat.le_of_ble_eq_true rfl) (CP.mk hq1.2 (by rw [eo, hq1.1]))
theorem k_stop (hf : l.stackTraces = false) (h : CR w S T α) (hA : AIz α) {a b c' : Int32} : ConXI l yX11_stop (wsOf yX11_stop cX11_stop 6 (some .int)) rX11_stop w S [.ref (T 0 0), .int a, .int b, .int c'] (CP w (T 0 0) (opStop α a b c')) (CE w (T 0 0) [nIO] (opStop α a b c')) := by
  refine conX_I (by decide +kernel) rfl (Nat.le_of_ble_eq_true rfl) (fun p e s m args below meth c B ht => ?_)
  refine bX11_stop_0 B hf ht (c_needSt hf h hA.1.1) (Nat.le_of_ble_eq_true rfl) (Nat.le_of_ble_eq_true rfl) h.x.1 (fun E S' hq => ?_) (fun S' hq => ?_)
  · obtain ⟨rfl, rfl, hn⟩ := hq
    exact CE.mk 0 rfl h (if_neg (fun z => hn ⟨z.1, z.2.1⟩))
  obtain ⟨rfl, h1, h2⟩ := hq
  refine bX11_stop_6 B hf ht (c_needIx (n := 4) hf (by omega)) (Nat.le_of_ble_eq_true rfl) (Nat.le_of_ble_eq_true rfl) (fun E S' hq => ?_) (fun S' hq => ?_)
  · obtain ⟨rfl, rfl, hn⟩ := hq
    exact CE.mk 0 rfl h (if_neg (fun z => hn z.2.2))
  obtain ⟨rfl, h3⟩ := hq
  have eo : opStop α a b c' = (0, stopV α (cl a) (cl b) (cl c'), α) := if_pos ⟨h1, h2, h3⟩
  obtain ⟨v, hv, rfl⟩ := h1.nI
  have hA1 := hA.1.1
  have v4 := hA1.v4 hv
  have m12 := hA1.m12 v4
  rw [cl_nI (by omega)] at h2
  obtain ⟨k, hk, rfl⟩ := h2.nI
  obtain ⟨u, hu, rfl⟩ := h3.nI
  rw [cl_nI (by omega), cl_nI (by omega), cl_nI (by omega)] at eo
  have hp := rw_P hA1 hv k hk
  refine bX11_stop_11 B hf ht h.x.1 h.x.2.2.2.2.1 (c_gvan h hv) (Nat.le_of_ble_eq_true rfl) (Nat.le_of_ble_eq_true rfl) (h.k1 6 (by decide)) (fun r S' hq1 => ?_)
  obtain ⟨rfl, rfl⟩ := hq1
  refine bX11_stop_19 B hf ht (h.kv hv).1 h.x.1 h.x.2.2.2.2.2.2.1 (h.kv hv).2.1 (c_fol h hA hv (h.rv hA1 hv) m12 (rw_P hA1 hv)) (Nat.le_of_ble_eq_true rfl) (Nat.le_of_ble_eq_true rfl) (h.k1 8 (by decide)) (fun r S1 hq1 => ?_)
  obtain ⟨rfl, fq⟩ := hq1
  have h1 := h.frx (FrX.ofS fq.frs)
  obtain ⟨-, -, -, -, -, f5⟩ := fq
  obtain ⟨g1, g2, g3⟩ := f5 k hk
  have ek : (nI k).toNatClampNeg = k := nI_clamp (by omega)
  have x1 := h1.x
  have hin : ∀ c, c = 10 ∨ c = 11 ∨ c = 12 → vp_in (nI k) (ln S1 (T c 0)) := fun c hc => by
    have : ln S1 (T c 0) = 12 := by rcases hc with rfl | rfl | rfl <;> exact h1.lnn (cn1 (by decide)) (by decide)
    rw [this]; exact vp_in_nI (by omega) (by decide)
  have hi : ∀ j : Nat, j < 10 → nI u = nI j → u = j := fun j hj e => (nI_i u j (by omega) (by omega)).mp e
  refine bX11_stop_38 B hf ht x1.1 x1.2.2.2.2.2.2.1 (h1.k1 8 (by decide)) (h1.lk (8, 514, 10) (by decide) (cn1 (by decide))) (h1.k1 10 (by decide)) (hin 10 (Or.inl rfl)) (fun c => ?_) (fun c => ?_) (fun c => ?_) (fun c => ?_)
  · rw [nI_toInt (by omega)] at c
    have hu3 : u = 3 := by omega
    subst hu3
    rw [ek, g1]
    refine bX11_stop_99 B hf ht (h1.kv hv).1 (h1.kv hv).2.1 (c_at (h1.rv hA1 hv) hk) (Nat.le_of_ble_eq_true rfl) (Nat.le_of_ble_eq_true rfl) (h1.kv hv).2.2 (fun r S2 hq2 => ?_)
    obtain ⟨rfl, rfl⟩ := hq2
    have hh := hA.2.1 _ hp
    refine bX11_stop_108 B hf ht (h1.kp hp) (h1.pa hp).1.2.2.2.2.1 (c_somebody h1 hh) (Nat.le_of_ble_eq_true rfl) (Nat.le_of_ble_eq_true rfl) (h1.k (cnH (by decide) (by decide) hh)) (fun r S2 hq2 => ?_)
    obtain ⟨rfl, hs⟩ := hq2
    have ev : stopV α v k 3 = (α 903 (cl (α 916 (rwf α v k))) >>> (hr (nowW (α 897) (pdat α (rwf α v k)) (wk (α 897) (fun i => pdat α (rwf α v i)) (t00 (α 898 0) (α 899 0) (α 911 v)) k).1) &&& 31)) &&& 1 := rfl
    rcases hs with ⟨rfl, hs⟩ | ⟨rfl, hs⟩
    · refine bX11_stop_116 B hf ht (fun z => absurd z (by decide)) (fun _ => bX11_stop_119 B hf ht (bX11_stop_124 B hf ht (Nat.le_of_ble_eq_true rfl) (Nat.le_of_ble_eq_true rfl) (CP.mk h1 ?_)))
      rw [eo, ev, hs]
    · refine bX11_stop_116 B hf ht (fun _ => bX11_stop_123 B hf ht (bX11_stop_124 B hf ht (Nat.le_of_ble_eq_true rfl) (Nat.le_of_ble_eq_true rfl) (CP.mk h1 ?_))) (fun z => absurd rfl z)
      rw [eo, ev]
      rcases and1 (α 903 (cl (α 916 (rwf α v k))) >>> (hr (nowW (α 897) (pdat α (rwf α v k)) (wk (α 897) (fun i => pdat α (rwf α v i)) (t00 (α 898 0) (α 899 0) (α 911 v)) k).1) &&& 31)) with z | z
      · exact absurd z hs
      · rw [z]
  · obtain rfl := hi 0 (by omega) c
    rw [ek, g1]
    exact bX11_stop_76 B hf ht (Nat.le_of_ble_eq_true rfl) (Nat.le_of_ble_eq_true rfl) (CP.mk h1 eo)
  · obtain rfl := hi 1 (by omega) c
    refine bX11_stop_79 B hf ht x1.1 x1.2.2.2.2.2.2.1 (h1.k1 8 (by decide)) (h1.lk (8, 515, 11) (by decide) (cn1 (by decide))) (h1.k1 11 (by decide)) (hin 11 (Or.inr (Or.inl rfl))) (Nat.le_of_ble_eq_true rfl) (Nat.le_of_ble_eq_true rfl) (CP.mk h1 ?_)
    rw [eo, ek, g2]; rfl
  · obtain rfl := hi 2 (by omega) c
    refine bX11_stop_89 B hf ht x1.1 x1.2.2.2.2.2.2.1 (h1.k1 8 (by decide)) (h1.lk (8, 516, 12) (by decide) (cn1 (by decide))) (h1.k1 12 (by decide)) (hin 12 (Or.inr (Or.inr rfl))) (Nat.le_of_ble_eq_true rfl) (Nat.le_of_ble_eq_true rfl) (CP.mk h1 ?_)
    rw [eo, ek, g3]; rfl
end TELL
