section ADDS2
variable {l : Launch} {w : Wd} {S : St} {T : Tb} {α : Ab}
theorem k_addLocker (hf : l.stackTraces = false) (h : CR w S T α) (hA : AIz α) {x y z1 z2 z3 : Int32} : ConXI l yX11_addLocker (wsOf yX11_addLocker cX11_addLocker 6 (some .int)) rX11_addLocker w S [.ref (T 0 0), .int x, .int y, .int z1, .int z2, .int z3] (CP w (T 0 0) (opLocker α x y z1 z2 z3)) (CE w (T 0 0) [nIA, nIS] (opLocker α x y z1 z2 z3)) := by
  have n4 := hA.1.1.2.1.2.1.2
  refine conX_I (by decide +kernel) rfl (Nat.le_of_ble_eq_true rfl) (fun p e s m args below meth c B ht => ?_)
  have bad : ∀ {S' : St} {E : String}, E = nIA → S = S' → ¬ ((inR x 0 60 ∧ inR y 0 60) ∧ inR z1 0 9 ∧ inR z2 0 9 ∧ inR z3 0 9) → CE w (T 0 0) [nIA, nIS] (opLocker α x y z1 z2 z3) E S' := by
    rintro S' E rfl rfl hn
    exact CE.mk 0 rfl h (if_pos hn)
  refine bX11_addLocker_0 B hf ht (c_needPl hf) (Nat.le_of_ble_eq_true rfl) (Nat.le_of_ble_eq_true rfl) (fun E S' hq => bad hq.1 hq.2.1 (fun z => hq.2.2 z.1)) (fun S' hq => ?_)
  obtain ⟨rfl, h1⟩ := hq
  refine bX11_addLocker_5 B hf ht (c_needRg hf) (Nat.le_of_ble_eq_true rfl) (Nat.le_of_ble_eq_true rfl) (fun E S' hq => bad hq.1 hq.2.1 (fun z => hq.2.2 z.2.1)) (fun S' hq => ?_)
  obtain ⟨rfl, h2⟩ := hq
  refine bX11_addLocker_12 B hf ht (c_needRg hf) (Nat.le_of_ble_eq_true rfl) (Nat.le_of_ble_eq_true rfl) (fun E S' hq => bad hq.1 hq.2.1 (fun z => hq.2.2 z.2.2.1)) (fun S' hq => ?_)
  obtain ⟨rfl, h3⟩ := hq
  refine bX11_addLocker_20 B hf ht (c_needRg hf) (Nat.le_of_ble_eq_true rfl) (Nat.le_of_ble_eq_true rfl) (fun E S' hq => bad hq.1 hq.2.1 (fun z => hq.2.2 z.2.2.2)) (fun S' hq => ?_)
  obtain ⟨rfl, h4⟩ := hq
  clear bad
  have e1 : ¬ ¬ ((inR x 0 60 ∧ inR y 0 60) ∧ inR z1 0 9 ∧ inR z2 0 9 ∧ inR z3 0 9) := fun n => n ⟨h1, h2, h3, h4⟩
  refine bX11_addLocker_28 B hf ht h.x.1 h.x.2.2.2.1 (c_nloc h) (Nat.le_of_ble_eq_true rfl) (Nat.le_of_ble_eq_true rfl) (h.k1 5 (by decide)) (fun r S' hq => ?_)
  obtain ⟨rfl, rfl⟩ := hq
  refine bX11_addLocker_35 B hf ht (c_needSp hf) (Nat.le_of_ble_eq_true rfl) (Nat.le_of_ble_eq_true rfl) (fun E S' hq => ?_) (fun S' hq => ?_)
  · obtain ⟨rfl, rfl, hn⟩ := hq
    refine CE.mk 1 rfl h ?_
    have : nL α = 4 := by
      rcases Nat.lt_or_ge (nL α) 4 with z | z
      · exact absurd (nI_lt z (by omega)) hn
      · omega
    unfold opLocker
    rw [if_neg e1, if_pos this]; rfl
  obtain ⟨rfl, h5⟩ := hq
  have n15 : nL α < 4 := by
    rcases Nat.lt_or_ge (nL α) 4 with z | z
    · exact z
    · exact absurd h5 (nI_nlt z (by omega))
  have eo : opLocker α x y z1 z2 z3 = (0, nI (nL α), locA α x y z1 z2 z3) := by unfold opLocker; rw [if_neg e1, if_neg (by omega)]
  refine bX11_addLocker_39 B hf ht h.x.1 h.x.2.2.2.1 (Nat.le_of_ble_eq_true rfl) (Nat.le_of_ble_eq_true rfl) (fun a ha => bX11_addLocker_46 B hf ht (Nat.le_of_ble_eq_true rfl) (Nat.le_of_ble_eq_true rfl) (fun b hb => ?_))
  obtain ⟨nba, hb⟩ := nw0 hb (by decide)
  refine bX11_addLocker_50 B hf ht (c_plI (by rw [kd_nw, if_pos rfl])) (Nat.le_of_ble_eq_true rfl) (Nat.le_of_ble_eq_true rfl) (fun S' hq => ?_)
  subst hq
  refine bX11_addLocker_56 B hf ht (c_lkI (by simp only [kd_sI, kd_sP, kd_sRI, kd_sRP, kd_nw, gI_sI, gI_sP, gI_sRI, gI_sRP, gI_nw, gP_sI, gP_sP, gP_sRI, gP_sRP, gP_nw, ln_sI, ln_sP, ln_sRI, ln_sRP, ln_nw, rI_sI, rI_sP, rI_sRI, rI_sRP, rI_nw, rP_sI, rP_sP, rP_sRI, rP_sRP, rP_nw, va_up_self]; rw [if_neg (Ne.symm nba), if_pos True.intro])) (Nat.le_of_ble_eq_true rfl) (Nat.le_of_ble_eq_true rfl) (fun S' hq => ?_)
  obtain ⟨q, q2, f1, f2, f3, hq, hq2, nq2q, y1, y2, y3, rfl⟩ := hq
  obtain ⟨nqb, hq⟩ := nw0 (S := nw S a 4 0) (q := b) (k := 6) (n := 0) hq (by decide)
  obtain ⟨nqa, hq⟩ := nw0 hq (by decide)
  obtain ⟨nq2b, hq2⟩ := nw0 (S := nw S a 4 0) (q := b) (k := 6) (n := 0) hq2 (by decide)
  obtain ⟨nq2a, hq2⟩ := nw0 hq2 (by decide)
  have nab := Ne.symm nba
  have nbq := Ne.symm nqb
  have naq := Ne.symm nqa
  have nbq2 := Ne.symm nq2b
  have naq2 := Ne.symm nq2a
  have nqq2 := Ne.symm nq2q
  obtain ⟨S1, hS1⟩ : ∃ S1, S1 = sRI (sRI (sRI (sP (sP (nw (sP (nw (sI (sI (nw (nw S a 4 0) b 6 0) 320 b x) 321 b y) q 21 3) 193 a (some q)) q2 21 3) 194 a (some q2)) 192 a (some b)) q f1) q f2) q f3 := ⟨_, rfl⟩
  have ho : Old S S1 := by rw [hS1]; exact ((((((((((((Old.rf.new ha 4 0).new hb 6 0).si hb _ _).si hb _ _).new hq 21 3).sp ha _ _).new hq2 21 3).sp ha _ _).sp ha _ _).sri hq _).sri hq _).sri hq _)
  have ka : kd S1 a = 4 := by rw [hS1]; simp [kd_sI, kd_sP, kd_sRI, kd_sRP, kd_nw, gI_sI, gI_sP, gI_sRI, gI_sRP, gI_nw, gP_sI, gP_sP, gP_sRI, gP_sRP, gP_nw, ln_sI, ln_sP, ln_sRI, ln_sRP, ln_nw, rI_sI, rI_sP, rI_sRI, rI_sRP, rI_nw, rP_sI, rP_sP, rP_sRI, rP_sRP, rP_nw, va_up_self, nab, naq, naq2]
  have kb : kd S1 b = 6 := by rw [hS1]; simp [kd_sI, kd_sP, kd_sRI, kd_sRP, kd_nw, gI_sI, gI_sP, gI_sRI, gI_sRP, gI_nw, gP_sI, gP_sP, gP_sRI, gP_sRP, gP_nw, ln_sI, ln_sP, ln_sRI, ln_sRP, ln_nw, rI_sI, rI_sP, rI_sRI, rI_sRP, rI_nw, rP_sI, rP_sP, rP_sRI, rP_sRP, rP_nw, va_up_self, nbq, nbq2]
  have kq : kd S1 q = 21 := by rw [hS1]; simp [kd_sI, kd_sP, kd_sRI, kd_sRP, kd_nw, gI_sI, gI_sP, gI_sRI, gI_sRP, gI_nw, gP_sI, gP_sP, gP_sRI, gP_sRP, gP_nw, ln_sI, ln_sP, ln_sRI, ln_sRP, ln_nw, rI_sI, rI_sP, rI_sRI, rI_sRP, rI_nw, rP_sI, rP_sP, rP_sRI, rP_sRP, rP_nw, va_up_self, nqq2]
  have kq2 : kd S1 q2 = 21 := by rw [hS1]; simp [kd_sI, kd_sP, kd_sRI, kd_sRP, kd_nw, gI_sI, gI_sP, gI_sRI, gI_sRP, gI_nw, gP_sI, gP_sP, gP_sRI, gP_sRP, gP_nw, ln_sI, ln_sP, ln_sRI, ln_sRP, ln_nw, rI_sI, rI_sP, rI_sRI, rI_sRP, rI_nw, rP_sI, rP_sP, rP_sRI, rP_sRP, rP_nw, va_up_self]
  have lq : ln S1 q = 3 := by rw [hS1]; simp [kd_sI, kd_sP, kd_sRI, kd_sRP, kd_nw, gI_sI, gI_sP, gI_sRI, gI_sRP, gI_nw, gP_sI, gP_sP, gP_sRI, gP_sRP, gP_nw, ln_sI, ln_sP, ln_sRI, ln_sRP, ln_nw, rI_sI, rI_sP, rI_sRI, rI_sRP, rI_nw, rP_sI, rP_sP, rP_sRI, rP_sRP, rP_nw, va_up_self, nqq2]
  have lq2 : ln S1 q2 = 3 := by rw [hS1]; simp [kd_sI, kd_sP, kd_sRI, kd_sRP, kd_nw, gI_sI, gI_sP, gI_sRI, gI_sRP, gI_nw, gP_sI, gP_sP, gP_sRI, gP_sRP, gP_nw, ln_sI, ln_sP, ln_sRI, ln_sRP, ln_nw, rI_sI, rI_sP, rI_sRI, rI_sRP, rI_nw, rP_sI, rP_sP, rP_sRI, rP_sRP, rP_nw, va_up_self]
  have p1 : gP S1 192 a = some b := by rw [hS1]; simp [kd_sI, kd_sP, kd_sRI, kd_sRP, kd_nw, gI_sI, gI_sP, gI_sRI, gI_sRP, gI_nw, gP_sI, gP_sP, gP_sRI, gP_sRP, gP_nw, ln_sI, ln_sP, ln_sRI, ln_sRP, ln_nw, rI_sI, rI_sP, rI_sRI, rI_sRP, rI_nw, rP_sI, rP_sP, rP_sRI, rP_sRP, rP_nw, va_up_self]
  have p2 : gP S1 193 a = some q := by rw [hS1]; simp [kd_sI, kd_sP, kd_sRI, kd_sRP, kd_nw, gI_sI, gI_sP, gI_sRI, gI_sRP, gI_nw, gP_sI, gP_sP, gP_sRI, gP_sRP, gP_nw, ln_sI, ln_sP, ln_sRI, ln_sRP, ln_nw, rI_sI, rI_sP, rI_sRI, rI_sRP, rI_nw, rP_sI, rP_sP, rP_sRI, rP_sRP, rP_nw, va_up_self, naq2]
  have p3 : gP S1 194 a = some q2 := by rw [hS1]; simp [kd_sI, kd_sP, kd_sRI, kd_sRP, kd_nw, gI_sI, gI_sP, gI_sRI, gI_sRP, gI_nw, gP_sI, gP_sP, gP_sRI, gP_sRP, gP_nw, ln_sI, ln_sP, ln_sRI, ln_sRP, ln_nw, rI_sI, rI_sP, rI_sRI, rI_sRP, rI_nw, rP_sI, rP_sP, rP_sRI, rP_sRP, rP_nw, va_up_self]
  have v1 : gI S1 320 b = x := by rw [hS1]; simp [kd_sI, kd_sP, kd_sRI, kd_sRP, kd_nw, gI_sI, gI_sP, gI_sRI, gI_sRP, gI_nw, gP_sI, gP_sP, gP_sRI, gP_sRP, gP_nw, ln_sI, ln_sP, ln_sRI, ln_sRP, ln_nw, rI_sI, rI_sP, rI_sRI, rI_sRP, rI_nw, rP_sI, rP_sP, rP_sRI, rP_sRP, rP_nw, va_up_self, nbq, nba, nbq2]
  have v2 : gI S1 321 b = y := by rw [hS1]; simp [kd_sI, kd_sP, kd_sRI, kd_sRP, kd_nw, gI_sI, gI_sP, gI_sRI, gI_sRP, gI_nw, gP_sI, gP_sP, gP_sRI, gP_sRP, gP_nw, ln_sI, ln_sP, ln_sRI, ln_sRP, ln_nw, rI_sI, rI_sP, rI_sRI, rI_sRP, rI_nw, rP_sI, rP_sP, rP_sRI, rP_sRP, rP_nw, va_up_self, nbq, nba, nbq2]
  have v3 : rI S1 q = f3 := by rw [hS1, rI_sRI, if_pos rfl]
  rw [← hS1]
  clear hS1
  obtain ⟨N, hL⟩ := h.ls (j := 1) (by decide)
  have k4 := (hL.old ho).1
  refine bX11_addLocker_64 B hf ht (c_ladd (hL.old ho) (show nL α < 30 by omega) (rr := _) rfl (by decide) (by decide) ka) (Nat.le_of_ble_eq_true rfl) (Nat.le_of_ble_eq_true rfl) k4 (fun r S2 hq2' => k_wE B (fun hwE => ?_))
  obtain ⟨m1, m2, m3, m4⟩ := locN (x := x) (y := y) (z1 := z1) (z2 := z2) (z3 := z3) n15
  obtain ⟨g1, g2⟩ := cnt_g (j := 1) (by decide) m1 m2 m3 m4
  obtain ⟨hv, hvo⟩ := locVI (x := x) (y := y) (z1 := z1) (z2 := z2) (z3 := z3) n15
  have in3 : ∀ c, Inj 1 c → c = 23 ∨ c = 24 ∨ c = 25 ∨ c = 26 := fun c hc => by unfold Inj fam wid at hc; simp only at hc; omega
  obtain ⟨T', e0, h'⟩ := h.ext (S2 := S2) (β := locA α x y z1 z2 z3) (j := 1) (u := fun c => if c = 23 then a else if c = 24 then b else if c = 25 then q else q2) hA (by decide) hwE g1 g2 ho (fun c hc => by
      rcases in3 c hc with rfl | rfl | rfl | rfl
      · exact ⟨ha, ka, fun z => absurd z (by decide)⟩
      · exact ⟨hb, kb, fun z => absurd z (by decide)⟩
      · exact ⟨hq, kq, fun _ => lq⟩
      · exact ⟨hq2, kq2, fun _ => lq2⟩) (fun c c' hc hc' e2 => by
      rcases in3 c hc with rfl | rfl | rfl | rfl <;> rcases in3 c' hc' with rfl | rfl | rfl | rfl <;> first | rfl | exact absurd e2 nab | exact absurd e2 nba | exact absurd e2 nqa | exact absurd e2 naq | exact absurd e2 nbq | exact absurd e2 nqb | exact absurd e2 nq2b | exact absurd e2 nbq2 | exact absurd e2 nq2a | exact absurd e2 naq2 | exact absurd e2 nq2q | exact absurd e2 nqq2) (fun t ht2 hi => by
      rcases LK_f1 t ht2 hi with rfl | rfl | rfl
      · exact p1
      · exact p2
      · exact p3) hq2' hv hvo (fun T' f1 _ f4 => by
      have t0 : T' 24 (nL α) = b := f1 24 ⟨by decide, by decide⟩
      have t1 : T' 25 (nL α) = q := f1 25 ⟨by decide, by decide⟩
      have u0 := f4 24 ⟨by decide, by decide⟩
      have u1 := f4 25 ⟨by decide, by decide⟩
      show Lo S2 T' (locA α x y z1 z2 z3) (nL α)
      unfold Lo
      rw [t0, t1, loc1, loc2, loc3, va_up_self, va_up_self]
      refine ⟨(u0.1 320).trans v1, (u0.1 321).trans v2, fun k hk => ?_⟩
      rw [pk_cpy_in (by omega) (by omega), show rI S2 q = f3 from u1.2.2.trans v3, show 0 + (3 * nL α + k - 3 * nL α) = k by omega]
      have : k = 0 ∨ k = 1 ∨ k = 2 := by omega
      rcases this with rfl | rfl | rfl
      · exact y1
      · exact y2
      · exact y3)
  have hx := h'.x
  rw [e0] at hx
  refine bX11_addLocker_67 B hf ht hx.1 hx.2.2.2.1 (c_nloc h') (Nat.le_of_ble_eq_true rfl) (Nat.le_of_ble_eq_true rfl) (h'.k1 5 (by decide)) (fun r S' hq3 => ?_)
  obtain ⟨rfl, rfl⟩ := hq3
  have r := CP.mk (r := nI (nL (locA α x y z1 z2 z3)) - 1) (o := opLocker α x y z1 z2 z3) h' (by rw [eo, m2, nI_s1 (by omega)]; rfl)
  rw [e0] at r
  exact bX11_addLocker_75 B hf ht (Nat.le_of_ble_eq_true rfl) (Nat.le_of_ble_eq_true rfl) r
theorem k_addVan (hf : l.stackTraces = false) (h : CR w S T α) (hA : AIz α) {x y z : Int32} : ConXI l yX11_addVan (wsOf yX11_addVan cX11_addVan 4 (some .int)) rX11_addVan w S [.ref (T 0 0), .int x, .int y, .int z] (CP w (T 0 0) (opVan α x y z)) (CE w (T 0 0) [nIA, nIS] (opVan α x y z)) := by
  have n4 := hA.1.1.2.1.2.2.1.2
  refine conX_I (by decide +kernel) rfl (Nat.le_of_ble_eq_true rfl) (fun p e s m args below meth c B ht => ?_)
  have bad : ∀ {S' : St} {E : String}, E = nIA → S = S' → ¬ (inR x 10 200 ∧ inR y 0 1439 ∧ inR z y 1439) → CE w (T 0 0) [nIA, nIS] (opVan α x y z) E S' := by
    rintro S' E rfl rfl hn
    exact CE.mk 0 rfl h (if_pos hn)
  refine bX11_addVan_0 B hf ht (c_needRg hf) (Nat.le_of_ble_eq_true rfl) (Nat.le_of_ble_eq_true rfl) (fun E S' hq => bad hq.1 hq.2.1 (fun z => hq.2.2 z.1)) (fun S' hq => ?_)
  obtain ⟨rfl, h1⟩ := hq
  refine bX11_addVan_9 B hf ht (c_needRg hf) (Nat.le_of_ble_eq_true rfl) (Nat.le_of_ble_eq_true rfl) (fun E S' hq => bad hq.1 hq.2.1 (fun z => hq.2.2 z.2.1)) (fun S' hq => ?_)
  obtain ⟨rfl, h2⟩ := hq
  refine bX11_addVan_17 B hf ht (c_needRg hf) (Nat.le_of_ble_eq_true rfl) (Nat.le_of_ble_eq_true rfl) (fun E S' hq => bad hq.1 hq.2.1 (fun z => hq.2.2 z.2.2)) (fun S' hq => ?_)
  obtain ⟨rfl, h3⟩ := hq
  clear bad
  have e1 : ¬ ¬ (inR x 10 200 ∧ inR y 0 1439 ∧ inR z y 1439) := fun n => n ⟨h1, h2, h3⟩
  refine bX11_addVan_25 B hf ht h.x.1 h.x.2.2.2.2.1 (c_nvan h) (Nat.le_of_ble_eq_true rfl) (Nat.le_of_ble_eq_true rfl) (h.k1 6 (by decide)) (fun r S' hq => ?_)
  obtain ⟨rfl, rfl⟩ := hq
  refine bX11_addVan_32 B hf ht (c_needSp hf) (Nat.le_of_ble_eq_true rfl) (Nat.le_of_ble_eq_true rfl) (fun E S' hq => ?_) (fun S' hq => ?_)
  · obtain ⟨rfl, rfl, hn⟩ := hq
    refine CE.mk 1 rfl h ?_
    have : nV α = 4 := by
      rcases Nat.lt_or_ge (nV α) 4 with z | z
      · exact absurd (nI_lt z (by omega)) hn
      · omega
    unfold opVan
    rw [if_neg e1, if_pos this]; rfl
  obtain ⟨rfl, h5⟩ := hq
  have n15 : nV α < 4 := by
    rcases Nat.lt_or_ge (nV α) 4 with z | z
    · exact z
    · exact absurd h5 (nI_nlt z (by omega))
  have eo : opVan α x y z = (0, nI (nV α), vanA α x y z) := by unfold opVan; rw [if_neg e1, if_neg (by omega)]
  refine bX11_addVan_36 B hf ht h.x.1 h.x.2.2.2.2.1 (Nat.le_of_ble_eq_true rfl) (Nat.le_of_ble_eq_true rfl) (fun a ha => ?_)
  obtain ⟨N, hL⟩ := h.ls (j := 2) (by decide)
  have oa : Old S (nw S a 12 0) := Old.rf.new ha 12 0
  have hLa := hL.old oa
  have k0 := oa (T 0 0) (h.k0 (cn1 (by decide)))
  have hsz : ConI l yJx4a65c_size_8abf5 (wsOf yJx4a65c_size_8abf5 cJx4a65c_size_8abf5 1 (some .int)) rJx4a65c_size_8abf5 w (nw S a 12 0) [.ref (T 6 0)] (fun r S' => nw S a 12 0 = S' ∧ r = nI (nV α)) := conI_mono (c_lsize hLa.1) (fun r S' hq => ⟨hq.1, hq.2.trans hLa.2.2.1⟩)
  refine bX11_addVan_43 B hf ht (k0.1.trans h.x.1) ((k0.2.2.2.2.2 771).trans h.x.2.2.2.2.1) hsz (Nat.le_of_ble_eq_true rfl) (Nat.le_of_ble_eq_true rfl) hLa.1 (fun r S' hq => ?_)
  obtain ⟨rfl, rfl⟩ := hq
  refine bX11_addVan_51 B hf ht (c_vnI (by rw [kd_nw, if_pos rfl])) (Nat.le_of_ble_eq_true rfl) (Nat.le_of_ble_eq_true rfl) (fun S' hq => ?_)
  obtain ⟨b, q, hb, hq, nqb, rfl⟩ := hq
  obtain ⟨nba, hb⟩ := nw0 hb (by decide)
  obtain ⟨nqa, hq⟩ := nw0 hq (by decide)
  have nab := Ne.symm nba
  have nbq := Ne.symm nqb
  have naq := Ne.symm nqa
  obtain ⟨S1, hS1⟩ : ∃ S1, S1 = sI (sI (sI (sI (sP (sI (sP (nw (nw (nw S a 12 0) b 8 0) q 22 13) 448 b (some q)) 449 b 0) 708 a (some b)) 704 a (nI (nV α))) 705 a x) 706 a y) 707 a z := ⟨_, rfl⟩
  have ho : Old S S1 := by rw [hS1]; exact ((((((((((oa.new hb 8 0).new hq 22 13).sp hb _ _).si hb _ _).sp ha _ _).si ha _ _).si ha _ _).si ha _ _).si ha _ _))
  have ka : kd S1 a = 12 := by rw [hS1]; simp [kd_sI, kd_sP, kd_sRI, kd_sRP, kd_nw, gI_sI, gI_sP, gI_sRI, gI_sRP, gI_nw, gP_sI, gP_sP, gP_sRI, gP_sRP, gP_nw, ln_sI, ln_sP, ln_sRI, ln_sRP, ln_nw, rI_sI, rI_sP, rI_sRI, rI_sRP, rI_nw, rP_sI, rP_sP, rP_sRI, rP_sRP, rP_nw, va_up_self, nab, naq]
  have kb : kd S1 b = 8 := by rw [hS1]; simp [kd_sI, kd_sP, kd_sRI, kd_sRP, kd_nw, gI_sI, gI_sP, gI_sRI, gI_sRP, gI_nw, gP_sI, gP_sP, gP_sRI, gP_sRP, gP_nw, ln_sI, ln_sP, ln_sRI, ln_sRP, ln_nw, rI_sI, rI_sP, rI_sRI, rI_sRP, rI_nw, rP_sI, rP_sP, rP_sRI, rP_sRP, rP_nw, va_up_self, nbq]
  have kq : kd S1 q = 22 := by rw [hS1]; simp [kd_sI, kd_sP, kd_sRI, kd_sRP, kd_nw, gI_sI, gI_sP, gI_sRI, gI_sRP, gI_nw, gP_sI, gP_sP, gP_sRI, gP_sRP, gP_nw, ln_sI, ln_sP, ln_sRI, ln_sRP, ln_nw, rI_sI, rI_sP, rI_sRI, rI_sRP, rI_nw, rP_sI, rP_sP, rP_sRI, rP_sRP, rP_nw, va_up_self]
  have lq : ln S1 q = 13 := by rw [hS1]; simp [kd_sI, kd_sP, kd_sRI, kd_sRP, kd_nw, gI_sI, gI_sP, gI_sRI, gI_sRP, gI_nw, gP_sI, gP_sP, gP_sRI, gP_sRP, gP_nw, ln_sI, ln_sP, ln_sRI, ln_sRP, ln_nw, rI_sI, rI_sP, rI_sRI, rI_sRP, rI_nw, rP_sI, rP_sP, rP_sRI, rP_sRP, rP_nw, va_up_self]
  have p1 : gP S1 708 a = some b := by rw [hS1]; simp [kd_sI, kd_sP, kd_sRI, kd_sRP, kd_nw, gI_sI, gI_sP, gI_sRI, gI_sRP, gI_nw, gP_sI, gP_sP, gP_sRI, gP_sRP, gP_nw, ln_sI, ln_sP, ln_sRI, ln_sRP, ln_nw, rI_sI, rI_sP, rI_sRI, rI_sRP, rI_nw, rP_sI, rP_sP, rP_sRI, rP_sRP, rP_nw, va_up_self]
  have p2 : gP S1 448 b = some q := by rw [hS1]; simp [kd_sI, kd_sP, kd_sRI, kd_sRP, kd_nw, gI_sI, gI_sP, gI_sRI, gI_sRP, gI_nw, gP_sI, gP_sP, gP_sRI, gP_sRP, gP_nw, ln_sI, ln_sP, ln_sRI, ln_sRP, ln_nw, rI_sI, rI_sP, rI_sRI, rI_sRP, rI_nw, rP_sI, rP_sP, rP_sRI, rP_sRP, rP_nw, va_up_self]
  have v1 : gI S1 704 a = nI (nV α) := by rw [hS1]; simp [kd_sI, kd_sP, kd_sRI, kd_sRP, kd_nw, gI_sI, gI_sP, gI_sRI, gI_sRP, gI_nw, gP_sI, gP_sP, gP_sRI, gP_sRP, gP_nw, ln_sI, ln_sP, ln_sRI, ln_sRP, ln_nw, rI_sI, rI_sP, rI_sRI, rI_sRP, rI_nw, rP_sI, rP_sP, rP_sRI, rP_sRP, rP_nw, va_up_self]
  have v2 : gI S1 705 a = x := by rw [hS1]; simp [kd_sI, kd_sP, kd_sRI, kd_sRP, kd_nw, gI_sI, gI_sP, gI_sRI, gI_sRP, gI_nw, gP_sI, gP_sP, gP_sRI, gP_sRP, gP_nw, ln_sI, ln_sP, ln_sRI, ln_sRP, ln_nw, rI_sI, rI_sP, rI_sRI, rI_sRP, rI_nw, rP_sI, rP_sP, rP_sRI, rP_sRP, rP_nw, va_up_self]
  have v3 : gI S1 706 a = y := by rw [hS1]; simp [kd_sI, kd_sP, kd_sRI, kd_sRP, kd_nw, gI_sI, gI_sP, gI_sRI, gI_sRP, gI_nw, gP_sI, gP_sP, gP_sRI, gP_sRP, gP_nw, ln_sI, ln_sP, ln_sRI, ln_sRP, ln_nw, rI_sI, rI_sP, rI_sRI, rI_sRP, rI_nw, rP_sI, rP_sP, rP_sRI, rP_sRP, rP_nw, va_up_self]
  have v4 : gI S1 707 a = z := by rw [hS1]; simp [kd_sI, kd_sP, kd_sRI, kd_sRP, kd_nw, gI_sI, gI_sP, gI_sRI, gI_sRP, gI_nw, gP_sI, gP_sP, gP_sRI, gP_sRP, gP_nw, ln_sI, ln_sP, ln_sRI, ln_sRP, ln_nw, rI_sI, rI_sP, rI_sRI, rI_sRP, rI_nw, rP_sI, rP_sP, rP_sRI, rP_sRP, rP_nw, va_up_self]
  have v5 : gI S1 449 b = 0 := by rw [hS1]; simp [kd_sI, kd_sP, kd_sRI, kd_sRP, kd_nw, gI_sI, gI_sP, gI_sRI, gI_sRP, gI_nw, gP_sI, gP_sP, gP_sRI, gP_sRP, gP_nw, ln_sI, ln_sP, ln_sRI, ln_sRP, ln_nw, rI_sI, rI_sP, rI_sRI, rI_sRP, rI_nw, rP_sI, rP_sP, rP_sRI, rP_sRP, rP_nw, va_up_self]
  rw [← hS1]
  clear hS1
  have k4 := (hL.old ho).1
  refine bX11_addVan_57 B hf ht (c_ladd (hL.old ho) (show nV α < 30 by omega) (rr := _) rfl (by decide) (by decide) ka) (Nat.le_of_ble_eq_true rfl) (Nat.le_of_ble_eq_true rfl) k4 (fun r S2 hq2' => k_wE B (fun hwE => ?_))
  obtain ⟨m1, m2, m3, m4⟩ := vanN (x := x) (y := y) (z := z) n15
  obtain ⟨g1, g2⟩ := cnt_g (j := 2) (by decide) m1 m2 m3 m4
  obtain ⟨hv, hvo⟩ := vanVI (x := x) (y := y) (z := z) hA.1.1 n15
  have in3 : ∀ c, Inj 2 c → c = 27 ∨ c = 28 ∨ c = 29 := fun c hc => by unfold Inj fam wid at hc; simp only at hc; omega
  obtain ⟨T', e0, h'⟩ := h.ext (S2 := S2) (β := vanA α x y z) (j := 2) (u := fun c => if c = 27 then a else if c = 28 then b else q) hA (by decide) hwE g1 g2 ho (fun c hc => by
      rcases in3 c hc with rfl | rfl | rfl
      · exact ⟨ha, ka, fun z => absurd z (by decide)⟩
      · exact ⟨hb, kb, fun z => absurd z (by decide)⟩
      · exact ⟨hq, kq, fun _ => lq⟩) (fun c c' hc hc' e2 => by
      rcases in3 c hc with rfl | rfl | rfl <;> rcases in3 c' hc' with rfl | rfl | rfl <;> first | rfl | exact absurd e2 nab | exact absurd e2 nba | exact absurd e2 nqa | exact absurd e2 naq | exact absurd e2 nbq | exact absurd e2 nqb) (fun t ht2 hi => by
      rcases LK_f2 t ht2 hi with rfl | rfl
      · exact p1
      · exact p2) hq2' hv hvo (fun T' f1 _ f4 => by
      have t0 : T' 27 (nV α) = a := f1 27 ⟨by decide, by decide⟩
      have t1 : T' 28 (nV α) = b := f1 28 ⟨by decide, by decide⟩
      have u0 := f4 27 ⟨by decide, by decide⟩
      have u1 := f4 28 ⟨by decide, by decide⟩
      have e6 : mny (vanA α x y z) (nV α) = 0 := by
        have := hA.1.1.2.2.2.1 (nV α) (Nat.le_refl _) n15
        unfold mny at this ⊢
        rw [vanF (by decide) (by decide) (by decide) (by decide)]; exact this
      show Va S2 T' (vanA α x y z) (nV α)
      unfold Va
      rw [t0, t1, van1, van2, van3, va_up_self, va_up_self, va_up_self, e6]
      exact ⟨(u0.1 704).trans v1, (u0.1 705).trans v2, (u0.1 706).trans v3, (u0.1 707).trans v4, (u1.1 449).trans v5, fun k hk => absurd hk (by omega)⟩)
  have hx := h'.x
  rw [e0] at hx
  refine bX11_addVan_60 B hf ht hx.1 hx.2.2.2.2.1 (c_nvan h') (Nat.le_of_ble_eq_true rfl) (Nat.le_of_ble_eq_true rfl) (h'.k1 6 (by decide)) (fun r S' hq3 => ?_)
  obtain ⟨rfl, rfl⟩ := hq3
  have r := CP.mk (r := nI (nV (vanA α x y z)) - 1) (o := opVan α x y z) h' (by rw [eo, m3, nI_s1 (by omega)]; rfl)
  rw [e0] at r
  exact bX11_addVan_68 B hf ht (Nat.le_of_ble_eq_true rfl) (Nat.le_of_ble_eq_true rfl) r
end ADDS2
