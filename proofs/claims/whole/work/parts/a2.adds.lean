/-! THE CLASS'S ADDING CALLS -/
theorem Ls.old {w : Wd} {S S1 : St} {a ea N n ci : Nat} {f : Nat → Nat} (h : Ls w S a ea N n ci f) (ho : Old S S1) : Ls w S1 a ea N n ci f := by
  have ho2 := fun i (hi : i < n) => h.oa hi
  obtain ⟨m1, m2, m3, m4, m5, m6, m7⟩ := h
  have k1 := ho a (by rw [m1]; decide)
  refine ⟨k1.1.trans m1, (k1.2.2.2.2.2 1).trans m2, (k1.2.2.2.2.1 2).trans m3, ?_, m5, m6, fun i hi => ?_⟩
  · rcases m4 with z | z
    · have k2 := ho ea (by rw [z.1]; decide)
      exact Or.inl ⟨k2.1.trans z.1, k2.2.1.trans z.2⟩
    · exact Or.inr z
  · have k2 := ho ea (by rw [(ho2 i hi).1]; decide)
    have k3 := ho (f i) (by rw [(m7 i hi).2]; omega)
    exact ⟨by rw [k2.2.2.2.1]; exact (m7 i hi).1, k3.1.trans (m7 i hi).2⟩
theorem cnt_g {α β : Ab} {j : Nat} (hj : j < 4) (e0 : nH β = nH α + if j = 0 then 1 else 0) (e1 : nL β = nL α + if j = 1 then 1 else 0) (e2 : nV β = nV α + if j = 2 then 1 else 0) (e3 : nP β = nP α + if j = 3 then 1 else 0) :
    (∀ c, ¬ Inj j c → cCnt β c = cCnt α c) ∧ ∀ c, Inj j c → cCnt β c = cCnt α c + 1 := by
  refine ⟨fun c hc => ?_, fun c hc => ?_⟩
  · have hc' : ∀ i, j = i → ¬ (fam i ≤ c ∧ c < fam i + wid i) := fun i e0 => e0 ▸ hc
    unfold cCnt
    rw [e0, e1, e2, e3]
    by_cases c1 : c < 20
    · rw [if_pos c1, if_pos c1]
    rw [if_neg c1, if_neg c1]
    by_cases c2 : c < 23
    · rw [if_pos c2, if_pos c2, if_neg (fun z => hc' 0 z ⟨show 20 ≤ c by omega, show c < 20 + 3 by omega⟩), Nat.add_zero]
    rw [if_neg c2, if_neg c2]
    by_cases c3 : c < 27
    · rw [if_pos c3, if_pos c3, if_neg (fun z => hc' 1 z ⟨show 23 ≤ c by omega, show c < 23 + 4 by omega⟩), Nat.add_zero]
    rw [if_neg c3, if_neg c3]
    by_cases c4 : c < 30
    · rw [if_pos c4, if_pos c4, if_neg (fun z => hc' 2 z ⟨show 27 ≤ c by omega, show c < 27 + 3 by omega⟩), Nat.add_zero]
    rw [if_neg c4, if_neg c4]
    by_cases c5 : c < 32
    · rw [if_pos c5, if_pos c5, if_neg (fun z => hc' 3 z ⟨show 30 ≤ c by omega, show c < 30 + 2 by omega⟩), Nat.add_zero]
    rw [if_neg c5, if_neg c5]
  · rw [cnt_inj hj hc, cnt_inj hj hc]
    rcases j with _ | _ | _ | _ | j
    · exact e0
    · exact e1
    · exact e2
    · exact e3
    · omega
theorem LK_f0 : ∀ t ∈ LK, 20 ≤ t.1 ∧ t.1 < 23 → t = (20, 128, 21) ∨ t = (20, 130, 22) := by decide
theorem LK_f1 : ∀ t ∈ LK, 23 ≤ t.1 ∧ t.1 < 27 → t = (23, 192, 24) ∨ t = (23, 193, 25) ∨ t = (23, 194, 26) := by decide
theorem LK_f2 : ∀ t ∈ LK, 27 ≤ t.1 ∧ t.1 < 30 → t = (27, 708, 28) ∨ t = (28, 448, 29) := by decide
theorem LK_f3 : ∀ t ∈ LK, 30 ≤ t.1 ∧ t.1 < 32 → t = (30, 269, 31) := by decide
section ADDH
variable {α : Ab} {x y z : Int32}
theorem homF {F : Nat} (h1 : F ≠ 900) (h2 : F ≠ 901) (h3 : F ≠ 902) (h4 : F ≠ 903) : homA α x y z F = α F := by unfold homA; rw [au_neF h1, aset_ne h4, aset_ne h3, aset_ne h2]
theorem hom0 : homA α x y z 900 0 = nI (nH α + 1) := au_same
theorem hom1 : homA α x y z 901 = va_up (α 901) (nH α) x := by unfold homA; rw [au_neF (by decide), aset_ne (by decide), aset_ne (by decide), aset_same]
theorem hom2 : homA α x y z 902 = va_up (α 902) (nH α) y := by unfold homA; rw [au_neF (by decide), aset_ne (by decide), aset_same]
theorem hom3 : homA α x y z 903 = va_up (α 903) (nH α) z := by unfold homA; rw [au_neF (by decide), aset_same]
theorem homN (hn : nH α < 16) : nH (homA α x y z) = nH α + 1 ∧ nL (homA α x y z) = nL α ∧ nV (homA α x y z) = nV α ∧ nP (homA α x y z) = nP α := by
  refine ⟨?_, ?_, ?_, ?_⟩
  · unfold nH; rw [hom0]; exact nI_clamp (by omega)
  · unfold nL; rw [homF (by decide) (by decide) (by decide) (by decide)]
  · unfold nV; rw [homF (by decide) (by decide) (by decide) (by decide)]
  · unfold nP; rw [homF (by decide) (by decide) (by decide) (by decide)]
theorem homVI (hn : nH α < 16) : VIo α (homA α x y z) ∧ ∀ q, vof (homA α x y z) q = vof α q := by
  have hF : ∀ F, F ≠ 900 → F ≠ 901 → F ≠ 902 → F ≠ 903 → homA α x y z F = α F := fun F => homF
  refine ⟨⟨?_, fun i hi => ?_, fun i hi => ?_, fun i hi => ?_, fun i hi => ?_⟩, fun q => ?_⟩
  · rw [hF 897 (by decide) (by decide) (by decide) (by decide), hF 898 (by decide) (by decide) (by decide) (by decide), hF 899 (by decide) (by decide) (by decide) (by decide), hF 832 (by decide) (by decide) (by decide) (by decide)]; exact ⟨rfl, rfl, rfl, rfl⟩
  · rw [hom1, hom2, hom3, va_up_ne _ _ (by omega), va_up_ne _ _ (by omega), va_up_ne _ _ (by omega), hF 904 (by decide) (by decide) (by decide) (by decide), hF 905 (by decide) (by decide) (by decide) (by decide)]; exact ⟨rfl, rfl, rfl, rfl, fun _ _ => rfl⟩
  · rw [hF 907 (by decide) (by decide) (by decide) (by decide), hF 908 (by decide) (by decide) (by decide) (by decide), hF 839 (by decide) (by decide) (by decide) (by decide)]; exact ⟨rfl, rfl, fun _ _ => rfl⟩
  · unfold mny rwf
    rw [hF 910 (by decide) (by decide) (by decide) (by decide), hF 911 (by decide) (by decide) (by decide) (by decide), hF 912 (by decide) (by decide) (by decide) (by decide), hF 840 (by decide) (by decide) (by decide) (by decide), hF 841 (by decide) (by decide) (by decide) (by decide)]; exact ⟨rfl, rfl, rfl, rfl, fun _ _ => rfl⟩
  · rw [hF 914 (by decide) (by decide) (by decide) (by decide), hF 915 (by decide) (by decide) (by decide) (by decide), hF 916 (by decide) (by decide) (by decide) (by decide), hF 917 (by decide) (by decide) (by decide) (by decide), hF 918 (by decide) (by decide) (by decide) (by decide), hF 834 (by decide) (by decide) (by decide) (by decide), hF 835 (by decide) (by decide) (by decide) (by decide), hF 836 (by decide) (by decide) (by decide) (by decide), hF 837 (by decide) (by decide) (by decide) (by decide), hF 838 (by decide) (by decide) (by decide) (by decide)]
    exact ⟨⟨rfl, rfl, rfl, rfl, rfl⟩, rfl, rfl, rfl, rfl, rfl⟩
  · unfold vof
    rw [(homN hn).2.2.1]
    exact vofN_ext (fun v _ => by unfold mny; rw [hF 840 (by decide) (by decide) (by decide) (by decide)]) (fun v i _ _ => by unfold rwf; rw [hF 841 (by decide) (by decide) (by decide) (by decide)])
end ADDH
section ADDS
variable {l : Launch} {w : Wd} {S : St} {T : Tb} {α : Ab}
theorem k_addHome (hf : l.stackTraces = false) (h : CR w S T α) (hA : AIz α) {x y z : Int32} : ConXI l yX11_addHome (wsOf yX11_addHome cX11_addHome 4 (some .int)) rX11_addHome w S [.ref (T 0 0), .int x, .int y, .int z] (CP w (T 0 0) (opHome α x y z)) (CE w (T 0 0) [nIA, nIS] (opHome α x y z)) := by
  have n16 := hA.1.1.2.1.1.2
  refine conX_I (by decide +kernel) rfl (Nat.le_of_ble_eq_true rfl) (fun p e s m args below meth c B ht => ?_)
  refine bX11_addHome_0 B hf ht (c_needPl hf) (Nat.le_of_ble_eq_true rfl) (Nat.le_of_ble_eq_true rfl) (fun E S' hq => ?_) (fun S' hq => ?_)
  · obtain ⟨rfl, rfl, hn⟩ := hq
    exact CE.mk 0 rfl h (if_pos (fun z => hn z.1))
  obtain ⟨rfl, h1⟩ := hq
  refine bX11_addHome_5 B hf ht (c_needRg hf) (Nat.le_of_ble_eq_true rfl) (Nat.le_of_ble_eq_true rfl) (fun E S' hq => ?_) (fun S' hq => ?_)
  · obtain ⟨rfl, rfl, hn⟩ := hq
    exact CE.mk 0 rfl h (if_pos (fun z => hn z.2))
  obtain ⟨rfl, h2⟩ := hq
  refine bX11_addHome_12 B hf ht h.x.1 h.x.2.2.1 (c_nhom h) (Nat.le_of_ble_eq_true rfl) (Nat.le_of_ble_eq_true rfl) (h.k1 4 (by decide)) (fun r S' hq => ?_)
  obtain ⟨rfl, rfl⟩ := hq
  have e1 : ¬ ¬ ((inR x 0 60 ∧ inR y 0 60) ∧ inR z 0 16777215) := fun n => n ⟨h1, h2⟩
  refine bX11_addHome_19 B hf ht (c_needSp hf) (Nat.le_of_ble_eq_true rfl) (Nat.le_of_ble_eq_true rfl) (fun E S' hq => ?_) (fun S' hq => ?_)
  · obtain ⟨rfl, rfl, hn⟩ := hq
    refine CE.mk 1 rfl h ?_
    have : nH α = 16 := by
      rcases Nat.lt_or_ge (nH α) 16 with z | z
      · exact absurd (nI_lt z (by omega)) hn
      · omega
    unfold opHome
    rw [if_neg e1, if_pos this]; rfl
  obtain ⟨rfl, h3⟩ := hq
  have n15 : nH α < 16 := by
    rcases Nat.lt_or_ge (nH α) 16 with z | z
    · exact z
    · exact absurd h3 (nI_nlt z (by omega))
  have eo : opHome α x y z = (0, nI (nH α), homA α x y z) := by unfold opHome; rw [if_neg e1, if_neg (by omega)]
  refine bX11_addHome_24 B hf ht h.x.1 h.x.2.2.1 (Nat.le_of_ble_eq_true rfl) (Nat.le_of_ble_eq_true rfl) (fun a ha => bX11_addHome_31 B hf ht (Nat.le_of_ble_eq_true rfl) (Nat.le_of_ble_eq_true rfl) (fun b hb => ?_))
  obtain ⟨nba, hb⟩ := nw0 hb (by decide)
  refine bX11_addHome_35 B hf ht (c_plI (by rw [kd_nw, if_pos rfl])) (Nat.le_of_ble_eq_true rfl) (Nat.le_of_ble_eq_true rfl) (fun S' hq => ?_)
  subst hq
  refine bX11_addHome_41 B hf ht (c_hmI (by simp only [kd_sI, kd_sP, kd_sRI, kd_sRP, kd_nw, gI_sI, gI_sP, gI_sRI, gI_sRP, gI_nw, gP_sI, gP_sP, gP_sRI, gP_sRP, gP_nw, ln_sI, ln_sP, ln_sRI, ln_sRP, ln_nw, rI_sI, rI_sP, rI_sRI, rI_sRP, rI_nw, rP_sI, rP_sP, rP_sRI, rP_sRP, rP_nw, va_up_self]; rw [if_neg (Ne.symm nba), if_pos True.intro])) (Nat.le_of_ble_eq_true rfl) (Nat.le_of_ble_eq_true rfl) (fun S' hq => ?_)
  obtain ⟨q, hq, rfl⟩ := hq
  obtain ⟨nqb, hq⟩ := nw0 (S := nw S a 3 0) (q := b) (k := 6) (n := 0) hq (by decide)
  obtain ⟨nqa, hq⟩ := nw0 hq (by decide)
  have ho : Old S (sI (sP (sI (sP (nw (sI (sI (nw (nw S a 3 0) b 6 0) 320 b x) 321 b y) q 21 3) 130 a (some q)) 131 a 0) 128 a (some b)) 129 a z) :=
    ((((((((Old.rf.new ha 3 0).new hb 6 0).si hb _ _).si hb _ _).new hq 21 3).sp ha _ _).si ha _ _).sp ha _ _).si ha _ _
  have nab := Ne.symm nba
  have nbq := Ne.symm nqb
  have naq := Ne.symm nqa
  have ka : kd (sI (sP (sI (sP (nw (sI (sI (nw (nw S a 3 0) b 6 0) 320 b x) 321 b y) q 21 3) 130 a (some q)) 131 a 0) 128 a (some b)) 129 a z) a = 3 := by simp [kd_sI, kd_sP, kd_sRI, kd_sRP, kd_nw, gI_sI, gI_sP, gI_sRI, gI_sRP, gI_nw, gP_sI, gP_sP, gP_sRI, gP_sRP, gP_nw, ln_sI, ln_sP, ln_sRI, ln_sRP, ln_nw, rI_sI, rI_sP, rI_sRI, rI_sRP, rI_nw, rP_sI, rP_sP, rP_sRI, rP_sRP, rP_nw, va_up_self, nab, naq]
  have kb : kd (sI (sP (sI (sP (nw (sI (sI (nw (nw S a 3 0) b 6 0) 320 b x) 321 b y) q 21 3) 130 a (some q)) 131 a 0) 128 a (some b)) 129 a z) b = 6 := by simp [kd_sI, kd_sP, kd_sRI, kd_sRP, kd_nw, gI_sI, gI_sP, gI_sRI, gI_sRP, gI_nw, gP_sI, gP_sP, gP_sRI, gP_sRP, gP_nw, ln_sI, ln_sP, ln_sRI, ln_sRP, ln_nw, rI_sI, rI_sP, rI_sRI, rI_sRP, rI_nw, rP_sI, rP_sP, rP_sRI, rP_sRP, rP_nw, va_up_self, nbq]
  have kq : kd (sI (sP (sI (sP (nw (sI (sI (nw (nw S a 3 0) b 6 0) 320 b x) 321 b y) q 21 3) 130 a (some q)) 131 a 0) 128 a (some b)) 129 a z) q = 21 := by simp [kd_sI, kd_sP, kd_sRI, kd_sRP, kd_nw, gI_sI, gI_sP, gI_sRI, gI_sRP, gI_nw, gP_sI, gP_sP, gP_sRI, gP_sRP, gP_nw, ln_sI, ln_sP, ln_sRI, ln_sRP, ln_nw, rI_sI, rI_sP, rI_sRI, rI_sRP, rI_nw, rP_sI, rP_sP, rP_sRI, rP_sRP, rP_nw, va_up_self]
  have lq : ln (sI (sP (sI (sP (nw (sI (sI (nw (nw S a 3 0) b 6 0) 320 b x) 321 b y) q 21 3) 130 a (some q)) 131 a 0) 128 a (some b)) 129 a z) q = 3 := by simp [kd_sI, kd_sP, kd_sRI, kd_sRP, kd_nw, gI_sI, gI_sP, gI_sRI, gI_sRP, gI_nw, gP_sI, gP_sP, gP_sRI, gP_sRP, gP_nw, ln_sI, ln_sP, ln_sRI, ln_sRP, ln_nw, rI_sI, rI_sP, rI_sRI, rI_sRP, rI_nw, rP_sI, rP_sP, rP_sRI, rP_sRP, rP_nw, va_up_self]
  have p1 : gP (sI (sP (sI (sP (nw (sI (sI (nw (nw S a 3 0) b 6 0) 320 b x) 321 b y) q 21 3) 130 a (some q)) 131 a 0) 128 a (some b)) 129 a z) 128 a = some b := by simp [kd_sI, kd_sP, kd_sRI, kd_sRP, kd_nw, gI_sI, gI_sP, gI_sRI, gI_sRP, gI_nw, gP_sI, gP_sP, gP_sRI, gP_sRP, gP_nw, ln_sI, ln_sP, ln_sRI, ln_sRP, ln_nw, rI_sI, rI_sP, rI_sRI, rI_sRP, rI_nw, rP_sI, rP_sP, rP_sRI, rP_sRP, rP_nw, va_up_self]
  have p2 : gP (sI (sP (sI (sP (nw (sI (sI (nw (nw S a 3 0) b 6 0) 320 b x) 321 b y) q 21 3) 130 a (some q)) 131 a 0) 128 a (some b)) 129 a z) 130 a = some q := by simp [kd_sI, kd_sP, kd_sRI, kd_sRP, kd_nw, gI_sI, gI_sP, gI_sRI, gI_sRP, gI_nw, gP_sI, gP_sP, gP_sRI, gP_sRP, gP_nw, ln_sI, ln_sP, ln_sRI, ln_sRP, ln_nw, rI_sI, rI_sP, rI_sRI, rI_sRP, rI_nw, rP_sI, rP_sP, rP_sRI, rP_sRP, rP_nw, va_up_self]
  have v1 : gI (sI (sP (sI (sP (nw (sI (sI (nw (nw S a 3 0) b 6 0) 320 b x) 321 b y) q 21 3) 130 a (some q)) 131 a 0) 128 a (some b)) 129 a z) 320 b = x := by simp [kd_sI, kd_sP, kd_sRI, kd_sRP, kd_nw, gI_sI, gI_sP, gI_sRI, gI_sRP, gI_nw, gP_sI, gP_sP, gP_sRI, gP_sRP, gP_nw, ln_sI, ln_sP, ln_sRI, ln_sRP, ln_nw, rI_sI, rI_sP, rI_sRI, rI_sRP, rI_nw, rP_sI, rP_sP, rP_sRI, rP_sRP, rP_nw, va_up_self, nbq, nba]
  have v2 : gI (sI (sP (sI (sP (nw (sI (sI (nw (nw S a 3 0) b 6 0) 320 b x) 321 b y) q 21 3) 130 a (some q)) 131 a 0) 128 a (some b)) 129 a z) 321 b = y := by simp [kd_sI, kd_sP, kd_sRI, kd_sRP, kd_nw, gI_sI, gI_sP, gI_sRI, gI_sRP, gI_nw, gP_sI, gP_sP, gP_sRI, gP_sRP, gP_nw, ln_sI, ln_sP, ln_sRI, ln_sRP, ln_nw, rI_sI, rI_sP, rI_sRI, rI_sRP, rI_nw, rP_sI, rP_sP, rP_sRI, rP_sRP, rP_nw, va_up_self, nbq, nba]
  have v3 : gI (sI (sP (sI (sP (nw (sI (sI (nw (nw S a 3 0) b 6 0) 320 b x) 321 b y) q 21 3) 130 a (some q)) 131 a 0) 128 a (some b)) 129 a z) 129 a = z := by simp [kd_sI, kd_sP, kd_sRI, kd_sRP, kd_nw, gI_sI, gI_sP, gI_sRI, gI_sRP, gI_nw, gP_sI, gP_sP, gP_sRI, gP_sRP, gP_nw, ln_sI, ln_sP, ln_sRI, ln_sRP, ln_nw, rI_sI, rI_sP, rI_sRI, rI_sRP, rI_nw, rP_sI, rP_sP, rP_sRI, rP_sRP, rP_nw, va_up_self]
  have v4 : gI (sI (sP (sI (sP (nw (sI (sI (nw (nw S a 3 0) b 6 0) 320 b x) 321 b y) q 21 3) 130 a (some q)) 131 a 0) 128 a (some b)) 129 a z) 131 a = 0 := by simp [kd_sI, kd_sP, kd_sRI, kd_sRP, kd_nw, gI_sI, gI_sP, gI_sRI, gI_sRP, gI_nw, gP_sI, gP_sP, gP_sRI, gP_sRP, gP_nw, ln_sI, ln_sP, ln_sRI, ln_sRP, ln_nw, rI_sI, rI_sP, rI_sRI, rI_sRP, rI_nw, rP_sI, rP_sP, rP_sRI, rP_sRP, rP_nw, va_up_self]
  revert ho ka kb kq lq p1 p2 v1 v2 v3 v4
  generalize sI (sP (sI (sP (nw (sI (sI (nw (nw S a 3 0) b 6 0) 320 b x) 321 b y) q 21 3) 130 a (some q)) 131 a 0) 128 a (some b)) 129 a z = S1
  intro ho ka kb kq lq p1 p2 v1 v2 v3 v4
  obtain ⟨N, hL⟩ := h.ls (j := 0) (by decide)
  have k4 := (hL.old ho).1
  refine bX11_addHome_45 B hf ht (c_ladd (hL.old ho) (show nH α < 30 by omega) (rr := _) rfl (by decide) (by decide) ka) (Nat.le_of_ble_eq_true rfl) (Nat.le_of_ble_eq_true rfl) k4 (fun r S2 hq2 => k_wE B (fun hwE => ?_))
  obtain ⟨m1, m2, m3, m4⟩ := homN (x := x) (y := y) (z := z) n15
  obtain ⟨g1, g2⟩ := cnt_g (j := 0) (by decide) m1 m2 m3 m4
  obtain ⟨hv, hvo⟩ := homVI (x := x) (y := y) (z := z) n15
  have in3 : ∀ c, Inj 0 c → c = 20 ∨ c = 21 ∨ c = 22 := fun c hc => by unfold Inj fam wid at hc; simp only at hc; omega
  obtain ⟨T', e0, h'⟩ := h.ext (S2 := S2) (β := homA α x y z) (j := 0) (u := fun c => if c = 20 then a else if c = 21 then b else q) hA (by decide) hwE g1 g2 ho (fun c hc => by
      rcases in3 c hc with rfl | rfl | rfl
      · exact ⟨ha, ka, fun z => absurd z (by decide)⟩
      · exact ⟨hb, kb, fun z => absurd z (by decide)⟩
      · exact ⟨hq, kq, fun _ => lq⟩) (fun c c' hc hc' e2 => by
      rcases in3 c hc with rfl | rfl | rfl <;> rcases in3 c' hc' with rfl | rfl | rfl <;> first | rfl | exact absurd e2 nab | exact absurd e2 nba | exact absurd e2 nqa | exact absurd e2 naq | exact absurd e2 nbq | exact absurd e2 nqb) (fun t ht2 hi => by
      rcases LK_f0 t ht2 hi with rfl | rfl
      · exact p1
      · exact p2) hq2 hv (fun q _ => hvo q) (fun T' f1 f2 f3 => by
      have t0 : T' 20 (nH α) = a := f1 20 ⟨by decide, by decide⟩
      have t1 : T' 21 (nH α) = b := f1 21 ⟨by decide, by decide⟩
      have u0 := f3 20 ⟨by decide, by decide⟩
      have u1 := f3 21 ⟨by decide, by decide⟩
      show Hm S2 T' (homA α x y z) (nH α)
      unfold Hm
      rw [t0, t1, hom1, hom2, hom3, va_up_self, va_up_self, va_up_self, homF (by decide) (by decide) (by decide) (by decide), hA.2.2.2.2.2.2.2.1 (nH α) (by omega) n15]
      exact ⟨(u1.1 320).trans v1, (u1.1 321).trans v2, (u0.1 129).trans v3, (u0.1 131).trans v4, fun k _ hk2 => absurd hk2 (by rw [show cl (0 : Int32) = 0 from rfl]; omega)⟩)
  have hx := h'.x
  rw [e0] at hx
  refine bX11_addHome_48 B hf ht hx.1 hx.2.2.1 (c_nhom h') (Nat.le_of_ble_eq_true rfl) (Nat.le_of_ble_eq_true rfl) (h'.k1 4 (by decide)) (fun r S' hq3 => ?_)
  obtain ⟨rfl, rfl⟩ := hq3
  have r := CP.mk (r := nI (nH (homA α x y z)) - 1) (o := opHome α x y z) h' (by rw [eo, m1, nI_s1 (by omega)]; rfl)
  rw [e0] at r
  exact bX11_addHome_56 B hf ht (Nat.le_of_ble_eq_true rfl) (Nat.le_of_ble_eq_true rfl) r
end ADDS
