section INI3
/-- the class's table at the beginning -/
def tab0 (L : List Nat) (e0 : Nat) : Tb := fun c _ => if c < 20 then L.getD c 0 else e0
def prs : List (Nat × Nat) := [(4, 5), (4, 6), (4, 7), (5, 6), (5, 7), (6, 7), (2, 10), (2, 11), (2, 12), (10, 11), (10, 12), (11, 12), (9, 14), (16, 18), (17, 19)]
theorem prs_ck : ((List.range 20).all fun i => (List.range 20).all fun j => cKd i != cKd j || i == j || prs.contains (i, j) || prs.contains (j, i)) = true := by decide +kernel
theorem prs_ok (i : Nat) (hi : i < 20) (j : Nat) (hj : j < 20) (h : cKd i = cKd j) : i = j ∨ (i, j) ∈ prs ∨ (j, i) ∈ prs := by
  have h1 := List.all_eq_true.mp (List.all_eq_true.mp prs_ck i (List.mem_range.mpr hi)) j (List.mem_range.mpr hj)
  simp only [Bool.or_eq_true, bne_iff_ne, beq_iff_eq, List.contains_iff_mem] at h1
  rcases h1 with ((h1 | h1) | h1) | h1
  · exact absurd h h1
  · exact Or.inl h1
  · exact Or.inr (Or.inl h1)
  · exact Or.inr (Or.inr h1)
variable {l : Launch} {w : Wd} {S : St}
theorem cnt0 {α : Ab} (n1 : nH α = 0) (n2 : nL α = 0) (n3 : nV α = 0) (n4 : nP α = 0) {c i : Nat} (h : i < cCnt α c) : c < 20 ∧ i = 0 := by
  unfold cCnt at h
  rw [n1, n2, n3, n4] at h
  by_cases z : c < 20
  · rw [if_pos z] at h; exact ⟨z, by omega⟩
  · rw [if_neg z] at h
    split at h
    · omega
    · split at h
      · omega
      · split at h
        · omega
        · split at h <;> omega
/-- the picture of a class just made -/
theorem CR.mk0 {α : Ab} {L : List Nat} {S : St} (n1 : nH α = 0) (n2 : nL α = 0) (n3 : nV α = 0) (n4 : nP α = 0) (hwE : ∀ a, kd S a ≠ 0 → a ≠ wE w)
    (hk : ∀ c, c < 20 → kd S (L.getD c 0) = cKd c ∧ (21 ≤ cKd c → ln S (L.getD c 0) = cLn c)) (hp : ∀ p ∈ prs, L.getD p.1 0 ≠ L.getD p.2 0)
    (hl : ∀ t ∈ LK, t.1 < 20 → gP S t.2.1 (L.getD t.1 0) = some (L.getD t.2.2 0)) (hs : ∀ j, j < 4 → gP S 1 (L.getD (4 + j) 0) = some (wE w) ∧ gI S 2 (L.getD (4 + j) 0) = 0)
    (ht : To S (tab0 L (wE w)) α) : CR w S (tab0 L (wE w)) α := by
  have T0 : ∀ c i, c < 20 → tab0 L (wE w) c i = L.getD c 0 := fun c i h => if_pos h
  refine ⟨fun c i hi => ?_, fun c i c' i' hi hi' e1 => ?_, fun t htt i hi => ?_, ⟨fun j hj => ⟨0, ?_⟩, fun j j' hj hj' z => ?_⟩, ht, fun i hi => absurd hi (by omega), fun i hi => absurd hi (by omega), fun i hi => absurd hi (by omega), fun i hi => absurd hi (by omega)⟩
  · obtain ⟨h1, h2⟩ := cnt0 n1 n2 n3 n4 hi
    rw [T0 c i h1]; exact hk c h1
  · obtain ⟨h1, h2⟩ := cnt0 n1 n2 n3 n4 hi
    obtain ⟨h3, h4⟩ := cnt0 n1 n2 n3 n4 hi'
    rw [T0 c i h1, T0 c' i' h3] at e1
    have ek : cKd c = cKd c' := by rw [← (hk c h1).1, ← (hk c' h3).1, e1]
    rcases prs_ok c h1 c' h3 ek with y | y | y
    · exact ⟨y, by omega⟩
    · exact absurd e1 (hp _ y)
    · exact absurd e1.symm (hp _ y)
  · obtain ⟨h1, h2⟩ := cnt0 n1 n2 n3 n4 hi
    have h3 : t.2.2 < 20 := (show ∀ t ∈ LK, t.1 < 20 → t.2.2 < 20 from by decide) t htt h1
    rw [T0 _ _ h1, T0 _ _ h3]
    exact hl t htt h1
  · obtain ⟨a1, a2⟩ := hs j hj
    have c0 : cCnt α (fam j) = 0 := by
      unfold fam
      rcases j with _ | _ | _ | _ | j
      · exact n1
      · exact n2
      · exact n3
      · exact n4
      · omega
    rw [T0 (4 + j) 0 (by omega), show tab0 L (wE w) (32 + j) 0 = wE w from if_neg (by omega), c0]
    exact ⟨((hk (4 + j) (by omega)).1).trans ((show ∀ j, j < 4 → cKd (4 + j) = 1 from by decide) j hj), a1, a2, Or.inr ⟨rfl, rfl⟩, Nat.le_refl _, Or.inl ⟨rfl, rfl⟩, fun i hi => absurd hi (by omega)⟩
  · rw [show tab0 L (wE w) (32 + j) 0 = wE w from if_neg (by omega)] at z
    exact absurd rfl (hwE (wE w) (by rw [z]; decide))
theorem c_clI {x : Nat} {α : Ab} (h : kd S x = 13) (n1 : nH α = 0) (n2 : nL α = 0) (n3 : nV α = 0) (n4 : nP α = 0) (e7 : α 897 = tens) (e8 : α 898 0 = 30) (e9 : α 899 0 = 30) (e32 : α 832 0 = 0) :
    ConV l yX11_init (wsOf yX11_init cX11_init 1 none) rX11_init w S [.ref x] (fun S' => CX0 w S' x α) := by
  refine con_V (by decide +kernel) rfl (Nat.le_of_ble_eq_true rfl) (fun p e s m args below meth c B => ?_)
  have kx0 : kd S x = 13 := h
  have hx0 : kd S x ≠ 0 := by rw [h]; decide
  -- stage 0
  refine bX11_init_0 B (Nat.le_of_ble_eq_true rfl) (Nat.le_of_ble_eq_true rfl) (fun q0 hq0 => ?_)
  refine bX11_init_8 B (c_twI (by rw [kd_nw, if_pos rfl])) (Nat.le_of_ble_eq_true rfl) (Nat.le_of_ble_eq_true rfl) (fun P0 hp0 => ?_)
  obtain ⟨g0, r, d, ⟨hr, hd⟩, ⟨tr1, tr2, td1⟩, ⟨tl1, tl2⟩, tv1, tv2, tv3⟩ := hp0
  obtain ⟨nrq, hr⟩ := nw0 hr (by decide)
  obtain ⟨ndq, hd⟩ := nw0 hd (by decide)
  have o0 : Old S P0 := Old.ctor hq0 g0
  have kq0 : kd P0 q0 = 10 := g0.1.trans (by rw [kd_nw, if_pos rfl])
  -- stage 1
  obtain ⟨S1, hS1⟩ : ∃ Z, Z = sP P0 768 x (some q0) := ⟨_, rfl⟩
  have x1 : Ox x 768 S S1 := by rw [hS1]; exact Ox.one o0
  have kx1 : kd S1 x = 13 := (x1 x (by rw [kx0]; decide)).1.trans kx0
  have lx1 : gP S1 768 x = some q0 := by rw [hS1, gP_sP, if_pos ⟨rfl, rfl⟩]
  have kS1q0 : kd S1 q0 = 10 := by rw [hS1, kd_sP]; exact kq0
  have nxq0 : q0 ≠ x := fun z => by rw [z, kx1] at kS1q0; exact absurd kS1q0 (by decide)
  have lS1q0 : gP S1 577 q0 = some d := by rw [hS1, gP_sP, if_neg (fun z => nxq0 z.2)]; exact tl2
  refine bX11_init_12 B ((o0 x (by rw [kx0]; decide)).1.trans kx0) (Nat.le_of_ble_eq_true rfl) (Nat.le_of_ble_eq_true rfl) ?_
  rw [← hS1]
  intro q1 hq1
  refine bX11_init_19 B (c_lsI (by rw [kd_nw, if_pos rfl])) (Nat.le_of_ble_eq_true rfl) (Nat.le_of_ble_eq_true rfl) (fun P1 hp1 => ?_)
  have o1 : Old S1 P1 := by rw [hp1]; exact ((Old.rf.new hq1 1 0).si hq1 _ _).sp hq1 _ _
  have kq1 : kd P1 q1 = 1 := by rw [hp1]; simp [kd_sI, kd_sP, kd_sRI, kd_sRP, kd_nw, gI_sI, gI_sP, gI_sRI, gI_sRP, gI_nw, gP_sI, gP_sP, gP_sRI, gP_sRP, gP_nw, ln_sI, ln_sP, ln_sRI, ln_sRP, ln_nw, rI_sI, rI_sP, rI_sRI, rI_sRP, rI_nw, rP_sI, rP_sP, rP_sRI, rP_sRP, rP_nw, va_up_self]
  have lq1 : gP P1 1 q1 = some (wE w) := by rw [hp1]; simp [kd_sI, kd_sP, kd_sRI, kd_sRP, kd_nw, gI_sI, gI_sP, gI_sRI, gI_sRP, gI_nw, gP_sI, gP_sP, gP_sRI, gP_sRP, gP_nw, ln_sI, ln_sP, ln_sRI, ln_sRP, ln_nw, rI_sI, rI_sP, rI_sRI, rI_sRP, rI_nw, rP_sI, rP_sP, rP_sRI, rP_sRP, rP_nw, va_up_self]
  have vq1 : gI P1 2 q1 = 0 := by rw [hp1]; simp [kd_sI, kd_sP, kd_sRI, kd_sRP, kd_nw, gI_sI, gI_sP, gI_sRI, gI_sRP, gI_nw, gP_sI, gP_sP, gP_sRI, gP_sRP, gP_nw, ln_sI, ln_sP, ln_sRI, ln_sRP, ln_nw, rI_sI, rI_sP, rI_sRI, rI_sRP, rI_nw, rP_sI, rP_sP, rP_sRI, rP_sRP, rP_nw, va_up_self]
  -- stage 2
  obtain ⟨S2, hS2⟩ : ∃ Z, Z = sP P1 769 x (some q1) := ⟨_, rfl⟩
  have x2 : Ox x 769 S1 S2 := by rw [hS2]; exact Ox.one o1
  have kx2 : kd S2 x = 13 := (x2 x (by rw [kx1]; decide)).1.trans kx1
  have lx2 : gP S2 769 x = some q1 := by rw [hS2, gP_sP, if_pos ⟨rfl, rfl⟩]
  refine bX11_init_23 B ((o1 x (by rw [kx1]; decide)).1.trans kx1) (Nat.le_of_ble_eq_true rfl) (Nat.le_of_ble_eq_true rfl) ?_
  rw [← hS2]
  intro q2 hq2
  refine bX11_init_30 B (c_lsI (by rw [kd_nw, if_pos rfl])) (Nat.le_of_ble_eq_true rfl) (Nat.le_of_ble_eq_true rfl) (fun P2 hp2 => ?_)
  have o2 : Old S2 P2 := by rw [hp2]; exact ((Old.rf.new hq2 1 0).si hq2 _ _).sp hq2 _ _
  have kq2 : kd P2 q2 = 1 := by rw [hp2]; simp [kd_sI, kd_sP, kd_sRI, kd_sRP, kd_nw, gI_sI, gI_sP, gI_sRI, gI_sRP, gI_nw, gP_sI, gP_sP, gP_sRI, gP_sRP, gP_nw, ln_sI, ln_sP, ln_sRI, ln_sRP, ln_nw, rI_sI, rI_sP, rI_sRI, rI_sRP, rI_nw, rP_sI, rP_sP, rP_sRI, rP_sRP, rP_nw, va_up_self]
  have lq2 : gP P2 1 q2 = some (wE w) := by rw [hp2]; simp [kd_sI, kd_sP, kd_sRI, kd_sRP, kd_nw, gI_sI, gI_sP, gI_sRI, gI_sRP, gI_nw, gP_sI, gP_sP, gP_sRI, gP_sRP, gP_nw, ln_sI, ln_sP, ln_sRI, ln_sRP, ln_nw, rI_sI, rI_sP, rI_sRI, rI_sRP, rI_nw, rP_sI, rP_sP, rP_sRI, rP_sRP, rP_nw, va_up_self]
  have vq2 : gI P2 2 q2 = 0 := by rw [hp2]; simp [kd_sI, kd_sP, kd_sRI, kd_sRP, kd_nw, gI_sI, gI_sP, gI_sRI, gI_sRP, gI_nw, gP_sI, gP_sP, gP_sRI, gP_sRP, gP_nw, ln_sI, ln_sP, ln_sRI, ln_sRP, ln_nw, rI_sI, rI_sP, rI_sRI, rI_sRP, rI_nw, rP_sI, rP_sP, rP_sRI, rP_sRP, rP_nw, va_up_self]
  -- stage 3
  obtain ⟨S3, hS3⟩ : ∃ Z, Z = sP P2 770 x (some q2) := ⟨_, rfl⟩
  have x3 : Ox x 770 S2 S3 := by rw [hS3]; exact Ox.one o2
  have kx3 : kd S3 x = 13 := (x3 x (by rw [kx2]; decide)).1.trans kx2
  have lx3 : gP S3 770 x = some q2 := by rw [hS3, gP_sP, if_pos ⟨rfl, rfl⟩]
  refine bX11_init_34 B ((o2 x (by rw [kx2]; decide)).1.trans kx2) (Nat.le_of_ble_eq_true rfl) (Nat.le_of_ble_eq_true rfl) ?_
  rw [← hS3]
  intro q3 hq3
  refine bX11_init_41 B (c_lsI (by rw [kd_nw, if_pos rfl])) (Nat.le_of_ble_eq_true rfl) (Nat.le_of_ble_eq_true rfl) (fun P3 hp3 => ?_)
  have o3 : Old S3 P3 := by rw [hp3]; exact ((Old.rf.new hq3 1 0).si hq3 _ _).sp hq3 _ _
  have kq3 : kd P3 q3 = 1 := by rw [hp3]; simp [kd_sI, kd_sP, kd_sRI, kd_sRP, kd_nw, gI_sI, gI_sP, gI_sRI, gI_sRP, gI_nw, gP_sI, gP_sP, gP_sRI, gP_sRP, gP_nw, ln_sI, ln_sP, ln_sRI, ln_sRP, ln_nw, rI_sI, rI_sP, rI_sRI, rI_sRP, rI_nw, rP_sI, rP_sP, rP_sRI, rP_sRP, rP_nw, va_up_self]
  have lq3 : gP P3 1 q3 = some (wE w) := by rw [hp3]; simp [kd_sI, kd_sP, kd_sRI, kd_sRP, kd_nw, gI_sI, gI_sP, gI_sRI, gI_sRP, gI_nw, gP_sI, gP_sP, gP_sRI, gP_sRP, gP_nw, ln_sI, ln_sP, ln_sRI, ln_sRP, ln_nw, rI_sI, rI_sP, rI_sRI, rI_sRP, rI_nw, rP_sI, rP_sP, rP_sRI, rP_sRP, rP_nw, va_up_self]
  have vq3 : gI P3 2 q3 = 0 := by rw [hp3]; simp [kd_sI, kd_sP, kd_sRI, kd_sRP, kd_nw, gI_sI, gI_sP, gI_sRI, gI_sRP, gI_nw, gP_sI, gP_sP, gP_sRI, gP_sRP, gP_nw, ln_sI, ln_sP, ln_sRI, ln_sRP, ln_nw, rI_sI, rI_sP, rI_sRI, rI_sRP, rI_nw, rP_sI, rP_sP, rP_sRI, rP_sRP, rP_nw, va_up_self]
  -- stage 4
  obtain ⟨S4, hS4⟩ : ∃ Z, Z = sP P3 771 x (some q3) := ⟨_, rfl⟩
  have x4 : Ox x 771 S3 S4 := by rw [hS4]; exact Ox.one o3
  have kx4 : kd S4 x = 13 := (x4 x (by rw [kx3]; decide)).1.trans kx3
  have lx4 : gP S4 771 x = some q3 := by rw [hS4, gP_sP, if_pos ⟨rfl, rfl⟩]
  refine bX11_init_45 B ((o3 x (by rw [kx3]; decide)).1.trans kx3) (Nat.le_of_ble_eq_true rfl) (Nat.le_of_ble_eq_true rfl) ?_
  rw [← hS4]
  intro q4 hq4
  refine bX11_init_52 B (c_lsI (by rw [kd_nw, if_pos rfl])) (Nat.le_of_ble_eq_true rfl) (Nat.le_of_ble_eq_true rfl) (fun P4 hp4 => ?_)
  have o4 : Old S4 P4 := by rw [hp4]; exact ((Old.rf.new hq4 1 0).si hq4 _ _).sp hq4 _ _
  have kq4 : kd P4 q4 = 1 := by rw [hp4]; simp [kd_sI, kd_sP, kd_sRI, kd_sRP, kd_nw, gI_sI, gI_sP, gI_sRI, gI_sRP, gI_nw, gP_sI, gP_sP, gP_sRI, gP_sRP, gP_nw, ln_sI, ln_sP, ln_sRI, ln_sRP, ln_nw, rI_sI, rI_sP, rI_sRI, rI_sRP, rI_nw, rP_sI, rP_sP, rP_sRI, rP_sRP, rP_nw, va_up_self]
  have lq4 : gP P4 1 q4 = some (wE w) := by rw [hp4]; simp [kd_sI, kd_sP, kd_sRI, kd_sRP, kd_nw, gI_sI, gI_sP, gI_sRI, gI_sRP, gI_nw, gP_sI, gP_sP, gP_sRI, gP_sRP, gP_nw, ln_sI, ln_sP, ln_sRI, ln_sRP, ln_nw, rI_sI, rI_sP, rI_sRI, rI_sRP, rI_nw, rP_sI, rP_sP, rP_sRI, rP_sRP, rP_nw, va_up_self]
  have vq4 : gI P4 2 q4 = 0 := by rw [hp4]; simp [kd_sI, kd_sP, kd_sRI, kd_sRP, kd_nw, gI_sI, gI_sP, gI_sRI, gI_sRP, gI_nw, gP_sI, gP_sP, gP_sRI, gP_sRP, gP_nw, ln_sI, ln_sP, ln_sRI, ln_sRP, ln_nw, rI_sI, rI_sP, rI_sRI, rI_sRP, rI_nw, rP_sI, rP_sP, rP_sRI, rP_sRP, rP_nw, va_up_self]
  -- stage 5
  obtain ⟨S5, hS5⟩ : ∃ Z, Z = sP P4 772 x (some q4) := ⟨_, rfl⟩
  have x5 : Ox x 772 S4 S5 := by rw [hS5]; exact Ox.one o4
  have kx5 : kd S5 x = 13 := (x5 x (by rw [kx4]; decide)).1.trans kx4
  have lx5 : gP S5 772 x = some q4 := by rw [hS5, gP_sP, if_pos ⟨rfl, rfl⟩]
  refine bX11_init_56 B ((o4 x (by rw [kx4]; decide)).1.trans kx4) (Nat.le_of_ble_eq_true rfl) (Nat.le_of_ble_eq_true rfl) ?_
  rw [← hS5]
  intro q5 hq5
  have y4_5 := x5
  have y3_5 := x4.tr y4_5 (by decide)
  have y2_5 := x3.tr y3_5 (by decide)
  have y1_5 := x2.tr y2_5 (by decide)
  have nx5 : x ≠ q5 := fun z => by rw [z, hq5] at kx5; exact absurd kx5 (by decide)
  have t5k : kd S5 q0 = 10 := (y1_5 q0 (by rw [kS1q0]; decide)).1.trans kS1q0
  have nt5 : q0 ≠ q5 := fun z => by rw [z, hq5] at t5k; exact absurd t5k (by decide)
  have t5l : gP S5 577 q0 = some d := ((y1_5 q0 (by rw [kS1q0]; decide)).2.2.2.2.2 577 (fun _ => by decide)).trans lS1q0
  have x5l : gP S5 768 x = some q0 := ((y1_5 x (by rw [kx1]; decide)).2.2.2.2.2 768 (fun _ => by decide)).trans lx1
  refine bX11_init_63 B (by rw [kd_nw, if_neg nx5]; exact kx5) (by rw [gP_nw, if_neg nx5]; exact x5l) (c_scI (d := d) (by rw [kd_nw, if_pos rfl]) (by rw [kd_nw, if_neg nt5]; exact t5k) (by rw [gP_nw, if_neg nt5]; exact t5l)) (Nat.le_of_ble_eq_true rfl) (Nat.le_of_ble_eq_true rfl) (fun P5 hp5 => ?_)
  obtain ⟨g5, m1, l1, o1, t1, ⟨hm1, hl1, ho1, ht1⟩, ⟨n1a, n1b, n1c⟩, ⟨s1, s2, s3, s4, s5, s6, s7⟩, ⟨s8, s9, s10, s11, s12⟩, s13⟩ := hp5
  obtain ⟨nm1q, hm1⟩ := nw0 hm1 (by decide)
  obtain ⟨nl1q, hl1⟩ := nw0 hl1 (by decide)
  obtain ⟨no1q, ho1⟩ := nw0 ho1 (by decide)
  obtain ⟨nt1q, ht1⟩ := nw0 ht1 (by decide)
  have o5 : Old S5 P5 := Old.ctor hq5 g5
  have kq5 : kd P5 q5 = 9 := g5.1.trans (by rw [kd_nw, if_pos rfl])
  -- stage 6
  obtain ⟨S6, hS6⟩ : ∃ Z, Z = sP P5 773 x (some q5) := ⟨_, rfl⟩
  have x6 : Ox x 773 S5 S6 := by rw [hS6]; exact Ox.one o5
  have kx6 : kd S6 x = 13 := (x6 x (by rw [kx5]; decide)).1.trans kx5
  have lx6 : gP S6 773 x = some q5 := by rw [hS6, gP_sP, if_pos ⟨rfl, rfl⟩]
  refine bX11_init_71 B ((o5 x (by rw [kx5]; decide)).1.trans kx5) (Nat.le_of_ble_eq_true rfl) (Nat.le_of_ble_eq_true rfl) ?_
  rw [← hS6]
  intro q6 hq6
  have y5_6 := x6
  have y4_6 := x5.tr y5_6 (by decide)
  have y3_6 := x4.tr y4_6 (by decide)
  have y2_6 := x3.tr y3_6 (by decide)
  have y1_6 := x2.tr y2_6 (by decide)
  have nx6 : x ≠ q6 := fun z => by rw [z, hq6] at kx6; exact absurd kx6 (by decide)
  have t6k : kd S6 q0 = 10 := (y1_6 q0 (by rw [kS1q0]; decide)).1.trans kS1q0
  have nt6 : q0 ≠ q6 := fun z => by rw [z, hq6] at t6k; exact absurd t6k (by decide)
  have t6l : gP S6 577 q0 = some d := ((y1_6 q0 (by rw [kS1q0]; decide)).2.2.2.2.2 577 (fun _ => by decide)).trans lS1q0
  have x6l : gP S6 768 x = some q0 := ((y1_6 x (by rw [kx1]; decide)).2.2.2.2.2 768 (fun _ => by decide)).trans lx1
  have x6m : gP S6 769 x = some q1 := ((y2_6 x (by rw [kx2]; decide)).2.2.2.2.2 769 (fun _ => by decide)).trans lx2
  have x6n : gP S6 770 x = some q2 := ((y3_6 x (by rw [kx3]; decide)).2.2.2.2.2 770 (fun _ => by decide)).trans lx3
  refine bX11_init_78 B (by rw [kd_nw, if_neg nx6]; exact kx6) (by rw [gP_nw, if_neg nx6]; exact x6l) (by rw [gP_nw, if_neg nx6]; exact x6m) (by rw [gP_nw, if_neg nx6]; exact x6n) (c_rdI (d := d) (by rw [kd_nw, if_pos rfl]) (by rw [kd_nw, if_neg nt6]; exact t6k) (by rw [gP_nw, if_neg nt6]; exact t6l)) (Nat.le_of_ble_eq_true rfl) (Nat.le_of_ble_eq_true rfl) (fun P6 hp6 => ?_)
  obtain ⟨g6, t2, ht2, s14, ⟨s15, s16, s17, s18⟩, s19⟩ := hp6
  obtain ⟨nt2q, ht2⟩ := nw0 ht2 (by decide)
  have o6 : Old S6 P6 := Old.ctor hq6 g6
  have kq6 : kd P6 q6 = 7 := g6.1.trans (by rw [kd_nw, if_pos rfl])
  -- stage 7
  obtain ⟨S7, hS7⟩ : ∃ Z, Z = sP P6 774 x (some q6) := ⟨_, rfl⟩
  have x7 : Ox x 774 S6 S7 := by rw [hS7]; exact Ox.one o6
  have kx7 : kd S7 x = 13 := (x7 x (by rw [kx6]; decide)).1.trans kx6
  have lx7 : gP S7 774 x = some q6 := by rw [hS7, gP_sP, if_pos ⟨rfl, rfl⟩]
  refine bX11_init_94 B ((o6 x (by rw [kx6]; decide)).1.trans kx6) (Nat.le_of_ble_eq_true rfl) (Nat.le_of_ble_eq_true rfl) ?_
  rw [← hS7]
  intro q7 hq7
  refine bX11_init_101 B (c_chI (by rw [kd_nw, if_pos rfl])) (Nat.le_of_ble_eq_true rfl) (Nat.le_of_ble_eq_true rfl) (fun P7 hp7 => ?_)
  have o7 : Old S7 P7 := by rw [hp7]; exact (((Old.rf.new hq7 2 0).si hq7 _ _).si hq7 _ _).sp hq7 _ _
  have kq7 : kd P7 q7 = 2 := by rw [hp7]; simp [kd_sI, kd_sP, kd_sRI, kd_sRP, kd_nw, gI_sI, gI_sP, gI_sRI, gI_sRP, gI_nw, gP_sI, gP_sP, gP_sRI, gP_sRP, gP_nw, ln_sI, ln_sP, ln_sRI, ln_sRP, ln_nw, rI_sI, rI_sP, rI_sRI, rI_sRP, rI_nw, rP_sI, rP_sP, rP_sRI, rP_sRP, rP_nw, va_up_self]
  -- stage 8
  obtain ⟨S8, hS8⟩ : ∃ Z, Z = sP P7 775 x (some q7) := ⟨_, rfl⟩
  have x8 : Ox x 775 S7 S8 := by rw [hS8]; exact Ox.one o7
  have kx8 : kd S8 x = 13 := (x8 x (by rw [kx7]; decide)).1.trans kx7
  have lx8 : gP S8 775 x = some q7 := by rw [hS8, gP_sP, if_pos ⟨rfl, rfl⟩]
  refine bX11_init_105 B ((o7 x (by rw [kx7]; decide)).1.trans kx7) (Nat.le_of_ble_eq_true rfl) (Nat.le_of_ble_eq_true rfl) ?_
  rw [← hS8]
  intro q8 hq8
  refine bX11_init_112 B (c_rtI (by rw [kd_nw, if_pos rfl])) (Nat.le_of_ble_eq_true rfl) (Nat.le_of_ble_eq_true rfl) (fun P8 hp8 => ?_)
  obtain ⟨w8, hw8, hp8⟩ := hp8
  obtain ⟨nw8q, hw8⟩ := nw0 hw8 (by decide)
  have nqw8 := Ne.symm nw8q
  have o8 : Old S8 P8 := by rw [hp8]; exact (((Old.rf.new hq8 8 0).new hw8 22 13).sp hq8 _ _).si hq8 _ _
  have kq8 : kd P8 q8 = 8 := by rw [hp8]; simp [kd_sI, kd_sP, kd_sRI, kd_sRP, kd_nw, gI_sI, gI_sP, gI_sRI, gI_sRP, gI_nw, gP_sI, gP_sP, gP_sRI, gP_sRP, gP_nw, ln_sI, ln_sP, ln_sRI, ln_sRP, ln_nw, rI_sI, rI_sP, rI_sRI, rI_sRP, rI_nw, rP_sI, rP_sP, rP_sRI, rP_sRP, rP_nw, va_up_self, nqw8]
  have kw8 : kd P8 w8 = 22 := by rw [hp8]; simp [kd_sI, kd_sP, kd_sRI, kd_sRP, kd_nw, gI_sI, gI_sP, gI_sRI, gI_sRP, gI_nw, gP_sI, gP_sP, gP_sRI, gP_sRP, gP_nw, ln_sI, ln_sP, ln_sRI, ln_sRP, ln_nw, rI_sI, rI_sP, rI_sRI, rI_sRP, rI_nw, rP_sI, rP_sP, rP_sRI, rP_sRP, rP_nw, va_up_self]
  have ln8 : ln P8 w8 = 13 := by rw [hp8]; simp [kd_sI, kd_sP, kd_sRI, kd_sRP, kd_nw, gI_sI, gI_sP, gI_sRI, gI_sRP, gI_nw, gP_sI, gP_sP, gP_sRI, gP_sRP, gP_nw, ln_sI, ln_sP, ln_sRI, ln_sRP, ln_nw, rI_sI, rI_sP, rI_sRI, rI_sRP, rI_nw, rP_sI, rP_sP, rP_sRI, rP_sRP, rP_nw, va_up_self]
  have lq8 : gP P8 448 q8 = some w8 := by rw [hp8]; simp [kd_sI, kd_sP, kd_sRI, kd_sRP, kd_nw, gI_sI, gI_sP, gI_sRI, gI_sRP, gI_nw, gP_sI, gP_sP, gP_sRI, gP_sRP, gP_nw, ln_sI, ln_sP, ln_sRI, ln_sRP, ln_nw, rI_sI, rI_sP, rI_sRI, rI_sRP, rI_nw, rP_sI, rP_sP, rP_sRI, rP_sRP, rP_nw, va_up_self]
  -- stage 9
  obtain ⟨S9, hS9⟩ : ∃ Z, Z = sP P8 776 x (some q8) := ⟨_, rfl⟩
  have x9 : Ox x 776 S8 S9 := by rw [hS9]; exact Ox.one o8
  have kx9 : kd S9 x = 13 := (x9 x (by rw [kx8]; decide)).1.trans kx8
  have lx9 : gP S9 776 x = some q8 := by rw [hS9, gP_sP, if_pos ⟨rfl, rfl⟩]
  refine bX11_init_116 B ((o8 x (by rw [kx8]; decide)).1.trans kx8) (Nat.le_of_ble_eq_true rfl) (Nat.le_of_ble_eq_true rfl) ?_
  rw [← hS9]
  intro q9 hq9
  refine bX11_init_123 B (c_rtI (by rw [kd_nw, if_pos rfl])) (Nat.le_of_ble_eq_true rfl) (Nat.le_of_ble_eq_true rfl) (fun P9 hp9 => ?_)
  obtain ⟨w9, hw9, hp9⟩ := hp9
  obtain ⟨nw9q, hw9⟩ := nw0 hw9 (by decide)
  have nqw9 := Ne.symm nw9q
  have o9 : Old S9 P9 := by rw [hp9]; exact (((Old.rf.new hq9 8 0).new hw9 22 13).sp hq9 _ _).si hq9 _ _
  have kq9 : kd P9 q9 = 8 := by rw [hp9]; simp [kd_sI, kd_sP, kd_sRI, kd_sRP, kd_nw, gI_sI, gI_sP, gI_sRI, gI_sRP, gI_nw, gP_sI, gP_sP, gP_sRI, gP_sRP, gP_nw, ln_sI, ln_sP, ln_sRI, ln_sRP, ln_nw, rI_sI, rI_sP, rI_sRI, rI_sRP, rI_nw, rP_sI, rP_sP, rP_sRI, rP_sRP, rP_nw, va_up_self, nqw9]
  have kw9 : kd P9 w9 = 22 := by rw [hp9]; simp [kd_sI, kd_sP, kd_sRI, kd_sRP, kd_nw, gI_sI, gI_sP, gI_sRI, gI_sRP, gI_nw, gP_sI, gP_sP, gP_sRI, gP_sRP, gP_nw, ln_sI, ln_sP, ln_sRI, ln_sRP, ln_nw, rI_sI, rI_sP, rI_sRI, rI_sRP, rI_nw, rP_sI, rP_sP, rP_sRI, rP_sRP, rP_nw, va_up_self]
  have ln9 : ln P9 w9 = 13 := by rw [hp9]; simp [kd_sI, kd_sP, kd_sRI, kd_sRP, kd_nw, gI_sI, gI_sP, gI_sRI, gI_sRP, gI_nw, gP_sI, gP_sP, gP_sRI, gP_sRP, gP_nw, ln_sI, ln_sP, ln_sRI, ln_sRP, ln_nw, rI_sI, rI_sP, rI_sRI, rI_sRP, rI_nw, rP_sI, rP_sP, rP_sRI, rP_sRP, rP_nw, va_up_self]
  have lq9 : gP P9 448 q9 = some w9 := by rw [hp9]; simp [kd_sI, kd_sP, kd_sRI, kd_sRP, kd_nw, gI_sI, gI_sP, gI_sRI, gI_sRP, gI_nw, gP_sI, gP_sP, gP_sRI, gP_sRP, gP_nw, ln_sI, ln_sP, ln_sRI, ln_sRP, ln_nw, rI_sI, rI_sP, rI_sRI, rI_sRP, rI_nw, rP_sI, rP_sP, rP_sRI, rP_sRP, rP_nw, va_up_self]
  obtain ⟨S10, hS10⟩ : ∃ Z, Z = sP P9 777 x (some q9) := ⟨_, rfl⟩
  have x10 : Ox x 777 S9 S10 := by rw [hS10]; exact Ox.one o9
  have kx10 : kd S10 x = 13 := (x10 x (by rw [kx9]; decide)).1.trans kx9
  have lx10 : gP S10 777 x = some q9 := by rw [hS10, gP_sP, if_pos ⟨rfl, rfl⟩]
  have z9 := x10
  have z8 := x9.tr z9 (by decide)
  have z7 := x8.tr z8 (by decide)
  have z6 := x7.tr z7 (by decide)
  have z5 := x6.tr z6 (by decide)
  have z4 := x5.tr z5 (by decide)
  have z3 := x4.tr z4 (by decide)
  have z2 := x3.tr z3 (by decide)
  have z1 := x2.tr z2 (by decide)
  have kP9x : kd P9 x = 13 := (o9 x (by rw [kx9]; decide)).1.trans kx9
  refine k_wE B (fun hwE0 => bX11_init_127 B kP9x kP9x ?_)
  rw [← hS10]
  have hwE : ∀ a, kd S10 a ≠ 0 → a ≠ wE w := fun a ha => hwE0 a (by rw [hS10, kd_sP] at ha; exact ha)
  have u_q0 : kd S1 q0 = 10 := by rw [hS1, kd_sP]; exact kq0
  have n_q0 : q0 ≠ x := fun z => by rw [z, kx1] at u_q0; exact absurd u_q0 (by decide)
  have f_q0 := z1 q0 (by rw [u_q0]; decide)
  have k_q0 : kd S10 q0 = 10 := f_q0.1.trans u_q0
  have u_r : kd S1 r = 21 := by rw [hS1, kd_sP]; exact tr1
  have n_r : r ≠ x := fun z => by rw [z, kx1] at u_r; exact absurd u_r (by decide)
  have f_r := z1 r (by rw [u_r]; decide)
  have k_r : kd S10 r = 21 := f_r.1.trans u_r
  have u_d : kd S1 d = 6 := by rw [hS1, kd_sP]; exact td1
  have n_d : d ≠ x := fun z => by rw [z, kx1] at u_d; exact absurd u_d (by decide)
  have f_d := z1 d (by rw [u_d]; decide)
  have k_d : kd S10 d = 6 := f_d.1.trans u_d
  have u_q1 : kd S2 q1 = 1 := by rw [hS2, kd_sP]; exact kq1
  have n_q1 : q1 ≠ x := fun z => by rw [z, kx2] at u_q1; exact absurd u_q1 (by decide)
  have f_q1 := z2 q1 (by rw [u_q1]; decide)
  have k_q1 : kd S10 q1 = 1 := f_q1.1.trans u_q1
  have u_q2 : kd S3 q2 = 1 := by rw [hS3, kd_sP]; exact kq2
  have n_q2 : q2 ≠ x := fun z => by rw [z, kx3] at u_q2; exact absurd u_q2 (by decide)
  have f_q2 := z3 q2 (by rw [u_q2]; decide)
  have k_q2 : kd S10 q2 = 1 := f_q2.1.trans u_q2
  have u_q3 : kd S4 q3 = 1 := by rw [hS4, kd_sP]; exact kq3
  have n_q3 : q3 ≠ x := fun z => by rw [z, kx4] at u_q3; exact absurd u_q3 (by decide)
  have f_q3 := z4 q3 (by rw [u_q3]; decide)
  have k_q3 : kd S10 q3 = 1 := f_q3.1.trans u_q3
  have u_q4 : kd S5 q4 = 1 := by rw [hS5, kd_sP]; exact kq4
  have n_q4 : q4 ≠ x := fun z => by rw [z, kx5] at u_q4; exact absurd u_q4 (by decide)
  have f_q4 := z5 q4 (by rw [u_q4]; decide)
  have k_q4 : kd S10 q4 = 1 := f_q4.1.trans u_q4
  have u_q5 : kd S6 q5 = 9 := by rw [hS6, kd_sP]; exact kq5
  have n_q5 : q5 ≠ x := fun z => by rw [z, kx6] at u_q5; exact absurd u_q5 (by decide)
  have f_q5 := z6 q5 (by rw [u_q5]; decide)
  have k_q5 : kd S10 q5 = 9 := f_q5.1.trans u_q5
  have u_t1 : kd S6 t1 = 11 := by rw [hS6, kd_sP]; exact s7
  have n_t1 : t1 ≠ x := fun z => by rw [z, kx6] at u_t1; exact absurd u_t1 (by decide)
  have f_t1 := z6 t1 (by rw [u_t1]; decide)
  have k_t1 : kd S10 t1 = 11 := f_t1.1.trans u_t1
  have u_m1 : kd S6 m1 = 21 := by rw [hS6, kd_sP]; exact s1
  have n_m1 : m1 ≠ x := fun z => by rw [z, kx6] at u_m1; exact absurd u_m1 (by decide)
  have f_m1 := z6 m1 (by rw [u_m1]; decide)
  have k_m1 : kd S10 m1 = 21 := f_m1.1.trans u_m1
  have u_l1 : kd S6 l1 = 21 := by rw [hS6, kd_sP]; exact s3
  have n_l1 : l1 ≠ x := fun z => by rw [z, kx6] at u_l1; exact absurd u_l1 (by decide)
  have f_l1 := z6 l1 (by rw [u_l1]; decide)
  have k_l1 : kd S10 l1 = 21 := f_l1.1.trans u_l1
  have u_o1 : kd S6 o1 = 21 := by rw [hS6, kd_sP]; exact s5
  have n_o1 : o1 ≠ x := fun z => by rw [z, kx6] at u_o1; exact absurd u_o1 (by decide)
  have f_o1 := z6 o1 (by rw [u_o1]; decide)
  have k_o1 : kd S10 o1 = 21 := f_o1.1.trans u_o1
  have u_q6 : kd S7 q6 = 7 := by rw [hS7, kd_sP]; exact kq6
  have n_q6 : q6 ≠ x := fun z => by rw [z, kx7] at u_q6; exact absurd u_q6 (by decide)
  have f_q6 := z7 q6 (by rw [u_q6]; decide)
  have k_q6 : kd S10 q6 = 7 := f_q6.1.trans u_q6
  have u_t2 : kd S7 t2 = 11 := by rw [hS7, kd_sP]; exact s14
  have n_t2 : t2 ≠ x := fun z => by rw [z, kx7] at u_t2; exact absurd u_t2 (by decide)
  have f_t2 := z7 t2 (by rw [u_t2]; decide)
  have k_t2 : kd S10 t2 = 11 := f_t2.1.trans u_t2
  have u_q7 : kd S8 q7 = 2 := by rw [hS8, kd_sP]; exact kq7
  have n_q7 : q7 ≠ x := fun z => by rw [z, kx8] at u_q7; exact absurd u_q7 (by decide)
  have f_q7 := z8 q7 (by rw [u_q7]; decide)
  have k_q7 : kd S10 q7 = 2 := f_q7.1.trans u_q7
  have u_q8 : kd S9 q8 = 8 := by rw [hS9, kd_sP]; exact kq8
  have n_q8 : q8 ≠ x := fun z => by rw [z, kx9] at u_q8; exact absurd u_q8 (by decide)
  have f_q8 := z9 q8 (by rw [u_q8]; decide)
  have k_q8 : kd S10 q8 = 8 := f_q8.1.trans u_q8
  have u_w8 : kd S9 w8 = 22 := by rw [hS9, kd_sP]; exact kw8
  have n_w8 : w8 ≠ x := fun z => by rw [z, kx9] at u_w8; exact absurd u_w8 (by decide)
  have f_w8 := z9 w8 (by rw [u_w8]; decide)
  have k_w8 : kd S10 w8 = 22 := f_w8.1.trans u_w8
  have u_q9 : kd S10 q9 = 8 := by rw [hS10, kd_sP]; exact kq9
  have n_q9 : q9 ≠ x := fun z => by rw [z, kx10] at u_q9; exact absurd u_q9 (by decide)
  have k_q9 : kd S10 q9 = 8 := u_q9
  have u_w9 : kd S10 w9 = 22 := by rw [hS10, kd_sP]; exact kw9
  have n_w9 : w9 ≠ x := fun z => by rw [z, kx10] at u_w9; exact absurd u_w9 (by decide)
  have k_w9 : kd S10 w9 = 22 := u_w9
  have p_q0_576 : gP S10 576 q0 = some r := (f_q0.2.2.2.2.2 576 (fun z => absurd z n_q0)).trans (show gP S1 576 q0 = some r from by rw [hS1, gP_sP, if_neg (fun z => n_q0 z.2)]; exact tl1)
  have p_q0_577 : gP S10 577 q0 = some d := (f_q0.2.2.2.2.2 577 (fun z => absurd z n_q0)).trans (show gP S1 577 q0 = some d from by rw [hS1, gP_sP, if_neg (fun z => n_q0 z.2)]; exact tl2)
  have p_q5_512 : gP S10 512 q5 = some q0 := (f_q5.2.2.2.2.2 512 (fun z => absurd z n_q5)).trans (show gP S6 512 q5 = some q0 from by rw [hS6, gP_sP, if_neg (fun z => n_q5 z.2)]; exact s8)
  have p_q5_513 : gP S10 513 q5 = some t1 := (f_q5.2.2.2.2.2 513 (fun z => absurd z n_q5)).trans (show gP S6 513 q5 = some t1 from by rw [hS6, gP_sP, if_neg (fun z => n_q5 z.2)]; exact s9)
  have p_q5_514 : gP S10 514 q5 = some m1 := (f_q5.2.2.2.2.2 514 (fun z => absurd z n_q5)).trans (show gP S6 514 q5 = some m1 from by rw [hS6, gP_sP, if_neg (fun z => n_q5 z.2)]; exact s10)
  have p_q5_515 : gP S10 515 q5 = some l1 := (f_q5.2.2.2.2.2 515 (fun z => absurd z n_q5)).trans (show gP S6 515 q5 = some l1 from by rw [hS6, gP_sP, if_neg (fun z => n_q5 z.2)]; exact s11)
  have p_q5_516 : gP S10 516 q5 = some o1 := (f_q5.2.2.2.2.2 516 (fun z => absurd z n_q5)).trans (show gP S6 516 q5 = some o1 from by rw [hS6, gP_sP, if_neg (fun z => n_q5 z.2)]; exact s12)
  have p_t1_640 : gP S10 640 t1 = some q0 := (f_t1.2.2.2.2.2 640 (fun z => absurd z n_t1)).trans (show gP S6 640 t1 = some q0 from by rw [hS6, gP_sP, if_neg (fun z => n_t1 z.2)]; exact s13)
  have p_q6_384 : gP S10 384 q6 = some q0 := (f_q6.2.2.2.2.2 384 (fun z => absurd z n_q6)).trans (show gP S7 384 q6 = some q0 from by rw [hS7, gP_sP, if_neg (fun z => n_q6 z.2)]; exact s15)
  have p_q6_385 : gP S10 385 q6 = some q1 := (f_q6.2.2.2.2.2 385 (fun z => absurd z n_q6)).trans (show gP S7 385 q6 = some q1 from by rw [hS7, gP_sP, if_neg (fun z => n_q6 z.2)]; exact s16)
  have p_q6_386 : gP S10 386 q6 = some q2 := (f_q6.2.2.2.2.2 386 (fun z => absurd z n_q6)).trans (show gP S7 386 q6 = some q2 from by rw [hS7, gP_sP, if_neg (fun z => n_q6 z.2)]; exact s17)
  have p_q6_387 : gP S10 387 q6 = some t2 := (f_q6.2.2.2.2.2 387 (fun z => absurd z n_q6)).trans (show gP S7 387 q6 = some t2 from by rw [hS7, gP_sP, if_neg (fun z => n_q6 z.2)]; exact s18)
  have p_t2_640 : gP S10 640 t2 = some q0 := (f_t2.2.2.2.2.2 640 (fun z => absurd z n_t2)).trans (show gP S7 640 t2 = some q0 from by rw [hS7, gP_sP, if_neg (fun z => n_t2 z.2)]; exact s19)
  have p_q8_448 : gP S10 448 q8 = some w8 := (f_q8.2.2.2.2.2 448 (fun z => absurd z n_q8)).trans (show gP S9 448 q8 = some w8 from by rw [hS9, gP_sP, if_neg (fun z => n_q8 z.2)]; exact lq8)
  have p_q9_448 : gP S10 448 q9 = some w9 := (show gP S10 448 q9 = some w9 from by rw [hS10, gP_sP, if_neg (fun z => n_q9 z.2)]; exact lq9)
  have p_q1_1 : gP S10 1 q1 = some (wE w) := (f_q1.2.2.2.2.2 1 (fun z => absurd z n_q1)).trans (show gP S2 1 q1 = some (wE w) from by rw [hS2, gP_sP, if_neg (fun z => n_q1 z.2)]; exact lq1)
  have p_q2_1 : gP S10 1 q2 = some (wE w) := (f_q2.2.2.2.2.2 1 (fun z => absurd z n_q2)).trans (show gP S3 1 q2 = some (wE w) from by rw [hS3, gP_sP, if_neg (fun z => n_q2 z.2)]; exact lq2)
  have p_q3_1 : gP S10 1 q3 = some (wE w) := (f_q3.2.2.2.2.2 1 (fun z => absurd z n_q3)).trans (show gP S4 1 q3 = some (wE w) from by rw [hS4, gP_sP, if_neg (fun z => n_q3 z.2)]; exact lq3)
  have p_q4_1 : gP S10 1 q4 = some (wE w) := (f_q4.2.2.2.2.2 1 (fun z => absurd z n_q4)).trans (show gP S5 1 q4 = some (wE w) from by rw [hS5, gP_sP, if_neg (fun z => n_q4 z.2)]; exact lq4)
  have i_q1 : gI S10 2 q1 = 0 := (f_q1.2.2.2.2.1 n_q1 2).trans (by rw [hS2, gI_sP]; exact vq1)
  have i_q2 : gI S10 2 q2 = 0 := (f_q2.2.2.2.2.1 n_q2 2).trans (by rw [hS3, gI_sP]; exact vq2)
  have i_q3 : gI S10 2 q3 = 0 := (f_q3.2.2.2.2.1 n_q3 2).trans (by rw [hS4, gI_sP]; exact vq3)
  have i_q4 : gI S10 2 q4 = 0 := (f_q4.2.2.2.2.1 n_q4 2).trans (by rw [hS5, gI_sP]; exact vq4)
  have i_d0 : gI S10 320 d = 30 := (f_d.2.2.2.2.1 n_d 320).trans (by rw [hS1, gI_sP]; exact tv2)
  have i_d1 : gI S10 321 d = 30 := (f_d.2.2.2.2.1 n_d 321).trans (by rw [hS1, gI_sP]; exact tv3)
  have i_r : rI S10 r = tens := f_r.2.2.1.trans (by rw [hS1, rI_sP]; exact tv1)
  have n_ln_r : ln S10 r = 24 := f_r.2.1.trans (by rw [hS1, ln_sP]; exact tr2)
  have n_ln_m1 : ln S10 m1 = 12 := f_m1.2.1.trans (by rw [hS6, ln_sP]; exact s2)
  have n_ln_l1 : ln S10 l1 = 12 := f_l1.2.1.trans (by rw [hS6, ln_sP]; exact s4)
  have n_ln_o1 : ln S10 o1 = 12 := f_o1.2.1.trans (by rw [hS6, ln_sP]; exact s6)
  have n_ln_w8 : ln S10 w8 = 13 := f_w8.2.1.trans (by rw [hS9, ln_sP]; exact ln8)
  have n_ln_w9 : ln S10 w9 = 13 := by rw [hS10, ln_sP]; exact ln9
  have px0 : gP S10 768 x = some q0 := ((z1 x (by rw [kx1]; decide)).2.2.2.2.2 768 (fun _ => by decide)).trans lx1
  have px1 : gP S10 769 x = some q1 := ((z2 x (by rw [kx2]; decide)).2.2.2.2.2 769 (fun _ => by decide)).trans lx2
  have px2 : gP S10 770 x = some q2 := ((z3 x (by rw [kx3]; decide)).2.2.2.2.2 770 (fun _ => by decide)).trans lx3
  have px3 : gP S10 771 x = some q3 := ((z4 x (by rw [kx4]; decide)).2.2.2.2.2 771 (fun _ => by decide)).trans lx4
  have px4 : gP S10 772 x = some q4 := ((z5 x (by rw [kx5]; decide)).2.2.2.2.2 772 (fun _ => by decide)).trans lx5
  have px5 : gP S10 773 x = some q5 := ((z6 x (by rw [kx6]; decide)).2.2.2.2.2 773 (fun _ => by decide)).trans lx6
  have px6 : gP S10 774 x = some q6 := ((z7 x (by rw [kx7]; decide)).2.2.2.2.2 774 (fun _ => by decide)).trans lx7
  have px7 : gP S10 775 x = some q7 := ((z8 x (by rw [kx8]; decide)).2.2.2.2.2 775 (fun _ => by decide)).trans lx8
  have px8 : gP S10 776 x = some q8 := ((z9 x (by rw [kx9]; decide)).2.2.2.2.2 776 (fun _ => by decide)).trans lx9
  have px9 : gP S10 777 x = some q9 := lx10
  have d_q1_q2 : q1 ≠ q2 := fun z => by
    have y1 := u_q1
    rw [z, hq2] at y1
    exact absurd y1 (by decide)
  have d_q1_q3 : q1 ≠ q3 := fun z => by
    have y1 := ((x3 q1 (by rw [u_q1]; decide)).1.trans u_q1)
    rw [z, hq3] at y1
    exact absurd y1 (by decide)
  have d_q1_q4 : q1 ≠ q4 := fun z => by
    have y1 := (((x3.tr x4 (by decide)) q1 (by rw [u_q1]; decide)).1.trans u_q1)
    rw [z, hq4] at y1
    exact absurd y1 (by decide)
  have d_q2_q3 : q2 ≠ q3 := fun z => by
    have y1 := u_q2
    rw [z, hq3] at y1
    exact absurd y1 (by decide)
  have d_q2_q4 : q2 ≠ q4 := fun z => by
    have y1 := ((x4 q2 (by rw [u_q2]; decide)).1.trans u_q2)
    rw [z, hq4] at y1
    exact absurd y1 (by decide)
  have d_q3_q4 : q3 ≠ q4 := fun z => by
    have y1 := u_q3
    rw [z, hq4] at y1
    exact absurd y1 (by decide)
  have d_r_m1 : r ≠ m1 := fun z => by
    have y1 := (((x2.tr (x3.tr (x4.tr x5 (by decide)) (by decide)) (by decide)) r (by rw [u_r]; decide)).1.trans u_r)
    rw [z, hm1] at y1
    exact absurd y1 (by decide)
  have d_r_l1 : r ≠ l1 := fun z => by
    have y1 := (((x2.tr (x3.tr (x4.tr x5 (by decide)) (by decide)) (by decide)) r (by rw [u_r]; decide)).1.trans u_r)
    rw [z, hl1] at y1
    exact absurd y1 (by decide)
  have d_r_o1 : r ≠ o1 := fun z => by
    have y1 := (((x2.tr (x3.tr (x4.tr x5 (by decide)) (by decide)) (by decide)) r (by rw [u_r]; decide)).1.trans u_r)
    rw [z, ho1] at y1
    exact absurd y1 (by decide)
  have d_t1_t2 : t1 ≠ t2 := fun z => by
    have y1 := u_t1
    rw [z, ht2] at y1
    exact absurd y1 (by decide)
  have d_q8_q9 : q8 ≠ q9 := fun z => by
    have y1 := u_q8
    rw [z, hq9] at y1
    exact absurd y1 (by decide)
  have d_w8_w9 : w8 ≠ w9 := fun z => by
    have y1 := u_w8
    rw [z, hw9] at y1
    exact absurd y1 (by decide)
  have r9 : CR w (sI S10 778 x 0) (tab0 [x, q0, r, d, q1, q2, q3, q4, q5, t1, m1, l1, o1, q6, t2, q7, q8, w8, q9, w9] (wE w)) α := by
    refine CR.mk0 n1 n2 n3 n4 hwE (fun c hc => ?_) (fun p hp => ?_) (fun t ht h20 => ?_) (fun j hj => ?_) ?_
    · have : c = 0 ∨ c = 1 ∨ c = 2 ∨ c = 3 ∨ c = 4 ∨ c = 5 ∨ c = 6 ∨ c = 7 ∨ c = 8 ∨ c = 9 ∨ c = 10 ∨ c = 11 ∨ c = 12 ∨ c = 13 ∨ c = 14 ∨ c = 15 ∨ c = 16 ∨ c = 17 ∨ c = 18 ∨ c = 19 := by omega
      rcases this with rfl | rfl | rfl | rfl | rfl | rfl | rfl | rfl | rfl | rfl | rfl | rfl | rfl | rfl | rfl | rfl | rfl | rfl | rfl | rfl
      · exact ⟨kx10, fun z => absurd z (by decide)⟩
      · exact ⟨k_q0, fun z => absurd z (by decide)⟩
      · exact ⟨k_r, fun _ => n_ln_r⟩
      · exact ⟨k_d, fun z => absurd z (by decide)⟩
      · exact ⟨k_q1, fun z => absurd z (by decide)⟩
      · exact ⟨k_q2, fun z => absurd z (by decide)⟩
      · exact ⟨k_q3, fun z => absurd z (by decide)⟩
      · exact ⟨k_q4, fun z => absurd z (by decide)⟩
      · exact ⟨k_q5, fun z => absurd z (by decide)⟩
      · exact ⟨k_t1, fun z => absurd z (by decide)⟩
      · exact ⟨k_m1, fun _ => n_ln_m1⟩
      · exact ⟨k_l1, fun _ => n_ln_l1⟩
      · exact ⟨k_o1, fun _ => n_ln_o1⟩
      · exact ⟨k_q6, fun z => absurd z (by decide)⟩
      · exact ⟨k_t2, fun z => absurd z (by decide)⟩
      · exact ⟨k_q7, fun z => absurd z (by decide)⟩
      · exact ⟨k_q8, fun z => absurd z (by decide)⟩
      · exact ⟨k_w8, fun _ => n_ln_w8⟩
      · exact ⟨k_q9, fun z => absurd z (by decide)⟩
      · exact ⟨k_w9, fun _ => n_ln_w9⟩
    · simp only [prs, List.mem_cons, List.not_mem_nil, or_false] at hp
      rcases hp with rfl | rfl | rfl | rfl | rfl | rfl | rfl | rfl | rfl | rfl | rfl | rfl | rfl | rfl | rfl
      · exact d_q1_q2
      · exact d_q1_q3
      · exact d_q1_q4
      · exact d_q2_q3
      · exact d_q2_q4
      · exact d_q3_q4
      · exact d_r_m1
      · exact d_r_l1
      · exact d_r_o1
      · exact n1a
      · exact n1b
      · exact n1c
      · exact d_t1_t2
      · exact d_q8_q9
      · exact d_w8_w9
    · rw [gP_sI]
      simp only [LK, List.mem_cons, List.not_mem_nil, or_false] at ht
      rcases ht with rfl | rfl | rfl | rfl | rfl | rfl | rfl | rfl | rfl | rfl | rfl | rfl | rfl | rfl | rfl | rfl | rfl | rfl | rfl | rfl | rfl | rfl | rfl | rfl | rfl | rfl | rfl | rfl | rfl | rfl | rfl | rfl | rfl
      · exact px0
      · exact px1
      · exact px2
      · exact px3
      · exact px4
      · exact px5
      · exact px6
      · exact px7
      · exact px8
      · exact px9
      · exact p_q0_576
      · exact p_q0_577
      · exact p_q5_512
      · exact p_q5_513
      · exact p_q5_514
      · exact p_q5_515
      · exact p_q5_516
      · exact p_q6_384
      · exact p_q6_385
      · exact p_q6_386
      · exact p_q6_387
      · exact p_t1_640
      · exact p_t2_640
      · exact p_q8_448
      · exact p_q9_448
      · exact absurd h20 (by decide)
      · exact absurd h20 (by decide)
      · exact absurd h20 (by decide)
      · exact absurd h20 (by decide)
      · exact absurd h20 (by decide)
      · exact absurd h20 (by decide)
      · exact absurd h20 (by decide)
      · exact absurd h20 (by decide)
    · have : j = 0 ∨ j = 1 ∨ j = 2 ∨ j = 3 := by omega
      rcases this with rfl | rfl | rfl | rfl
      · exact ⟨p_q1_1, by rw [gI_sI, if_neg (fun z => absurd z.1 (by decide))]; exact i_q1⟩
      · exact ⟨p_q2_1, by rw [gI_sI, if_neg (fun z => absurd z.1 (by decide))]; exact i_q2⟩
      · exact ⟨p_q3_1, by rw [gI_sI, if_neg (fun z => absurd z.1 (by decide))]; exact i_q3⟩
      · exact ⟨p_q4_1, by rw [gI_sI, if_neg (fun z => absurd z.1 (by decide))]; exact i_q4⟩
    · unfold To
      rw [e7, e8, e9, e32]
      refine ⟨i_r, ?_, ?_, ?_⟩
      · rw [gI_sI, if_neg (fun z => absurd z.1 (by decide))]; exact i_d0
      · rw [gI_sI, if_neg (fun z => absurd z.1 (by decide))]; exact i_d1
      · rw [gI_sI, if_pos ⟨rfl, rfl⟩]
  exact CX0.mk r9
end INI3
