section FILL
variable {p : Program} {l : Launch} {e : Env} {s : State} {m : MethodId} {args : Array Value} {below : List Frame} {meth : Method} {c : Code} {w : Wd} {S : St}
theorem l_fill (B : Bd p s m args meth c cJ7_fill_53178 4 (wsOf yJ7_fill_53178 cJ7_fill_53178 4 none) RJ7 w none "fill") {Q : State → Prop} {S0 : St} {a : Nat} (h1 : kd S0 a = 21) (h2 : ln S0 a = 24) (h3 : rI S0 a = fun _ => 0) (hx : K p l e rJ7_fill_53178 s m args below meth c 4 w 0 0 Q (sRI S0 a tens) 20 [] []) :
    ∀ d i S, i + d = 24 → S = sRI S0 a (fun j => if j < i then 10 else 0) → K p l e rJ7_fill_53178 s m args below meth c 4 w 0 0 Q S 5 [(0, .ref a), (1, .int 10), (2, .int (nI i)), (3, .int (nI 24))] [] := by
  intro d
  induction d with
  | zero =>
    intro i S hi hS
    have : i = 24 := by omega
    subst this
    subst hS
    exact bJ7_fill_53178_5 B (fun _ => hx) (fun cc => absurd (Int32.le_refl _) cc)
  | succ d ih =>
    intro i S hi hS
    subst hS
    refine bJ7_fill_53178_5 B (fun cc => absurd cc (Int32.not_le.mpr (nI_lt (a := i) (b := 24) (by omega) (by decide)))) (fun _ => ?_)
    refine bJ7_fill_53178_10 B h1 (by rw [ln_sRI, h2]; exact vp_in_nI (show i < 24 by omega) (by decide)) ?_
    rw [nI_1, nI_clamp (show i < 2 ^ 31 by omega)]
    refine ih (i + 1) _ (by omega) (st_ext (fun _ => rfl) (fun _ _ => rfl) (fun _ _ => rfl) (fun _ => rfl) (fun b => ?_) (fun _ => rfl))
    by_cases hb : b = a
    · subst hb
      rw [rI_sRI, if_pos rfl, rI_sRI, if_pos rfl, rI_sRI, if_pos rfl]
      funext j
      by_cases z : j = i
      · subst z; rw [va_up_self, if_pos (by omega)]
      · rw [va_up_ne _ _ z]
        by_cases y : j < i
        · rw [if_pos y, if_pos (by omega)]
        · rw [if_neg y, if_neg (by omega)]
    · rw [rI_sRI, if_neg hb, rI_sRI, if_neg hb, rI_sRI, if_neg hb]
end FILL
/-- the numbers at the beginning -/
def al0 : Ab := fun F i => if F = 897 then tens i else if F = 898 ∨ F = 899 then 30 else 0
def al00 : Ab := fun F _ => if F = 898 ∨ F = 899 then 30 else 0
def Stt (S : St) (x m0 : Nat) : Prop := kd S x = 14 ∧ (∀ G, gI S G x = 0) ∧ gP S 846 x = some m0
theorem Stt.old {S S' : St} {x m0 : Nat} (h : Stt S x m0) (o : Old S S') : Stt S' x m0 := by
  have b := o x (by rw [h.1]; decide)
  exact ⟨b.1.trans h.1, fun G => (b.2.2.2.2.1 G).trans (h.2.1 G), (b.2.2.2.2.2 846).trans h.2.2⟩
theorem Stt.lnk {S : St} {x m0 f m : Nat} {v : Option Nat} (h : Stt S x m0) (hf : f ≠ 846) : Stt (sP S f m v) x m0 := ⟨h.1, h.2.1, by rw [gP_sP, if_neg (fun z => hf z.1.symm)]; exact h.2.2⟩
/-- the model at a stage: its kind, numbers, its link to s, ahead -/
def Mst (S : St) (m0 : Nat) : Prop := kd S m0 = 15 ∧ ∀ G, gI S G m0 = if G = 898 ∨ G = 899 then 30 else 0
theorem Mst.old {S S' : St} {m0 : Nat} (h : Mst S m0) (o : Old S S') : Mst S' m0 := by
  have b := o m0 (by rw [h.1]; decide)
  exact ⟨b.1.trans h.1, fun G => (b.2.2.2.2.1 G).trans (h.2 G)⟩
theorem Mst.lnk {S : St} {m0 f m : Nat} {v : Option Nat} (h : Mst S m0) : Mst (sP S f m v) m0 := h
theorem mcons {F q : Nat} {L : List (Nat × Nat)} {E : List Nat} (h : L.map (fun p : Nat × Nat => p.1) = E) : ((F, q) :: L).map (fun p : Nat × Nat => p.1) = F :: E := by rw [List.map_cons, h]
theorem Ars.fs {own : Nat → Nat} {L : List (Nat × Nat)} {E : List Nat} (hM : L.map (fun p => p.1) = E) {f m : Nat} (hE : ∀ F ∈ E, fo F ≠ f) : ∀ p ∈ L, ¬ (fo p.1 = f ∧ own p.1 = m) := fun p hp z => hE p.1 (by rw [← hM]; exact List.mem_map_of_mem hp) z.1
section MIN2
variable {l : Launch} {w : Wd} {S : St}
theorem c_fill {a : Nat} (h1 : kd S a = 21) (h2 : ln S a = 24) (h3 : rI S a = fun _ => 0) : ConV l yJ7_fill_53178 (wsOf yJ7_fill_53178 cJ7_fill_53178 4 none) rJ7_fill_53178 w S [.ref a, .int 10] (fun S' => S' = sRI S a tens) := by
  refine con_V (by decide +kernel) rfl (Nat.le_of_ble_eq_true rfl) (fun p e s m args below meth c B => ?_)
  refine bJ7_fill_53178_0 B h1 ?_
  rw [h2]
  refine l_fill B h1 h2 h3 ?_ 24 0 S (by omega) (st_ext (fun _ => rfl) (fun _ _ => rfl) (fun _ _ => rfl) (fun _ => rfl) (fun b => ?_) (fun _ => rfl))
  · exact bJ7_fill_53178_20 B rfl
  rw [rI_sRI]
  split
  · rename_i z; rw [z, h3]; funext j; rw [if_neg (by omega)]
  · rfl
theorem c_mdI {m0 : Nat} (h : kd S m0 = 15) (hg : ∀ G, gI S G m0 = 0) : ConV l yX13_init (wsOf yX13_init cX13_init 1 none) rX13_init w S [.ref m0] (fun S' => ∃ s0 ah A, MR S' m0 s0 ah A al0) := by
  have hm0 : kd S m0 ≠ 0 := by rw [h]; decide
  refine con_V (by decide +kernel) rfl (Nat.le_of_ble_eq_true rfl) (fun p e s m args below meth c B => ?_)
  refine bX13_init_0 B (Nat.le_of_ble_eq_true rfl) (Nat.le_of_ble_eq_true rfl) ?_
  intro q0 hq0
  have nm0 : m0 ≠ q0 := fun z => hm0 (z ▸ hq0)
  have oA : Ars S (mOwn m0 0 0) [] := Ars.nil
  have A1' := oA.add (F := 897) (f := 897) (m := m0) (n := 24) hq0 hm0 (fun p hp => by cases hp) rfl rfl rfl
  obtain ⟨Z1, hZ1⟩ : ∃ Z, Z = sI (sI (sP (nw S q0 21 24) 897 m0 (some q0)) 898 m0 30) 899 m0 30 := ⟨_, rfl⟩
  have A1 : Ars Z1 (mOwn m0 0 0) [(897, q0)] := by rw [hZ1]; exact A1'
  have k1 : Mst Z1 m0 := by
    rw [hZ1]
    refine ⟨by rw [kd_sI, kd_sI, kd_sP, kd_nw, if_neg nm0]; exact h, fun G => ?_⟩
    rw [gI_sI]
    by_cases z9 : G = 899
    · rw [if_pos ⟨z9, rfl⟩, if_pos (Or.inr z9)]
    · rw [if_neg (fun y => z9 y.1), gI_sI]
      by_cases z8 : G = 898
      · rw [if_pos ⟨z8, rfl⟩, if_pos (Or.inl z8)]
      · rw [if_neg (fun y => z8 y.1), gI_sP, gI_nw, if_neg nm0, if_neg (fun y => y.elim z8 z9)]; exact hg G
  have M1 : [(897, q0)].map (fun p : Nat × Nat => p.1) = [897] := rfl
  refine bX13_init_9 B (by rw [kd_nw, if_neg nm0]; exact h) (by rw [kd_nw, if_neg nm0]; exact h) (Nat.le_of_ble_eq_true rfl) (Nat.le_of_ble_eq_true rfl) ?_
  rw [← hZ1]
  intro q1 hq1
  have nm1 : m0 ≠ q1 := fun z => by have y := k1.1; rw [z, hq1] at y; exact absurd y (by decide)
  obtain ⟨Z2, hZ2⟩ : ∃ Z, Z = sP (nw Z1 q1 21 16) 901 m0 (some q1) := ⟨_, rfl⟩
  have k2 : Mst Z2 m0 := by rw [hZ2]; exact (k1.old (Old.rf.new hq1 21 16)).lnk
  have A2 := A1.add (F := 901) (f := 901) (m := m0) (n := 16) hq1 (by rw [k1.1]; decide) (Ars.fs M1 (by decide)) rfl rfl rfl
  rw [← hZ2] at A2
  have M2 := mcons (F := 901) (q := q1) M1
  refine bX13_init_29 B (by rw [kd_nw, if_neg nm1]; exact k1.1) (Nat.le_of_ble_eq_true rfl) (Nat.le_of_ble_eq_true rfl) ?_
  rw [← hZ2]
  intro q2 hq2
  have nm2 : m0 ≠ q2 := fun z => by have y := k2.1; rw [z, hq2] at y; exact absurd y (by decide)
  obtain ⟨Z3, hZ3⟩ : ∃ Z, Z = sP (nw Z2 q2 21 16) 902 m0 (some q2) := ⟨_, rfl⟩
  have k3 : Mst Z3 m0 := by rw [hZ3]; exact (k2.old (Old.rf.new hq2 21 16)).lnk
  have A3 := A2.add (F := 902) (f := 902) (m := m0) (n := 16) hq2 (by rw [k2.1]; decide) (Ars.fs M2 (by decide)) rfl rfl rfl
  rw [← hZ3] at A3
  have M3 := mcons (F := 902) (q := q2) M2
  refine bX13_init_37 B (by rw [kd_nw, if_neg nm2]; exact k2.1) (Nat.le_of_ble_eq_true rfl) (Nat.le_of_ble_eq_true rfl) ?_
  rw [← hZ3]
  intro q3 hq3
  have nm3 : m0 ≠ q3 := fun z => by have y := k3.1; rw [z, hq3] at y; exact absurd y (by decide)
  obtain ⟨Z4, hZ4⟩ : ∃ Z, Z = sP (nw Z3 q3 21 16) 903 m0 (some q3) := ⟨_, rfl⟩
  have k4 : Mst Z4 m0 := by rw [hZ4]; exact (k3.old (Old.rf.new hq3 21 16)).lnk
  have A4 := A3.add (F := 903) (f := 903) (m := m0) (n := 16) hq3 (by rw [k3.1]; decide) (Ars.fs M3 (by decide)) rfl rfl rfl
  rw [← hZ4] at A4
  have M4 := mcons (F := 903) (q := q3) M3
  refine bX13_init_45 B (by rw [kd_nw, if_neg nm3]; exact k3.1) (Nat.le_of_ble_eq_true rfl) (Nat.le_of_ble_eq_true rfl) ?_
  rw [← hZ4]
  intro q4 hq4
  have nm4 : m0 ≠ q4 := fun z => by have y := k4.1; rw [z, hq4] at y; exact absurd y (by decide)
  obtain ⟨Z5, hZ5⟩ : ∃ Z, Z = sP (nw Z4 q4 21 16) 904 m0 (some q4) := ⟨_, rfl⟩
  have k5 : Mst Z5 m0 := by rw [hZ5]; exact (k4.old (Old.rf.new hq4 21 16)).lnk
  have A5 := A4.add (F := 904) (f := 904) (m := m0) (n := 16) hq4 (by rw [k4.1]; decide) (Ars.fs M4 (by decide)) rfl rfl rfl
  rw [← hZ5] at A5
  have M5 := mcons (F := 904) (q := q4) M4
  refine bX13_init_53 B (by rw [kd_nw, if_neg nm4]; exact k4.1) (Nat.le_of_ble_eq_true rfl) (Nat.le_of_ble_eq_true rfl) ?_
  rw [← hZ5]
  intro q5 hq5
  have nm5 : m0 ≠ q5 := fun z => by have y := k5.1; rw [z, hq5] at y; exact absurd y (by decide)
  obtain ⟨Z6, hZ6⟩ : ∃ Z, Z = sP (nw Z5 q5 21 48) 905 m0 (some q5) := ⟨_, rfl⟩
  have k6 : Mst Z6 m0 := by rw [hZ6]; exact (k5.old (Old.rf.new hq5 21 48)).lnk
  have A6 := A5.add (F := 905) (f := 905) (m := m0) (n := 48) hq5 (by rw [k5.1]; decide) (Ars.fs M5 (by decide)) rfl rfl rfl
  rw [← hZ6] at A6
  have M6 := mcons (F := 905) (q := q5) M5
  refine bX13_init_61 B (by rw [kd_nw, if_neg nm5]; exact k5.1) (Nat.le_of_ble_eq_true rfl) (Nat.le_of_ble_eq_true rfl) ?_
  rw [← hZ6]
  intro q6 hq6
  have nm6 : m0 ≠ q6 := fun z => by have y := k6.1; rw [z, hq6] at y; exact absurd y (by decide)
  obtain ⟨Z7, hZ7⟩ : ∃ Z, Z = sP (nw Z6 q6 21 4) 907 m0 (some q6) := ⟨_, rfl⟩
  have k7 : Mst Z7 m0 := by rw [hZ7]; exact (k6.old (Old.rf.new hq6 21 4)).lnk
  have A7 := A6.add (F := 907) (f := 907) (m := m0) (n := 4) hq6 (by rw [k6.1]; decide) (Ars.fs M6 (by decide)) rfl rfl rfl
  rw [← hZ7] at A7
  have M7 := mcons (F := 907) (q := q6) M6
  refine bX13_init_68 B (by rw [kd_nw, if_neg nm6]; exact k6.1) (Nat.le_of_ble_eq_true rfl) (Nat.le_of_ble_eq_true rfl) ?_
  rw [← hZ7]
  intro q7 hq7
  have nm7 : m0 ≠ q7 := fun z => by have y := k7.1; rw [z, hq7] at y; exact absurd y (by decide)
  obtain ⟨Z8, hZ8⟩ : ∃ Z, Z = sP (nw Z7 q7 21 4) 908 m0 (some q7) := ⟨_, rfl⟩
  have k8 : Mst Z8 m0 := by rw [hZ8]; exact (k7.old (Old.rf.new hq7 21 4)).lnk
  have A8 := A7.add (F := 908) (f := 908) (m := m0) (n := 4) hq7 (by rw [k7.1]; decide) (Ars.fs M7 (by decide)) rfl rfl rfl
  rw [← hZ8] at A8
  have M8 := mcons (F := 908) (q := q7) M7
  refine bX13_init_75 B (by rw [kd_nw, if_neg nm7]; exact k7.1) (Nat.le_of_ble_eq_true rfl) (Nat.le_of_ble_eq_true rfl) ?_
  rw [← hZ8]
  intro q8 hq8
  have nm8 : m0 ≠ q8 := fun z => by have y := k8.1; rw [z, hq8] at y; exact absurd y (by decide)
  obtain ⟨Z9, hZ9⟩ : ∃ Z, Z = sP (nw Z8 q8 21 4) 910 m0 (some q8) := ⟨_, rfl⟩
  have k9 : Mst Z9 m0 := by rw [hZ9]; exact (k8.old (Old.rf.new hq8 21 4)).lnk
  have A9 := A8.add (F := 910) (f := 910) (m := m0) (n := 4) hq8 (by rw [k8.1]; decide) (Ars.fs M8 (by decide)) rfl rfl rfl
  rw [← hZ9] at A9
  have M9 := mcons (F := 910) (q := q8) M8
  refine bX13_init_82 B (by rw [kd_nw, if_neg nm8]; exact k8.1) (Nat.le_of_ble_eq_true rfl) (Nat.le_of_ble_eq_true rfl) ?_
  rw [← hZ9]
  intro q9 hq9
  have nm9 : m0 ≠ q9 := fun z => by have y := k9.1; rw [z, hq9] at y; exact absurd y (by decide)
  obtain ⟨Z10, hZ10⟩ : ∃ Z, Z = sP (nw Z9 q9 21 4) 911 m0 (some q9) := ⟨_, rfl⟩
  have k10 : Mst Z10 m0 := by rw [hZ10]; exact (k9.old (Old.rf.new hq9 21 4)).lnk
  have A10 := A9.add (F := 911) (f := 911) (m := m0) (n := 4) hq9 (by rw [k9.1]; decide) (Ars.fs M9 (by decide)) rfl rfl rfl
  rw [← hZ10] at A10
  have M10 := mcons (F := 911) (q := q9) M9
  refine bX13_init_89 B (by rw [kd_nw, if_neg nm9]; exact k9.1) (Nat.le_of_ble_eq_true rfl) (Nat.le_of_ble_eq_true rfl) ?_
  rw [← hZ10]
  intro q10 hq10
  have nm10 : m0 ≠ q10 := fun z => by have y := k10.1; rw [z, hq10] at y; exact absurd y (by decide)
  obtain ⟨Z11, hZ11⟩ : ∃ Z, Z = sP (nw Z10 q10 21 4) 912 m0 (some q10) := ⟨_, rfl⟩
  have k11 : Mst Z11 m0 := by rw [hZ11]; exact (k10.old (Old.rf.new hq10 21 4)).lnk
  have A11 := A10.add (F := 912) (f := 912) (m := m0) (n := 4) hq10 (by rw [k10.1]; decide) (Ars.fs M10 (by decide)) rfl rfl rfl
  rw [← hZ11] at A11
  have M11 := mcons (F := 912) (q := q10) M10
  refine bX13_init_96 B (by rw [kd_nw, if_neg nm10]; exact k10.1) (Nat.le_of_ble_eq_true rfl) (Nat.le_of_ble_eq_true rfl) ?_
  rw [← hZ11]
  intro q11 hq11
  have nm11 : m0 ≠ q11 := fun z => by have y := k11.1; rw [z, hq11] at y; exact absurd y (by decide)
  obtain ⟨Z12, hZ12⟩ : ∃ Z, Z = sP (nw Z11 q11 21 30) 914 m0 (some q11) := ⟨_, rfl⟩
  have k12 : Mst Z12 m0 := by rw [hZ12]; exact (k11.old (Old.rf.new hq11 21 30)).lnk
  have A12 := A11.add (F := 914) (f := 914) (m := m0) (n := 30) hq11 (by rw [k11.1]; decide) (Ars.fs M11 (by decide)) rfl rfl rfl
  rw [← hZ12] at A12
  have M12 := mcons (F := 914) (q := q11) M11
  refine bX13_init_104 B (by rw [kd_nw, if_neg nm11]; exact k11.1) (Nat.le_of_ble_eq_true rfl) (Nat.le_of_ble_eq_true rfl) ?_
  rw [← hZ12]
  intro q12 hq12
  have nm12 : m0 ≠ q12 := fun z => by have y := k12.1; rw [z, hq12] at y; exact absurd y (by decide)
  obtain ⟨Z13, hZ13⟩ : ∃ Z, Z = sP (nw Z12 q12 21 30) 915 m0 (some q12) := ⟨_, rfl⟩
  have k13 : Mst Z13 m0 := by rw [hZ13]; exact (k12.old (Old.rf.new hq12 21 30)).lnk
  have A13 := A12.add (F := 915) (f := 915) (m := m0) (n := 30) hq12 (by rw [k12.1]; decide) (Ars.fs M12 (by decide)) rfl rfl rfl
  rw [← hZ13] at A13
  have M13 := mcons (F := 915) (q := q12) M12
  refine bX13_init_112 B (by rw [kd_nw, if_neg nm12]; exact k12.1) (Nat.le_of_ble_eq_true rfl) (Nat.le_of_ble_eq_true rfl) ?_
  rw [← hZ13]
  intro q13 hq13
  have nm13 : m0 ≠ q13 := fun z => by have y := k13.1; rw [z, hq13] at y; exact absurd y (by decide)
  obtain ⟨Z14, hZ14⟩ : ∃ Z, Z = sP (nw Z13 q13 21 30) 916 m0 (some q13) := ⟨_, rfl⟩
  have k14 : Mst Z14 m0 := by rw [hZ14]; exact (k13.old (Old.rf.new hq13 21 30)).lnk
  have A14 := A13.add (F := 916) (f := 916) (m := m0) (n := 30) hq13 (by rw [k13.1]; decide) (Ars.fs M13 (by decide)) rfl rfl rfl
  rw [← hZ14] at A14
  have M14 := mcons (F := 916) (q := q13) M13
  refine bX13_init_120 B (by rw [kd_nw, if_neg nm13]; exact k13.1) (Nat.le_of_ble_eq_true rfl) (Nat.le_of_ble_eq_true rfl) ?_
  rw [← hZ14]
  intro q14 hq14
  have nm14 : m0 ≠ q14 := fun z => by have y := k14.1; rw [z, hq14] at y; exact absurd y (by decide)
  obtain ⟨Z15, hZ15⟩ : ∃ Z, Z = sP (nw Z14 q14 21 30) 917 m0 (some q14) := ⟨_, rfl⟩
  have k15 : Mst Z15 m0 := by rw [hZ15]; exact (k14.old (Old.rf.new hq14 21 30)).lnk
  have A15 := A14.add (F := 917) (f := 917) (m := m0) (n := 30) hq14 (by rw [k14.1]; decide) (Ars.fs M14 (by decide)) rfl rfl rfl
  rw [← hZ15] at A15
  have M15 := mcons (F := 917) (q := q14) M14
  refine bX13_init_128 B (by rw [kd_nw, if_neg nm14]; exact k14.1) (Nat.le_of_ble_eq_true rfl) (Nat.le_of_ble_eq_true rfl) ?_
  rw [← hZ15]
  intro q15 hq15
  have nm15 : m0 ≠ q15 := fun z => by have y := k15.1; rw [z, hq15] at y; exact absurd y (by decide)
  obtain ⟨Z16, hZ16⟩ : ∃ Z, Z = sP (nw Z15 q15 21 30) 918 m0 (some q15) := ⟨_, rfl⟩
  have k16 : Mst Z16 m0 := by rw [hZ16]; exact (k15.old (Old.rf.new hq15 21 30)).lnk
  have A16 := A15.add (F := 918) (f := 918) (m := m0) (n := 30) hq15 (by rw [k15.1]; decide) (Ars.fs M15 (by decide)) rfl rfl rfl
  rw [← hZ16] at A16
  have M16 := mcons (F := 918) (q := q15) M15
  -- the state
  refine bX13_init_136 B (by rw [kd_nw, if_neg nm15]; exact k15.1) (Nat.le_of_ble_eq_true rfl) (Nat.le_of_ble_eq_true rfl) ?_
  rw [← hZ16]
  obtain ⟨L16, hL16⟩ : ∃ L : List (Nat × Nat), L = [(918, q15), (917, q14), (916, q13), (915, q12), (914, q11), (912, q10), (911, q9), (910, q8), (908, q7), (907, q6), (905, q5), (904, q4), (903, q3), (902, q2), (901, q1), (897, q0)]:= ⟨_, rfl⟩
  have M16' : L16.map (fun p => p.1) = [918, 917, 916, 915, 914, 912, 911, 910, 908, 907, 905, 904, 903, 902, 901, 897] := by rw [hL16]; rfl
  rw [← hL16] at A16
  intro s0 hs0
  have nms : m0 ≠ s0 := fun z => by have y := k16.1; rw [z, hs0] at y; exact absurd y (by decide)
  refine bX13_init_143 B (c_stI (by rw [kd_nw, if_pos rfl]) (fun G => by rw [gI_nw, if_pos rfl])) (Nat.le_of_ble_eq_true rfl) (Nat.le_of_ble_eq_true rfl) (fun P hp => ?_)
  obtain ⟨g1, g2, g3, L2, hL2, AL2, z2⟩ := hp
  have oP : Old Z16 P := Old.ctor hs0 g1
  have sP0 : Stt P s0 m0 := ⟨g1.1.trans (by rw [kd_nw, if_pos rfl]), g2, g3⟩
  have A17 : Ars Z16 (mOwn m0 s0 0) L16 := A16.own (fun p hp => by
    have : p.1 ∈ [918, 917, 916, 915, 914, 912, 911, 910, 908, 907, 905, 904, 903, 902, 901, 897] := by rw [← M16']; exact List.mem_map_of_mem hp
    have e1 := (show ∀ F ∈ [918, 917, 916, 915, 914, 912, 911, 910, 908, 907, 905, 904, 903, 902, 901, 897], ¬ F < 896 ∧ F < 1000 from by decide) _ this
    unfold mOwn; rw [if_neg e1.1, if_pos e1.2, if_neg e1.1])
  have AL2' : Ars P (mOwn m0 s0 0) L2 := AL2.own (fun p hp => by
    have : p.1 ∈ [841, 840, 839, 838, 837, 836, 835, 834] := by rw [← hL2]; exact List.mem_map_of_mem hp
    have e1 := (show ∀ F ∈ [841, 840, 839, 838, 837, 836, 835, 834], F < 896 from by decide) _ this
    unfold mOwn; rw [if_pos e1])
  have A18 := A17.app oP AL2' (fun p hp => (nw0 (z2 p hp) (by decide)).2)
  have M18 : (L2 ++ L16).map (fun p => p.1) = [841, 840, 839, 838, 837, 836, 835, 834, 918, 917, 916, 915, 914, 912, 911, 910, 908, 907, 905, 904, 903, 902, 901, 897] := by rw [List.map_append, hL2, M16']; rfl
  obtain ⟨L18, hL18⟩ : ∃ L : List (Nat × Nat), L = L2 ++ L16 := ⟨_, rfl⟩
  rw [← hL18] at A18 M18
  obtain ⟨Z17, hZ17⟩ : ∃ Z, Z = sP P 919 m0 (some s0) := ⟨_, rfl⟩
  have k17 : Mst Z17 m0 := by rw [hZ17]; exact (k16.old oP).lnk
  have s17 : Stt Z17 s0 m0 := by rw [hZ17]; exact sP0.lnk (by decide)
  have A19 : Ars Z17 (mOwn m0 s0 0) L18 := by rw [hZ17]; exact A18.lnk (Ars.fs M18 (by decide))
  have l17 : gP Z17 919 m0 = some s0 := by rw [hZ17, gP_sP, if_pos ⟨rfl, rfl⟩]
  refine bX13_init_148 B (k16.old oP).1 (Nat.le_of_ble_eq_true rfl) (Nat.le_of_ble_eq_true rfl) ?_
  rw [← hZ17]
  intro ah hah
  have nma : m0 ≠ ah := fun z => by have y := k17.1; rw [z, hah] at y; exact absurd y (by decide)
  have nsa : s0 ≠ ah := fun z => by have y := s17.1; rw [z, hah] at y; exact absurd y (by decide)
  refine bX13_init_155 B (c_stI (by rw [kd_nw, if_pos rfl]) (fun G => by rw [gI_nw, if_pos rfl])) (Nat.le_of_ble_eq_true rfl) (Nat.le_of_ble_eq_true rfl) (fun P3 hp => ?_)
  obtain ⟨g1, g2, g3, L3, hL3, AL3, z3⟩ := hp
  have oP3 : Old Z17 P3 := Old.ctor hah g1
  have aP0 : Stt P3 ah m0 := ⟨g1.1.trans (by rw [kd_nw, if_pos rfl]), g2, g3⟩
  have A20 : Ars Z17 (mOwn m0 s0 ah) L18 := A19.own (fun p hp => by
    have : p.1 ∈ [841, 840, 839, 838, 837, 836, 835, 834, 918, 917, 916, 915, 914, 912, 911, 910, 908, 907, 905, 904, 903, 902, 901, 897] := by rw [← M18]; exact List.mem_map_of_mem hp
    have e1 := (show ∀ F ∈ [841, 840, 839, 838, 837, 836, 835, 834, 918, 917, 916, 915, 914, 912, 911, 910, 908, 907, 905, 904, 903, 902, 901, 897], F < 1000 from by decide) _ this
    unfold mOwn
    by_cases z : p.1 < 896
    · rw [if_pos z, if_pos z]
    · rw [if_neg z, if_pos e1, if_neg z, if_pos e1])
  have AL3' : Ars P3 (mOwn m0 s0 ah) (L3.map (fun p => (p.1 + 1000, p.2))) := AL3.shift (fun p hp => by unfold mOwn; rw [if_neg (by omega), if_neg (by omega)]) (fun p hp => by
    have : p.1 ∈ [841, 840, 839, 838, 837, 836, 835, 834] := by rw [← hL3]; exact List.mem_map_of_mem hp
    exact (show ∀ F ∈ [841, 840, 839, 838, 837, 836, 835, 834], F < 1000 ∧ mLen (F + 1000) = mLen F from by decide) _ this)
  have A21 := A20.app oP3 AL3' (fun p hp => by
    obtain ⟨q, hq, rfl⟩ := List.mem_map.mp hp
    exact (nw0 (z3 q hq) (by decide)).2)
  have M21 : (L3.map (fun p : Nat × Nat => (p.1 + 1000, p.2)) ++ L18).map (fun p : Nat × Nat => p.1) = [1841, 1840, 1839, 1838, 1837, 1836, 1835, 1834, 841, 840, 839, 838, 837, 836, 835, 834, 918, 917, 916, 915, 914, 912, 911, 910, 908, 907, 905, 904, 903, 902, 901, 897] := by
    rw [List.map_append, M18, List.map_map, show ((fun p : Nat × Nat => p.1) ∘ fun p : Nat × Nat => (p.1 + 1000, p.2)) = (fun z => z + 1000) ∘ fun p : Nat × Nat => p.1 from rfl, ← List.map_map, hL3]; rfl
  obtain ⟨L21, hL21⟩ : ∃ L : List (Nat × Nat), L = L3.map (fun p : Nat × Nat => (p.1 + 1000, p.2)) ++ L18 := ⟨_, rfl⟩
  rw [← hL21] at A21 M21
  obtain ⟨Y0, hY0⟩ : ∃ Z, Z = sP P3 920 m0 (some ah) := ⟨_, rfl⟩
  have ky0 : Mst Y0 m0 := by rw [hY0]; exact (k17.old oP3).lnk
  have sy0 : Stt Y0 s0 m0 := by rw [hY0]; exact (s17.old oP3).lnk (by decide)
  have ay0 : Stt Y0 ah m0 := by rw [hY0]; exact aP0.lnk (by decide)
  have B0 : Ars Y0 (mOwn m0 s0 ah) L21 := by rw [hY0]; exact A21.lnk (Ars.fs M21 (by decide))
  have ly0 : gP Y0 919 m0 = some s0 := by rw [hY0, gP_sP, if_neg (fun z => absurd z.1 (by decide)), (oP3 m0 (by rw [k17.1]; decide)).2.2.2.2.2]; exact l17
  have lz0 : gP Y0 920 m0 = some ah := by rw [hY0, gP_sP, if_pos ⟨rfl, rfl⟩]
  have N0 := M21
  refine bX13_init_160 B (k17.old oP3).1 (Nat.le_of_ble_eq_true rfl) (Nat.le_of_ble_eq_true rfl) ?_
  rw [← hY0]
  intro r0 hr0
  have nr0 : m0 ≠ r0 := fun z => by have y := ky0.1; rw [z, hr0] at y; exact absurd y (by decide)
  have or0 : Old Y0 (nw Y0 r0 21 13) := Old.rf.new hr0 21 13
  obtain ⟨Y1, hY1⟩ : ∃ Z, Z = sP (nw Y0 r0 21 13) 921 m0 (some r0) := ⟨_, rfl⟩
  have ky1 : Mst Y1 m0 := by rw [hY1]; exact (ky0.old or0).lnk
  have sy1 : Stt Y1 s0 m0 := by rw [hY1]; exact (sy0.old or0).lnk (by decide)
  have ay1 : Stt Y1 ah m0 := by rw [hY1]; exact (ay0.old or0).lnk (by decide)
  have B1 := B0.add (F := 921) (f := 921) (m := m0) (n := 13) hr0 (by rw [ky0.1]; decide) (Ars.fs N0 (by decide)) rfl rfl rfl
  rw [← hY1] at B1
  have N1 := mcons (F := 921) (q := r0) N0
  have ly1 : gP Y1 919 m0 = some s0 := by rw [hY1, gP_sP, if_neg (fun z => absurd z.1 (by decide)), gP_nw, if_neg nr0]; exact ly0
  have lz1 : gP Y1 920 m0 = some ah := by rw [hY1, gP_sP, if_neg (fun z => absurd z.1 (by decide)), gP_nw, if_neg nr0]; exact lz0
  refine bX13_init_168 B (by rw [kd_nw, if_neg nr0]; exact ky0.1) (Nat.le_of_ble_eq_true rfl) (Nat.le_of_ble_eq_true rfl) ?_
  rw [← hY1]
  intro r1 hr1
  have nr1 : m0 ≠ r1 := fun z => by have y := ky1.1; rw [z, hr1] at y; exact absurd y (by decide)
  have or1 : Old Y1 (nw Y1 r1 21 13) := Old.rf.new hr1 21 13
  obtain ⟨Y2, hY2⟩ : ∃ Z, Z = sP (nw Y1 r1 21 13) 923 m0 (some r1) := ⟨_, rfl⟩
  have ky2 : Mst Y2 m0 := by rw [hY2]; exact (ky1.old or1).lnk
  have sy2 : Stt Y2 s0 m0 := by rw [hY2]; exact (sy1.old or1).lnk (by decide)
  have ay2 : Stt Y2 ah m0 := by rw [hY2]; exact (ay1.old or1).lnk (by decide)
  have B2 := B1.add (F := 923) (f := 923) (m := m0) (n := 13) hr1 (by rw [ky1.1]; decide) (Ars.fs N1 (by decide)) rfl rfl rfl
  rw [← hY2] at B2
  have N2 := mcons (F := 923) (q := r1) N1
  have ly2 : gP Y2 919 m0 = some s0 := by rw [hY2, gP_sP, if_neg (fun z => absurd z.1 (by decide)), gP_nw, if_neg nr1]; exact ly1
  have lz2 : gP Y2 920 m0 = some ah := by rw [hY2, gP_sP, if_neg (fun z => absurd z.1 (by decide)), gP_nw, if_neg nr1]; exact lz1
  refine bX13_init_176 B (by rw [kd_nw, if_neg nr1]; exact ky1.1) (Nat.le_of_ble_eq_true rfl) (Nat.le_of_ble_eq_true rfl) ?_
  rw [← hY2]
  intro r2 hr2
  have nr2 : m0 ≠ r2 := fun z => by have y := ky2.1; rw [z, hr2] at y; exact absurd y (by decide)
  have or2 : Old Y2 (nw Y2 r2 21 13) := Old.rf.new hr2 21 13
  obtain ⟨Y3, hY3⟩ : ∃ Z, Z = sP (nw Y2 r2 21 13) 924 m0 (some r2) := ⟨_, rfl⟩
  have ky3 : Mst Y3 m0 := by rw [hY3]; exact (ky2.old or2).lnk
  have sy3 : Stt Y3 s0 m0 := by rw [hY3]; exact (sy2.old or2).lnk (by decide)
  have ay3 : Stt Y3 ah m0 := by rw [hY3]; exact (ay2.old or2).lnk (by decide)
  have B3 := B2.add (F := 924) (f := 924) (m := m0) (n := 13) hr2 (by rw [ky2.1]; decide) (Ars.fs N2 (by decide)) rfl rfl rfl
  rw [← hY3] at B3
  have N3 := mcons (F := 924) (q := r2) N2
  have ly3 : gP Y3 919 m0 = some s0 := by rw [hY3, gP_sP, if_neg (fun z => absurd z.1 (by decide)), gP_nw, if_neg nr2]; exact ly2
  have lz3 : gP Y3 920 m0 = some ah := by rw [hY3, gP_sP, if_neg (fun z => absurd z.1 (by decide)), gP_nw, if_neg nr2]; exact lz2
  refine bX13_init_184 B (by rw [kd_nw, if_neg nr2]; exact ky2.1) (Nat.le_of_ble_eq_true rfl) (Nat.le_of_ble_eq_true rfl) ?_
  rw [← hY3]
  intro r3 hr3
  have nr3 : m0 ≠ r3 := fun z => by have y := ky3.1; rw [z, hr3] at y; exact absurd y (by decide)
  have or3 : Old Y3 (nw Y3 r3 21 13) := Old.rf.new hr3 21 13
  obtain ⟨Y4, hY4⟩ : ∃ Z, Z = sP (nw Y3 r3 21 13) 925 m0 (some r3) := ⟨_, rfl⟩
  have ky4 : Mst Y4 m0 := by rw [hY4]; exact (ky3.old or3).lnk
  have sy4 : Stt Y4 s0 m0 := by rw [hY4]; exact (sy3.old or3).lnk (by decide)
  have ay4 : Stt Y4 ah m0 := by rw [hY4]; exact (ay3.old or3).lnk (by decide)
  have B4 := B3.add (F := 925) (f := 925) (m := m0) (n := 13) hr3 (by rw [ky3.1]; decide) (Ars.fs N3 (by decide)) rfl rfl rfl
  rw [← hY4] at B4
  have N4 := mcons (F := 925) (q := r3) N3
  have ly4 : gP Y4 919 m0 = some s0 := by rw [hY4, gP_sP, if_neg (fun z => absurd z.1 (by decide)), gP_nw, if_neg nr3]; exact ly3
  have lz4 : gP Y4 920 m0 = some ah := by rw [hY4, gP_sP, if_neg (fun z => absurd z.1 (by decide)), gP_nw, if_neg nr3]; exact lz3
  obtain ⟨L, hL⟩ : ∃ L : List (Nat × Nat), L = (925, r3) :: (924, r2) :: (923, r1) :: (921, r0) :: L21 := ⟨_, rfl⟩
  have B5 : Ars Y4 (mOwn m0 s0 ah) L := by rw [hL]; exact B4
  have N5 : L.map (fun p => p.1) = [925, 924, 923, 921, 1841, 1840, 1839, 1838, 1837, 1836, 1835, 1834, 841, 840, 839, 838, 837, 836, 835, 834, 918, 917, 916, 915, 914, 912, 911, 910, 908, 907, 905, 904, 903, 902, 901, 897] := by rw [hL]; exact N4
  have hex : ∀ F, ∃ q, mLen F ≠ 0 → (F, q) ∈ L := fun F => by
    by_cases z : mLen F = 0
    · exact ⟨0, fun y => absurd z y⟩
    · have hF : F ∈ L.map (fun p => p.1) := by
        rw [N5]
        exact (show ∀ F, F < 2000 → mLen F ≠ 0 → F ∈ [925, 924, 923, 921, 1841, 1840, 1839, 1838, 1837, 1836, 1835, 1834, 841, 840, 839, 838, 837, 836, 835, 834, 918, 917, 916, 915, 914, 912, 911, 910, 908, 907, 905, 904, 903, 902, 901, 897] from by decide +kernel) F (mLen_lt z) z
      obtain ⟨p, hp, e1⟩ := List.mem_map.mp hF
      exact ⟨p.2, fun _ => by rw [← e1]; exact hp⟩
  obtain ⟨A, hA⟩ := Classical.skolem.mp hex
  have hR : MR Y4 m0 s0 ah A al00 := by
    refine ⟨⟨ky4.1, sy4.1, ay4.1, nsa, ly4, lz4, sy4.2.2, ay4.2.2⟩, fun F hF => ?_, fun F F' hF hF' e1 => B5.2 _ (hA F hF) _ (hA F' hF') e1, fun F hF => ?_⟩
    · obtain ⟨-, a2, a3, a4, a5⟩ := B5.1 _ (hA F hF)
      refine ⟨a2, a3, a4, a5.trans ?_⟩
      funext i
      have : F ≠ 898 ∧ F ≠ 899 := ⟨fun z => by rw [z] at hF; exact absurd rfl hF, fun z => by rw [z] at hF; exact absurd rfl hF⟩
      exact (if_neg (fun z => z.elim this.1 this.2)).symm
    · have hlt := mSc_lt hF
      by_cases z1 : F < 896
      · have e1 : mOwn m0 s0 ah F = s0 := by unfold mOwn; rw [if_pos z1]
        rw [e1, sy4.2.1]
        exact (if_neg (fun z => by omega)).symm
      · by_cases z2 : F < 1000
        · have e1 : mOwn m0 s0 ah F = m0 := by unfold mOwn; rw [if_neg z1, if_pos z2]
          have e2 : fo F = F := by unfold fo; rw [if_pos z2]
          rw [e1, e2, ky4.2]; rfl
        · have e1 : mOwn m0 s0 ah F = ah := by unfold mOwn; rw [if_neg z1, if_neg z2]
          rw [e1, ay4.2.1]
          exact (if_neg (fun z => by omega)).symm
  obtain ⟨c1, c2, c3, c4⟩ := hR.ar 897 (by decide)
  have c4' : rI Y4 (A 897) = fun _ => 0 := c4
  have h3 : gP (nw Y3 r3 21 13) 897 m0 = some (A 897) := by
    have y : gP Y4 897 m0 = some (A 897) := c1
    rw [hY4, gP_sP, if_neg (fun z => absurd z.1 (by decide))] at y
    exact y
  refine bX13_init_192 B (by rw [kd_nw, if_neg nr3]; exact ky3.1) (by rw [kd_nw, if_neg nr3]; exact ky3.1) h3 (post := fun S' => S' = sRI Y4 (A 897) tens) (by rw [← hY4]; exact c_fill c2 c3 c4') (Nat.le_of_ble_eq_true rfl) (Nat.le_of_ble_eq_true rfl) (fun S' hq => ?_)
  subst hq
  refine bX13_init_204 B ⟨s0, ah, A, ?_⟩
  have r := hR.setA (F := 897) (by decide) tens
  have e0 : aset al00 897 tens = al0 := by
    funext F i
    unfold aset al00 al0
    split <;> rfl
  rw [e0] at r
  exact r
end MIN2
