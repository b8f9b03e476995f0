/-! THE REFERENCE'S CONSTRUCTORS -/
/-- rows just made: (number, address) -/
def Ars (S : St) (own : Nat → Nat) (L : List (Nat × Nat)) : Prop := (∀ p ∈ L, kd S (own p.1) ≠ 0 ∧ gP S (fo p.1) (own p.1) = some p.2 ∧ kd S p.2 = 21 ∧ ln S p.2 = mLen p.1 ∧ rI S p.2 = fun _ => 0) ∧ ∀ p ∈ L, ∀ p' ∈ L, p.2 = p'.2 → p.1 = p'.1
theorem Ars.nil {S : St} {own : Nat → Nat} : Ars S own [] := ⟨fun p h => (by cases h), fun p h => (by cases h)⟩
theorem Ars.old {S S' : St} {own : Nat → Nat} {L : List (Nat × Nat)} (h : Ars S own L) (o : Old S S') : Ars S' own L := by
  refine ⟨fun p hp => ?_, h.2⟩
  obtain ⟨a1, a2, a3, a4, a5⟩ := h.1 p hp
  have b1 := o _ a1
  have b2 := o p.2 (by rw [a3]; decide)
  exact ⟨by rw [b1.1]; exact a1, (b1.2.2.2.2.2 _).trans a2, b2.1.trans a3, b2.2.1.trans a4, b2.2.2.1.trans a5⟩
theorem Ars.lnk {S : St} {own : Nat → Nat} {L : List (Nat × Nat)} (h : Ars S own L) {f m : Nat} {x : Option Nat} (hn : ∀ p ∈ L, ¬ (fo p.1 = f ∧ own p.1 = m)) : Ars (sP S f m x) own L := by
  refine ⟨fun p hp => ?_, h.2⟩
  obtain ⟨a1, a2, a3, a4, a5⟩ := h.1 p hp
  exact ⟨a1, by rw [gP_sP, if_neg (hn p hp)]; exact a2, a3, a4, a5⟩
theorem Ars.app {S S' : St} {own : Nat → Nat} {L M : List (Nat × Nat)} (h : Ars S own L) (o : Old S S') (g : Ars S' own M) (hz : ∀ p ∈ M, kd S p.2 = 0) : Ars S' own (M ++ L) := by
  have h' := h.old o
  refine ⟨fun p hp => ?_, fun p hp p' hp' e1 => ?_⟩
  · rcases List.mem_append.mp hp with z | z
    · exact g.1 p z
    · exact h'.1 p z
  · rcases List.mem_append.mp hp with z | z <;> rcases List.mem_append.mp hp' with z' | z'
    · exact g.2 p z p' z' e1
    · have := hz p z
      rw [e1, (h.1 p' z').2.2.1] at this
      exact absurd this (by decide)
    · have := hz p' z'
      rw [← e1, (h.1 p z).2.2.1] at this
      exact absurd this (by decide)
    · exact h.2 p z p' z' e1
theorem Ars.add {S : St} {own : Nat → Nat} {L : List (Nat × Nat)} (h : Ars S own L) {F f m q n : Nat} (hq : kd S q = 0) (hm : kd S m ≠ 0) (hn : ∀ p ∈ L, ¬ (fo p.1 = f ∧ own p.1 = m)) (e1 : own F = m) (e2 : fo F = f) (e3 : mLen F = n) : Ars (sP (nw S q 21 n) f m (some q)) own ((F, q) :: L) := by
  have o : Old S (nw S q 21 n) := Old.rf.new hq 21 n
  have h' := (h.old o).lnk (x := some q) hn
  have nm : m ≠ q := fun z => hm (z ▸ hq)
  refine ⟨fun p hp => ?_, fun p hp p' hp' e4 => ?_⟩
  · rcases List.mem_cons.mp hp with z | z
    · subst z
      refine ⟨?_, ?_, ?_, ?_, ?_⟩
      · show kd (sP (nw S q 21 n) f m (some q)) (own F) ≠ 0
        rw [e1, kd_sP, kd_nw, if_neg nm]; exact hm
      · show gP (sP (nw S q 21 n) f m (some q)) (fo F) (own F) = some q
        rw [e1, e2, gP_sP, if_pos ⟨rfl, rfl⟩]
      · rw [kd_sP, kd_nw, if_pos rfl]
      · rw [ln_sP, ln_nw, if_pos rfl]; exact e3.symm
      · rw [rI_sP, rI_nw, if_pos rfl]
    · exact h'.1 p z
  · have zz : ∀ p ∈ L, p.2 ≠ q := fun p hp y => by
      have := (h.1 p hp).2.2.1
      rw [y, hq] at this
      exact absurd this (by decide)
    rcases List.mem_cons.mp hp with z | z <;> rcases List.mem_cons.mp hp' with z' | z'
    · rw [z, z']
    · rw [z] at e4; exact absurd e4.symm (zz p' z')
    · rw [z'] at e4; exact absurd e4 (zz p z)
    · exact h.2 p z p' z' e4
theorem Ars.own {S : St} {own own' : Nat → Nat} {L : List (Nat × Nat)} (h : Ars S own L) (e : ∀ p ∈ L, own' p.1 = own p.1) : Ars S own' L := by
  refine ⟨fun p hp => ?_, h.2⟩
  rw [e p hp]; exact h.1 p hp
theorem Ars.shift {S : St} {a : Nat} {own : Nat → Nat} {L : List (Nat × Nat)} (h : Ars S (fun _ => a) L) (e : ∀ p ∈ L, own (p.1 + 1000) = a) (e2 : ∀ p ∈ L, p.1 < 1000 ∧ mLen (p.1 + 1000) = mLen p.1) : Ars S own (L.map (fun p => (p.1 + 1000, p.2))) := by
  refine ⟨fun p hp => ?_, fun p hp p' hp' e3 => ?_⟩
  · obtain ⟨q, hq, rfl⟩ := List.mem_map.mp hp
    obtain ⟨a1, a2, a3, a4, a5⟩ := h.1 q hq
    have f1 : fo (q.1 + 1000) = fo q.1 := by unfold fo; rw [if_neg (by omega), if_pos (e2 q hq).1, Nat.add_sub_cancel]
    exact ⟨by rw [e q hq]; exact a1, by rw [e q hq, f1]; exact a2, a3, a4.trans (e2 q hq).2.symm, a5⟩
  · obtain ⟨q, hq, rfl⟩ := List.mem_map.mp hp
    obtain ⟨q', hq', rfl⟩ := List.mem_map.mp hp'
    have := h.2 q hq q' hq' e3
    show q.1 + 1000 = q'.1 + 1000
    rw [this]
theorem OldE.step {S S1 : St} {a q : Nat} (h : OldE a S S1) (hq : kd S1 q = 0) (ha : kd S a ≠ 0) {n f : Nat} {x : Option Nat} : OldE a S (sP (nw S1 q 21 n) f a x) := by
  by_cases z : kd S q = 0
  · exact (h.new z ha 21 n).sp (Or.inl rfl) f x
  · exfalso
    by_cases y : q = a
    · rw [y, h.1] at hq; exact ha hq
    · exact z ((h.2 q z y).1.symm.trans hq)
theorem OldE.k0 {S S1 : St} {a q : Nat} (h : OldE a S S1) (hq : kd S1 q = 0) (ha : kd S a ≠ 0) : kd S q = 0 := by
  by_cases z : kd S q = 0
  · exact z
  · exfalso
    by_cases y : q = a
    · rw [y, h.1] at hq; exact ha hq
    · exact z ((h.2 q z y).1.symm.trans hq)
section MINI
variable {l : Launch} {w : Wd} {S : St}
theorem c_stI {a m0 : Nat} (h : kd S a = 14) (hg : ∀ G, gI S G a = 0) : ConV l yX12_init (wsOf yX12_init cX12_init 2 none) rX12_init w S [.ref a, .ref m0] (fun S' => OldE a S S' ∧ (∀ G, gI S' G a = 0) ∧ gP S' 846 a = some m0 ∧ ∃ L : List (Nat × Nat), L.map (fun p => p.1) = [841, 840, 839, 838, 837, 836, 835, 834] ∧ Ars S' (fun _ => a) L ∧ ∀ p ∈ L, kd S p.2 = 0) := by
  have ha : kd S a ≠ 0 := by rw [h]; decide
  refine con_V (by decide +kernel) rfl (Nat.le_of_ble_eq_true rfl) (fun p e s m args below meth c B => ?_)
  obtain ⟨Z0, hZ0⟩ : ∃ Z, Z = sP S 846 a (some m0) := ⟨_, rfl⟩
  have b0 : OldE a S Z0 := by rw [hZ0]; exact OldE.rf.sp (Or.inl rfl) _ _
  have k0 : kd Z0 a = 14 := b0.1.trans h
  have j0 : gP Z0 846 a = some m0 := by rw [hZ0, gP_sP, if_pos ⟨rfl, rfl⟩]
  have i0 : ∀ G, gI Z0 G a = 0 := fun G => by rw [hZ0, gI_sP]; exact hg G
  have A0 : Ars Z0 (fun _ => a) [] := Ars.nil
  refine bX12_init_0 B h (Nat.le_of_ble_eq_true rfl) (Nat.le_of_ble_eq_true rfl) ?_
  rw [← hZ0]
  intro q0 hq0
  have na0 : a ≠ q0 := fun z => by rw [z, hq0] at k0; exact absurd k0 (by decide)
  obtain ⟨Z1, hZ1⟩ : ∃ Z, Z = sP (nw Z0 q0 21 30) 834 a (some q0) := ⟨_, rfl⟩
  have b1 : OldE a S Z1 := by rw [hZ1]; exact b0.step hq0 ha
  have k1 : kd Z1 a = 14 := b1.1.trans h
  have j1 : gP Z1 846 a = some m0 := by rw [hZ1, gP_sP, if_neg (fun z => absurd z.1 (by decide)), gP_nw, if_neg na0]; exact j0
  have i1 : ∀ G, gI Z1 G a = 0 := fun G => by rw [hZ1, gI_sP, gI_nw, if_neg na0]; exact i0 G
  have A1 := A0.add (F := 834) (f := 834) (m := a) (n := 30) hq0 (by rw [k0]; decide) (fun p hp => by cases hp) rfl rfl rfl
  rw [← hZ1] at A1
  refine bX12_init_14 B (by rw [kd_nw, if_neg na0]; exact k0) (Nat.le_of_ble_eq_true rfl) (Nat.le_of_ble_eq_true rfl) ?_
  rw [← hZ1]
  intro q1 hq1
  have na1 : a ≠ q1 := fun z => by rw [z, hq1] at k1; exact absurd k1 (by decide)
  obtain ⟨Z2, hZ2⟩ : ∃ Z, Z = sP (nw Z1 q1 21 30) 835 a (some q1) := ⟨_, rfl⟩
  have b2 : OldE a S Z2 := by rw [hZ2]; exact b1.step hq1 ha
  have k2 : kd Z2 a = 14 := b2.1.trans h
  have j2 : gP Z2 846 a = some m0 := by rw [hZ2, gP_sP, if_neg (fun z => absurd z.1 (by decide)), gP_nw, if_neg na1]; exact j1
  have i2 : ∀ G, gI Z2 G a = 0 := fun G => by rw [hZ2, gI_sP, gI_nw, if_neg na1]; exact i1 G
  have A2 := A1.add (F := 835) (f := 835) (m := a) (n := 30) hq1 (by rw [k1]; decide) (by
    intro p hp
    simp only [List.mem_cons, List.not_mem_nil, or_false] at hp
    rcases hp with rfl
    · exact fun z => absurd (show fo 834 = 835 from z.1) (by decide)) rfl rfl rfl
  rw [← hZ2] at A2
  refine bX12_init_22 B (by rw [kd_nw, if_neg na1]; exact k1) (Nat.le_of_ble_eq_true rfl) (Nat.le_of_ble_eq_true rfl) ?_
  rw [← hZ2]
  intro q2 hq2
  have na2 : a ≠ q2 := fun z => by rw [z, hq2] at k2; exact absurd k2 (by decide)
  obtain ⟨Z3, hZ3⟩ : ∃ Z, Z = sP (nw Z2 q2 21 30) 836 a (some q2) := ⟨_, rfl⟩
  have b3 : OldE a S Z3 := by rw [hZ3]; exact b2.step hq2 ha
  have k3 : kd Z3 a = 14 := b3.1.trans h
  have j3 : gP Z3 846 a = some m0 := by rw [hZ3, gP_sP, if_neg (fun z => absurd z.1 (by decide)), gP_nw, if_neg na2]; exact j2
  have i3 : ∀ G, gI Z3 G a = 0 := fun G => by rw [hZ3, gI_sP, gI_nw, if_neg na2]; exact i2 G
  have A3 := A2.add (F := 836) (f := 836) (m := a) (n := 30) hq2 (by rw [k2]; decide) (by
    intro p hp
    simp only [List.mem_cons, List.not_mem_nil, or_false] at hp
    rcases hp with rfl | rfl
    · exact fun z => absurd (show fo 835 = 836 from z.1) (by decide)
    · exact fun z => absurd (show fo 834 = 836 from z.1) (by decide)) rfl rfl rfl
  rw [← hZ3] at A3
  refine bX12_init_30 B (by rw [kd_nw, if_neg na2]; exact k2) (Nat.le_of_ble_eq_true rfl) (Nat.le_of_ble_eq_true rfl) ?_
  rw [← hZ3]
  intro q3 hq3
  have na3 : a ≠ q3 := fun z => by rw [z, hq3] at k3; exact absurd k3 (by decide)
  obtain ⟨Z4, hZ4⟩ : ∃ Z, Z = sP (nw Z3 q3 21 30) 837 a (some q3) := ⟨_, rfl⟩
  have b4 : OldE a S Z4 := by rw [hZ4]; exact b3.step hq3 ha
  have k4 : kd Z4 a = 14 := b4.1.trans h
  have j4 : gP Z4 846 a = some m0 := by rw [hZ4, gP_sP, if_neg (fun z => absurd z.1 (by decide)), gP_nw, if_neg na3]; exact j3
  have i4 : ∀ G, gI Z4 G a = 0 := fun G => by rw [hZ4, gI_sP, gI_nw, if_neg na3]; exact i3 G
  have A4 := A3.add (F := 837) (f := 837) (m := a) (n := 30) hq3 (by rw [k3]; decide) (by
    intro p hp
    simp only [List.mem_cons, List.not_mem_nil, or_false] at hp
    rcases hp with rfl | rfl | rfl
    · exact fun z => absurd (show fo 836 = 837 from z.1) (by decide)
    · exact fun z => absurd (show fo 835 = 837 from z.1) (by decide)
    · exact fun z => absurd (show fo 834 = 837 from z.1) (by decide)) rfl rfl rfl
  rw [← hZ4] at A4
  refine bX12_init_38 B (by rw [kd_nw, if_neg na3]; exact k3) (Nat.le_of_ble_eq_true rfl) (Nat.le_of_ble_eq_true rfl) ?_
  rw [← hZ4]
  intro q4 hq4
  have na4 : a ≠ q4 := fun z => by rw [z, hq4] at k4; exact absurd k4 (by decide)
  obtain ⟨Z5, hZ5⟩ : ∃ Z, Z = sP (nw Z4 q4 21 30) 838 a (some q4) := ⟨_, rfl⟩
  have b5 : OldE a S Z5 := by rw [hZ5]; exact b4.step hq4 ha
  have k5 : kd Z5 a = 14 := b5.1.trans h
  have j5 : gP Z5 846 a = some m0 := by rw [hZ5, gP_sP, if_neg (fun z => absurd z.1 (by decide)), gP_nw, if_neg na4]; exact j4
  have i5 : ∀ G, gI Z5 G a = 0 := fun G => by rw [hZ5, gI_sP, gI_nw, if_neg na4]; exact i4 G
  have A5 := A4.add (F := 838) (f := 838) (m := a) (n := 30) hq4 (by rw [k4]; decide) (by
    intro p hp
    simp only [List.mem_cons, List.not_mem_nil, or_false] at hp
    rcases hp with rfl | rfl | rfl | rfl
    · exact fun z => absurd (show fo 837 = 838 from z.1) (by decide)
    · exact fun z => absurd (show fo 836 = 838 from z.1) (by decide)
    · exact fun z => absurd (show fo 835 = 838 from z.1) (by decide)
    · exact fun z => absurd (show fo 834 = 838 from z.1) (by decide)) rfl rfl rfl
  rw [← hZ5] at A5
  refine bX12_init_46 B (by rw [kd_nw, if_neg na4]; exact k4) (Nat.le_of_ble_eq_true rfl) (Nat.le_of_ble_eq_true rfl) ?_
  rw [← hZ5]
  intro q5 hq5
  have na5 : a ≠ q5 := fun z => by rw [z, hq5] at k5; exact absurd k5 (by decide)
  obtain ⟨Z6, hZ6⟩ : ∃ Z, Z = sP (nw Z5 q5 21 12) 839 a (some q5) := ⟨_, rfl⟩
  have b6 : OldE a S Z6 := by rw [hZ6]; exact b5.step hq5 ha
  have k6 : kd Z6 a = 14 := b6.1.trans h
  have j6 : gP Z6 846 a = some m0 := by rw [hZ6, gP_sP, if_neg (fun z => absurd z.1 (by decide)), gP_nw, if_neg na5]; exact j5
  have i6 : ∀ G, gI Z6 G a = 0 := fun G => by rw [hZ6, gI_sP, gI_nw, if_neg na5]; exact i5 G
  have A6 := A5.add (F := 839) (f := 839) (m := a) (n := 12) hq5 (by rw [k5]; decide) (by
    intro p hp
    simp only [List.mem_cons, List.not_mem_nil, or_false] at hp
    rcases hp with rfl | rfl | rfl | rfl | rfl
    · exact fun z => absurd (show fo 838 = 839 from z.1) (by decide)
    · exact fun z => absurd (show fo 837 = 839 from z.1) (by decide)
    · exact fun z => absurd (show fo 836 = 839 from z.1) (by decide)
    · exact fun z => absurd (show fo 835 = 839 from z.1) (by decide)
    · exact fun z => absurd (show fo 834 = 839 from z.1) (by decide)) rfl rfl rfl
  rw [← hZ6] at A6
  refine bX12_init_54 B (by rw [kd_nw, if_neg na5]; exact k5) (Nat.le_of_ble_eq_true rfl) (Nat.le_of_ble_eq_true rfl) ?_
  rw [← hZ6]
  intro q6 hq6
  have na6 : a ≠ q6 := fun z => by rw [z, hq6] at k6; exact absurd k6 (by decide)
  obtain ⟨Z7, hZ7⟩ : ∃ Z, Z = sP (nw Z6 q6 21 4) 840 a (some q6) := ⟨_, rfl⟩
  have b7 : OldE a S Z7 := by rw [hZ7]; exact b6.step hq6 ha
  have k7 : kd Z7 a = 14 := b7.1.trans h
  have j7 : gP Z7 846 a = some m0 := by rw [hZ7, gP_sP, if_neg (fun z => absurd z.1 (by decide)), gP_nw, if_neg na6]; exact j6
  have i7 : ∀ G, gI Z7 G a = 0 := fun G => by rw [hZ7, gI_sP, gI_nw, if_neg na6]; exact i6 G
  have A7 := A6.add (F := 840) (f := 840) (m := a) (n := 4) hq6 (by rw [k6]; decide) (by
    intro p hp
    simp only [List.mem_cons, List.not_mem_nil, or_false] at hp
    rcases hp with rfl | rfl | rfl | rfl | rfl | rfl
    · exact fun z => absurd (show fo 839 = 840 from z.1) (by decide)
    · exact fun z => absurd (show fo 838 = 840 from z.1) (by decide)
    · exact fun z => absurd (show fo 837 = 840 from z.1) (by decide)
    · exact fun z => absurd (show fo 836 = 840 from z.1) (by decide)
    · exact fun z => absurd (show fo 835 = 840 from z.1) (by decide)
    · exact fun z => absurd (show fo 834 = 840 from z.1) (by decide)) rfl rfl rfl
  rw [← hZ7] at A7
  refine bX12_init_61 B (by rw [kd_nw, if_neg na6]; exact k6) (Nat.le_of_ble_eq_true rfl) (Nat.le_of_ble_eq_true rfl) ?_
  rw [← hZ7]
  intro q7 hq7
  have na7 : a ≠ q7 := fun z => by rw [z, hq7] at k7; exact absurd k7 (by decide)
  obtain ⟨Z8, hZ8⟩ : ∃ Z, Z = sP (nw Z7 q7 21 48) 841 a (some q7) := ⟨_, rfl⟩
  have b8 : OldE a S Z8 := by rw [hZ8]; exact b7.step hq7 ha
  have k8 : kd Z8 a = 14 := b8.1.trans h
  have j8 : gP Z8 846 a = some m0 := by rw [hZ8, gP_sP, if_neg (fun z => absurd z.1 (by decide)), gP_nw, if_neg na7]; exact j7
  have i8 : ∀ G, gI Z8 G a = 0 := fun G => by rw [hZ8, gI_sP, gI_nw, if_neg na7]; exact i7 G
  have A8 := A7.add (F := 841) (f := 841) (m := a) (n := 48) hq7 (by rw [k7]; decide) (by
    intro p hp
    simp only [List.mem_cons, List.not_mem_nil, or_false] at hp
    rcases hp with rfl | rfl | rfl | rfl | rfl | rfl | rfl
    · exact fun z => absurd (show fo 840 = 841 from z.1) (by decide)
    · exact fun z => absurd (show fo 839 = 841 from z.1) (by decide)
    · exact fun z => absurd (show fo 838 = 841 from z.1) (by decide)
    · exact fun z => absurd (show fo 837 = 841 from z.1) (by decide)
    · exact fun z => absurd (show fo 836 = 841 from z.1) (by decide)
    · exact fun z => absurd (show fo 835 = 841 from z.1) (by decide)
    · exact fun z => absurd (show fo 834 = 841 from z.1) (by decide)) rfl rfl rfl
  rw [← hZ8] at A8
  refine bX12_init_69 B (by rw [kd_nw, if_neg na7]; exact k7) ?_
  rw [← hZ8]
  refine ⟨b8, i8, j8, _, rfl, A8, fun p hp => ?_⟩
  simp only [List.mem_cons, List.not_mem_nil, or_false] at hp
  rcases hp with rfl | rfl | rfl | rfl | rfl | rfl | rfl | rfl
  · exact b7.k0 hq7 ha
  · exact b6.k0 hq6 ha
  · exact b5.k0 hq5 ha
  · exact b4.k0 hq4 ha
  · exact b3.k0 hq3 ha
  · exact b2.k0 hq2 ha
  · exact b1.k0 hq1 ha
  · exact b0.k0 hq0 ha
end MINI
