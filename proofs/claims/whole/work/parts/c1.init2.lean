section INI2
variable {l : Launch} {w : Wd} {S : St}
theorem c_lsI {a : Nat} (h : kd S a = 1) : ConV l yJx4a65c_init_da8c8 (wsOf yJx4a65c_init_da8c8 cJx4a65c_init_da8c8 1 none) rJx4a65c_init_da8c8 w S [.ref a] (fun S' => S' = sP (sI S 0 a 0) 1 a (some (wE w))) := by
  have h0 : ConV l yJxa1e45_init_da8c8 (wsOf yJxa1e45_init_da8c8 cJxa1e45_init_da8c8 1 none) rJxa1e45_init_da8c8 w S [.ref a] (fun S' => S' = S) := by
    refine con_V (by decide +kernel) rfl (Nat.le_of_ble_eq_true rfl) (fun p e s m args below meth c B => ?_)
    exact bJxa1e45_init_da8c8_0 B rfl
  have h1 : ConV l yJxc12de_init_da8c8 (wsOf yJxc12de_init_da8c8 cJxc12de_init_da8c8 1 none) rJxc12de_init_da8c8 w S [.ref a] (fun S' => S' = sI S 0 a 0) := by
    refine con_V (by decide +kernel) rfl (Nat.le_of_ble_eq_true rfl) (fun p e s m args below meth c B => ?_)
    refine bJxc12de_init_da8c8_0 B h0 (fun S' hq => ?_)
    subst hq
    exact bJxc12de_init_da8c8_4 B h rfl
  refine con_V (by decide +kernel) rfl (Nat.le_of_ble_eq_true rfl) (fun p e s m args below meth c B => ?_)
  refine bJx4a65c_init_da8c8_0 B h1 (fun S' hq => ?_)
  subst hq
  exact bJx4a65c_init_da8c8_4 B h rfl
theorem c_tpI {a tn d : Nat} (h : kd S a = 11) (h2 : kd S tn = 10) (h3 : gP S 577 tn = some d) : ConV l yX9_init (wsOf yX9_init cX9_init 2 none) rX9_init w S [.ref a, .ref tn] (fun S' => S' = sP (sP (sI (sI (sI (sI S 642 a 0) 643 a 0) 644 a 0) 645 a 0) 640 a (some tn)) 641 a (some d)) := by
  refine con_V (by decide +kernel) rfl (Nat.le_of_ble_eq_true rfl) (fun p e s m args below meth c B => ?_)
  exact bX9_init_0 B h h2 h3 rfl
theorem c_chI {a : Nat} (h : kd S a = 2) : ConV l yX0_init (wsOf yX0_init cX0_init 1 none) rX0_init w S [.ref a] (fun S' => S' = sP (sI (sI S 64 a 0) 65 a (-1)) 66 a none) := by
  refine con_V (by decide +kernel) rfl (Nat.le_of_ble_eq_true rfl) (fun p e s m args below meth c B => ?_)
  exact bX0_init_0 B h rfl
theorem c_scI {a tn d : Nat} (h : kd S a = 9) (h2 : kd S tn = 10) (h3 : gP S 577 tn = some d) : ConV l yX7_init (wsOf yX7_init cX7_init 2 none) rX7_init w S [.ref a, .ref tn] (fun S' => OldE a S S' ∧ ∃ m1 l1 o1 t1, (kd S m1 = 0 ∧ kd S l1 = 0 ∧ kd S o1 = 0 ∧ kd S t1 = 0) ∧ (m1 ≠ l1 ∧ m1 ≠ o1 ∧ l1 ≠ o1) ∧ (kd S' m1 = 21 ∧ ln S' m1 = 12 ∧ kd S' l1 = 21 ∧ ln S' l1 = 12 ∧ kd S' o1 = 21 ∧ ln S' o1 = 12 ∧ kd S' t1 = 11) ∧ (gP S' 512 a = some tn ∧ gP S' 513 a = some t1 ∧ gP S' 514 a = some m1 ∧ gP S' 515 a = some l1 ∧ gP S' 516 a = some o1) ∧ gP S' 640 t1 = some tn) := by
  have ha : kd S a ≠ 0 := by rw [h]; decide
  have htn : kd S tn ≠ 0 := by rw [h2]; decide
  have nat : tn ≠ a := fun z => by rw [z, h] at h2; exact absurd h2 (by decide)
  refine con_V (by decide +kernel) rfl (Nat.le_of_ble_eq_true rfl) (fun p e s m args below meth c B => ?_)
  refine bX7_init_0 B (Nat.le_of_ble_eq_true rfl) (Nat.le_of_ble_eq_true rfl) (fun m1 hm => ?_)
  have nam : a ≠ m1 := fun z => ha (z ▸ hm)
  have ntm : tn ≠ m1 := fun z => htn (z ▸ hm)
  refine bX7_init_9 B (by rw [kd_nw, if_neg nam]; exact h) (Nat.le_of_ble_eq_true rfl) (Nat.le_of_ble_eq_true rfl) (fun l1 hl1 => ?_)
  obtain ⟨nlm, hl1⟩ := nw0 (S := S) (q := m1) (k := 21) (n := 12) hl1 (by decide)
  have nal : a ≠ l1 := fun z => ha (z ▸ hl1)
  have ntl : tn ≠ l1 := fun z => htn (z ▸ hl1)
  refine bX7_init_17 B (by simp [kd_sI, kd_sP, kd_sRI, kd_sRP, kd_nw, gI_sI, gI_sP, gI_sRI, gI_sRP, gI_nw, gP_sI, gP_sP, gP_sRI, gP_sRP, gP_nw, ln_sI, ln_sP, ln_sRI, ln_sRP, ln_nw, rI_sI, rI_sP, rI_sRI, rI_sRP, rI_nw, rP_sI, rP_sP, rP_sRI, rP_sRP, rP_nw, va_up_self, nam, nal, h]) (Nat.le_of_ble_eq_true rfl) (Nat.le_of_ble_eq_true rfl) (fun o1 ho1 => ?_)
  obtain ⟨nol, ho1⟩ := nw0 (S := sP (nw S m1 21 12) 514 a (some m1)) (q := l1) (k := 21) (n := 12) ho1 (by decide)
  obtain ⟨nom, ho1⟩ := nw0 (S := S) (q := m1) (k := 21) (n := 12) ho1 (by decide)
  have nao : a ≠ o1 := fun z => ha (z ▸ ho1)
  have nto : tn ≠ o1 := fun z => htn (z ▸ ho1)
  have ka : kd (nw (sP (nw (sP (nw S m1 21 12) 514 a (some m1)) l1 21 12) 515 a (some l1)) o1 21 12) a = 9 := by simp [kd_sI, kd_sP, kd_sRI, kd_sRP, kd_nw, gI_sI, gI_sP, gI_sRI, gI_sRP, gI_nw, gP_sI, gP_sP, gP_sRI, gP_sRP, gP_nw, ln_sI, ln_sP, ln_sRI, ln_sRP, ln_nw, rI_sI, rI_sP, rI_sRI, rI_sRP, rI_nw, rP_sI, rP_sP, rP_sRI, rP_sRP, rP_nw, va_up_self, nam, nal, nao, h]
  refine bX7_init_25 B ka ka (Nat.le_of_ble_eq_true rfl) (Nat.le_of_ble_eq_true rfl) (fun t1 ht1 => ?_)
  obtain ⟨nto', ht1⟩ := nw0 (S := sP (nw (sP (nw S m1 21 12) 514 a (some m1)) l1 21 12) 515 a (some l1)) (q := o1) (k := 21) (n := 12) ht1 (by decide)
  obtain ⟨ntl', ht1⟩ := nw0 (S := sP (nw S m1 21 12) 514 a (some m1)) (q := l1) (k := 21) (n := 12) ht1 (by decide)
  obtain ⟨ntm', ht1⟩ := nw0 (S := S) (q := m1) (k := 21) (n := 12) ht1 (by decide)
  have nat1 : a ≠ t1 := fun z => ha (z ▸ ht1)
  have ntt1 : tn ≠ t1 := fun z => htn (z ▸ ht1)
  have nlm' := Ne.symm nlm
  have nol' := Ne.symm nol
  have nom' := Ne.symm nom
  have n4 := Ne.symm nto'
  have n5 := Ne.symm ntl'
  have n6 := Ne.symm ntm'
  have n7 := Ne.symm nat1
  refine bX7_init_42 B (c_tpI (d := d) (by rw [kd_nw, if_pos rfl]) (by simp [kd_sI, kd_sP, kd_sRI, kd_sRP, kd_nw, gI_sI, gI_sP, gI_sRI, gI_sRP, gI_nw, gP_sI, gP_sP, gP_sRI, gP_sRP, gP_nw, ln_sI, ln_sP, ln_sRI, ln_sRP, ln_nw, rI_sI, rI_sP, rI_sRI, rI_sRP, rI_nw, rP_sI, rP_sP, rP_sRI, rP_sRP, rP_nw, va_up_self, ntm, ntl, nto, ntt1, h2]) (by simp [kd_sI, kd_sP, kd_sRI, kd_sRP, kd_nw, gI_sI, gI_sP, gI_sRI, gI_sRP, gI_nw, gP_sI, gP_sP, gP_sRI, gP_sRP, gP_nw, ln_sI, ln_sP, ln_sRI, ln_sRP, ln_nw, rI_sI, rI_sP, rI_sRI, rI_sRP, rI_nw, rP_sI, rP_sP, rP_sRI, rP_sRP, rP_nw, va_up_self, ntm, ntl, nto, ntt1, h3])) (Nat.le_of_ble_eq_true rfl) (Nat.le_of_ble_eq_true rfl) (fun S' hq => ?_)
  subst hq
  refine bX7_init_47 B (by simp [kd_sI, kd_sP, kd_sRI, kd_sRP, kd_nw, gI_sI, gI_sP, gI_sRI, gI_sRP, gI_nw, gP_sI, gP_sP, gP_sRI, gP_sRP, gP_nw, ln_sI, ln_sP, ln_sRI, ln_sRP, ln_nw, rI_sI, rI_sP, rI_sRI, rI_sRP, rI_nw, rP_sI, rP_sP, rP_sRI, rP_sRP, rP_nw, va_up_self, nam, nal, nao, nat1, h]) ?_
  refine ⟨?_, m1, l1, o1, t1, ⟨hm, hl1, ho1, ht1⟩, ⟨nlm', nom', nol'⟩, ⟨?_, ?_, ?_, ?_, ?_, ?_, ?_⟩, ⟨?_, ?_, ?_, ?_, ?_⟩, ?_⟩
  · exact ((((((((((((((((OldE.rf.new hm ha 21 12).sp (Or.inl rfl) _ _).new hl1 ha 21 12).sp (Or.inl rfl) _ _).new ho1 ha 21 12).sp (Or.inl rfl) _ _).si (Or.inl rfl) _ _).sp (Or.inl rfl) _ _).new ht1 ha 11 0).si (Or.inr ht1) _ _).si (Or.inr ht1) _ _).si (Or.inr ht1) _ _).si (Or.inr ht1) _ _).sp (Or.inr ht1) _ _).sp (Or.inr ht1) _ _).sp (Or.inl rfl) _ _)
  · simp [kd_sI, kd_sP, kd_sRI, kd_sRP, kd_nw, gI_sI, gI_sP, gI_sRI, gI_sRP, gI_nw, gP_sI, gP_sP, gP_sRI, gP_sRP, gP_nw, ln_sI, ln_sP, ln_sRI, ln_sRP, ln_nw, rI_sI, rI_sP, rI_sRI, rI_sRP, rI_nw, rP_sI, rP_sP, rP_sRI, rP_sRP, rP_nw, va_up_self, nlm', nom', n6]
  · simp [kd_sI, kd_sP, kd_sRI, kd_sRP, kd_nw, gI_sI, gI_sP, gI_sRI, gI_sRP, gI_nw, gP_sI, gP_sP, gP_sRI, gP_sRP, gP_nw, ln_sI, ln_sP, ln_sRI, ln_sRP, ln_nw, rI_sI, rI_sP, rI_sRI, rI_sRP, rI_nw, rP_sI, rP_sP, rP_sRI, rP_sRP, rP_nw, va_up_self, nlm', nom', n6]
  · simp [kd_sI, kd_sP, kd_sRI, kd_sRP, kd_nw, gI_sI, gI_sP, gI_sRI, gI_sRP, gI_nw, gP_sI, gP_sP, gP_sRI, gP_sRP, gP_nw, ln_sI, ln_sP, ln_sRI, ln_sRP, ln_nw, rI_sI, rI_sP, rI_sRI, rI_sRP, rI_nw, rP_sI, rP_sP, rP_sRI, rP_sRP, rP_nw, va_up_self, nol', n5]
  · simp [kd_sI, kd_sP, kd_sRI, kd_sRP, kd_nw, gI_sI, gI_sP, gI_sRI, gI_sRP, gI_nw, gP_sI, gP_sP, gP_sRI, gP_sRP, gP_nw, ln_sI, ln_sP, ln_sRI, ln_sRP, ln_nw, rI_sI, rI_sP, rI_sRI, rI_sRP, rI_nw, rP_sI, rP_sP, rP_sRI, rP_sRP, rP_nw, va_up_self, nol', n5]
  · simp [kd_sI, kd_sP, kd_sRI, kd_sRP, kd_nw, gI_sI, gI_sP, gI_sRI, gI_sRP, gI_nw, gP_sI, gP_sP, gP_sRI, gP_sRP, gP_nw, ln_sI, ln_sP, ln_sRI, ln_sRP, ln_nw, rI_sI, rI_sP, rI_sRI, rI_sRP, rI_nw, rP_sI, rP_sP, rP_sRI, rP_sRP, rP_nw, va_up_self, n4]
  · simp [kd_sI, kd_sP, kd_sRI, kd_sRP, kd_nw, gI_sI, gI_sP, gI_sRI, gI_sRP, gI_nw, gP_sI, gP_sP, gP_sRI, gP_sRP, gP_nw, ln_sI, ln_sP, ln_sRI, ln_sRP, ln_nw, rI_sI, rI_sP, rI_sRI, rI_sRP, rI_nw, rP_sI, rP_sP, rP_sRI, rP_sRP, rP_nw, va_up_self, n4]
  · simp [kd_sI, kd_sP, kd_sRI, kd_sRP, kd_nw, gI_sI, gI_sP, gI_sRI, gI_sRP, gI_nw, gP_sI, gP_sP, gP_sRI, gP_sRP, gP_nw, ln_sI, ln_sP, ln_sRI, ln_sRP, ln_nw, rI_sI, rI_sP, rI_sRI, rI_sRP, rI_nw, rP_sI, rP_sP, rP_sRI, rP_sRP, rP_nw, va_up_self]
  · simp [kd_sI, kd_sP, kd_sRI, kd_sRP, kd_nw, gI_sI, gI_sP, gI_sRI, gI_sRP, gI_nw, gP_sI, gP_sP, gP_sRI, gP_sRP, gP_nw, ln_sI, ln_sP, ln_sRI, ln_sRP, ln_nw, rI_sI, rI_sP, rI_sRI, rI_sRP, rI_nw, rP_sI, rP_sP, rP_sRI, rP_sRP, rP_nw, va_up_self, nat1]
  · simp [kd_sI, kd_sP, kd_sRI, kd_sRP, kd_nw, gI_sI, gI_sP, gI_sRI, gI_sRP, gI_nw, gP_sI, gP_sP, gP_sRI, gP_sRP, gP_nw, ln_sI, ln_sP, ln_sRI, ln_sRP, ln_nw, rI_sI, rI_sP, rI_sRI, rI_sRP, rI_nw, rP_sI, rP_sP, rP_sRI, rP_sRP, rP_nw, va_up_self, nat1]
  · simp [kd_sI, kd_sP, kd_sRI, kd_sRP, kd_nw, gI_sI, gI_sP, gI_sRI, gI_sRP, gI_nw, gP_sI, gP_sP, gP_sRI, gP_sRP, gP_nw, ln_sI, ln_sP, ln_sRI, ln_sRP, ln_nw, rI_sI, rI_sP, rI_sRI, rI_sRP, rI_nw, rP_sI, rP_sP, rP_sRI, rP_sRP, rP_nw, va_up_self, nat1, nao, nal]
  · simp [kd_sI, kd_sP, kd_sRI, kd_sRP, kd_nw, gI_sI, gI_sP, gI_sRI, gI_sRP, gI_nw, gP_sI, gP_sP, gP_sRI, gP_sRP, gP_nw, ln_sI, ln_sP, ln_sRI, ln_sRP, ln_nw, rI_sI, rI_sP, rI_sRI, rI_sRP, rI_nw, rP_sI, rP_sP, rP_sRI, rP_sRP, rP_nw, va_up_self, nat1, nao]
  · simp [kd_sI, kd_sP, kd_sRI, kd_sRP, kd_nw, gI_sI, gI_sP, gI_sRI, gI_sRP, gI_nw, gP_sI, gP_sP, gP_sRI, gP_sRP, gP_nw, ln_sI, ln_sP, ln_sRI, ln_sRP, ln_nw, rI_sI, rI_sP, rI_sRI, rI_sRP, rI_nw, rP_sI, rP_sP, rP_sRI, rP_sRP, rP_nw, va_up_self, nat1]
  · simp [kd_sI, kd_sP, kd_sRI, kd_sRP, kd_nw, gI_sI, gI_sP, gI_sRI, gI_sRP, gI_nw, gP_sI, gP_sP, gP_sRI, gP_sRP, gP_nw, ln_sI, ln_sP, ln_sRI, ln_sRP, ln_nw, rI_sI, rI_sP, rI_sRI, rI_sRP, rI_nw, rP_sI, rP_sP, rP_sRI, rP_sRP, rP_nw, va_up_self]
theorem c_rdI {a tn hs ls d : Nat} (h : kd S a = 7) (h2 : kd S tn = 10) (h3 : gP S 577 tn = some d) : ConV l yX5_init (wsOf yX5_init cX5_init 4 none) rX5_init w S [.ref a, .ref tn, .ref hs, .ref ls] (fun S' => OldE a S S' ∧ ∃ t1, kd S t1 = 0 ∧ kd S' t1 = 11 ∧ (gP S' 384 a = some tn ∧ gP S' 385 a = some hs ∧ gP S' 386 a = some ls ∧ gP S' 387 a = some t1) ∧ gP S' 640 t1 = some tn) := by
  have ha : kd S a ≠ 0 := by rw [h]; decide
  have htn : kd S tn ≠ 0 := by rw [h2]; decide
  have nat : tn ≠ a := fun z => by rw [z, h] at h2; exact absurd h2 (by decide)
  refine con_V (by decide +kernel) rfl (Nat.le_of_ble_eq_true rfl) (fun p e s m args below meth c B => ?_)
  refine bX5_init_0 B h (Nat.le_of_ble_eq_true rfl) (Nat.le_of_ble_eq_true rfl) (fun t1 ht1 => ?_)
  have ht1 : kd S t1 = 0 := ht1
  have nat1 : a ≠ t1 := fun z => ha (z ▸ ht1)
  have ntt1 : tn ≠ t1 := fun z => htn (z ▸ ht1)
  have n7 := Ne.symm nat1
  refine bX5_init_33 B (c_tpI (d := d) (by rw [kd_nw, if_pos rfl]) (by simp [kd_sI, kd_sP, kd_sRI, kd_sRP, kd_nw, gI_sI, gI_sP, gI_sRI, gI_sRP, gI_nw, gP_sI, gP_sP, gP_sRI, gP_sRP, gP_nw, ln_sI, ln_sP, ln_sRI, ln_sRP, ln_nw, rI_sI, rI_sP, rI_sRI, rI_sRP, rI_nw, rP_sI, rP_sP, rP_sRI, rP_sRP, rP_nw, va_up_self, ntt1, h2]) (by simp [kd_sI, kd_sP, kd_sRI, kd_sRP, kd_nw, gI_sI, gI_sP, gI_sRI, gI_sRP, gI_nw, gP_sI, gP_sP, gP_sRI, gP_sRP, gP_nw, ln_sI, ln_sP, ln_sRI, ln_sRP, ln_nw, rI_sI, rI_sP, rI_sRI, rI_sRP, rI_nw, rP_sI, rP_sP, rP_sRI, rP_sRP, rP_nw, va_up_self, ntt1, h3])) (Nat.le_of_ble_eq_true rfl) (Nat.le_of_ble_eq_true rfl) (fun S' hq => ?_)
  subst hq
  refine bX5_init_38 B (by simp [kd_sI, kd_sP, kd_sRI, kd_sRP, kd_nw, gI_sI, gI_sP, gI_sRI, gI_sRP, gI_nw, gP_sI, gP_sP, gP_sRI, gP_sRP, gP_nw, ln_sI, ln_sP, ln_sRI, ln_sRP, ln_nw, rI_sI, rI_sP, rI_sRI, rI_sRP, rI_nw, rP_sI, rP_sP, rP_sRI, rP_sRP, rP_nw, va_up_self, nat1, h]) ?_
  refine ⟨?_, t1, ht1, ?_, ⟨?_, ?_, ?_, ?_⟩, ?_⟩
  · exact (((((((((((((OldE.rf.si (Or.inl rfl) _ _).si (Or.inl rfl) _ _).sp (Or.inl rfl) _ _).sp (Or.inl rfl) _ _).sp (Or.inl rfl) _ _).new ht1 ha 11 0).si (Or.inr ht1) _ _).si (Or.inr ht1) _ _).si (Or.inr ht1) _ _).si (Or.inr ht1) _ _).sp (Or.inr ht1) _ _).sp (Or.inr ht1) _ _).sp (Or.inl rfl) _ _)
  · simp [kd_sI, kd_sP, kd_sRI, kd_sRP, kd_nw, gI_sI, gI_sP, gI_sRI, gI_sRP, gI_nw, gP_sI, gP_sP, gP_sRI, gP_sRP, gP_nw, ln_sI, ln_sP, ln_sRI, ln_sRP, ln_nw, rI_sI, rI_sP, rI_sRI, rI_sRP, rI_nw, rP_sI, rP_sP, rP_sRI, rP_sRP, rP_nw, va_up_self]
  · simp [kd_sI, kd_sP, kd_sRI, kd_sRP, kd_nw, gI_sI, gI_sP, gI_sRI, gI_sRP, gI_nw, gP_sI, gP_sP, gP_sRI, gP_sRP, gP_nw, ln_sI, ln_sP, ln_sRI, ln_sRP, ln_nw, rI_sI, rI_sP, rI_sRI, rI_sRP, rI_nw, rP_sI, rP_sP, rP_sRI, rP_sRP, rP_nw, va_up_self, nat1]
  · simp [kd_sI, kd_sP, kd_sRI, kd_sRP, kd_nw, gI_sI, gI_sP, gI_sRI, gI_sRP, gI_nw, gP_sI, gP_sP, gP_sRI, gP_sRP, gP_nw, ln_sI, ln_sP, ln_sRI, ln_sRP, ln_nw, rI_sI, rI_sP, rI_sRI, rI_sRP, rI_nw, rP_sI, rP_sP, rP_sRI, rP_sRP, rP_nw, va_up_self, nat1]
  · simp [kd_sI, kd_sP, kd_sRI, kd_sRP, kd_nw, gI_sI, gI_sP, gI_sRI, gI_sRP, gI_nw, gP_sI, gP_sP, gP_sRI, gP_sRP, gP_nw, ln_sI, ln_sP, ln_sRI, ln_sRP, ln_nw, rI_sI, rI_sP, rI_sRI, rI_sRP, rI_nw, rP_sI, rP_sP, rP_sRI, rP_sRP, rP_nw, va_up_self, nat1]
  · simp [kd_sI, kd_sP, kd_sRI, kd_sRP, kd_nw, gI_sI, gI_sP, gI_sRI, gI_sRP, gI_nw, gP_sI, gP_sP, gP_sRI, gP_sRP, gP_nw, ln_sI, ln_sP, ln_sRI, ln_sRP, ln_nw, rI_sI, rI_sP, rI_sRI, rI_sRP, rI_nw, rP_sI, rP_sP, rP_sRI, rP_sRP, rP_nw, va_up_self]
  · simp [kd_sI, kd_sP, kd_sRI, kd_sRP, kd_nw, gI_sI, gI_sP, gI_sRI, gI_sRP, gI_nw, gP_sI, gP_sP, gP_sRI, gP_sRP, gP_nw, ln_sI, ln_sP, ln_sRI, ln_sRP, ln_nw, rI_sI, rI_sP, rI_sRI, rI_sRP, rI_nw, rP_sI, rP_sP, rP_sRI, rP_sRP, rP_nw, va_up_self]
end INI2
/-- all has stayed but, at v, links from g on -/
def Ox (v g : Nat) (S S' : St) : Prop := ∀ b, kd S b ≠ 0 → kd S' b = kd S b ∧ ln S' b = ln S b ∧ rI S' b = rI S b ∧ rP S' b = rP S b ∧ (b ≠ v → ∀ f, gI S' f b = gI S f b) ∧ ∀ f, (b = v → f < g) → gP S' f b = gP S f b
theorem Ox.one {v f : Nat} {S S1 : St} {x : Option Nat} (h : Old S S1) : Ox v f S (sP S1 f v x) := fun b hb => by
  obtain ⟨a1, a2, a3, a4, a5, a6⟩ := h b hb
  exact ⟨a1, a2, a3, a4, fun _ => a5, fun g hg => by rw [gP_sP, if_neg (fun z => by have := hg z.2; omega)]; exact a6 g⟩
theorem Ox.tr {v g g' : Nat} {S S1 S2 : St} (h : Ox v g S S1) (h2 : Ox v g' S1 S2) (hg : g ≤ g') : Ox v g S S2 := fun b hb => by
  obtain ⟨a1, a2, a3, a4, a5, a6⟩ := h b hb
  obtain ⟨b1, b2, b3, b4, b5, b6⟩ := h2 b (by rw [a1]; exact hb)
  exact ⟨b1.trans a1, b2.trans a2, b3.trans a3, b4.trans a4, fun z f => (b5 z f).trans (a5 z f), fun f hf => (b6 f (fun z => by have := hf z; omega)).trans (a6 f hf)⟩
