/-! WHAT THERE IS: the reference's setters -/
abbrev inR (x lo hi : Int32) : Prop := lo ≤ x ∧ x ≤ hi
def opRoads (α : Ab) (a b : Int32) : Out := if ¬ isIx a 24 then (1, 0, α) else if ¬ inR b 5 30 then (2, 0, α) else (0, α 897 (cl a), aset α 897 (va_up (α 897) (cl a) b))
def opDepot (α : Ab) (a b : Int32) : Out := if ¬ (inR a 0 60 ∧ inR b 0 60) then (1, 0, α) else (0, 100 * α 898 0 + α 899 0, au (au α 898 0 a) 899 0 b)
def homA (α : Ab) (a b c : Int32) : Ab := au (aset (aset (aset α 901 (va_up (α 901) (nH α) a)) 902 (va_up (α 902) (nH α) b)) 903 (va_up (α 903) (nH α) c)) 900 0 (nI (nH α + 1))
def opHome (α : Ab) (a b c : Int32) : Out := if ¬ ((inR a 0 60 ∧ inR b 0 60) ∧ inR c 0 16777215) then (1, 0, α) else if nH α = 16 then (2, 0, α) else (0, nI (nH α), homA α a b c)
def vanA (α : Ab) (a b c : Int32) : Ab := au (aset (aset (aset α 910 (va_up (α 910) (nV α) a)) 911 (va_up (α 911) (nV α) b)) 912 (va_up (α 912) (nV α) c)) 909 0 (nI (nV α + 1))
def opVan (α : Ab) (a b c : Int32) : Out := if ¬ (inR a 10 200 ∧ inR b 0 1439 ∧ inR c b 1439) then (1, 0, α) else if nV α = 4 then (2, 0, α) else (0, nI (nV α), vanA α a b c)
theorem aset_fr {α β : Ab} (f : FrM α β) (F : Nat) (g : Nat → Int32) : FrM (aset α F g) (aset β F g) := fun G hG => by
  by_cases c : G = F
  · subst c; rw [aset_same, aset_same]
  · rw [aset_ne c, aset_ne c]; exact f G hG
theorem au_fr {α β : Ab} (f : FrM α β) (F i : Nat) (v : Int32) : FrM (au α F i v) (au β F i v) := fun G hG => by
  by_cases c : G = F
  · subst c
    funext j
    by_cases cj : j = i
    · subst cj; rw [au_same, au_same]
    · rw [show au β G i v G j = β G j from if_neg (fun z => cj z.2), show au α G i v G j = α G j from if_neg (fun z => cj z.2), f G hG]
  · rw [au_neF c, au_neF c]; exact f G hG
section MSE
variable {l : Launch} {w : Wd} {S : St} {m0 s0 ah : Nat} {A : Nat → Nat}
theorem c_isPlace {a b : Int32} : ConI l yX13_isPlace (wsOf yX13_isPlace cX13_isPlace 2 (some .boolean)) rX13_isPlace w S [.int a, .int b] (fun r S' => S = S' ∧ (r = 1 ∧ (inR a 0 60 ∧ inR b 0 60) ∨ r = 0 ∧ ¬ (inR a 0 60 ∧ inR b 0 60))) := by
  refine con_I (by decide +kernel) rfl (Nat.le_of_ble_eq_true rfl) (fun p e s m args below meth c B => ?_)
  refine bX13_isPlace_0 B c_isIn (fun r S' hq => ?_)
  obtain ⟨rfl, hq⟩ := hq
  rcases hq with ⟨rfl, h1⟩ | ⟨rfl, h1⟩
  · refine bX13_isPlace_7 B (fun z => absurd z ne1) (fun _ => bX13_isPlace_10 B c_isIn (fun r S' hq => ?_))
    obtain ⟨rfl, hq⟩ := hq
    rcases hq with ⟨rfl, h2⟩ | ⟨rfl, h2⟩
    · exact bX13_isPlace_17 B (fun z => absurd z ne1) (fun _ => bX13_isPlace_20 B (bX13_isPlace_25 B (Or.inr rfl) ⟨rfl, Or.inl ⟨rfl, h1, h2⟩⟩))
    · exact bX13_isPlace_17 B (fun _ => bX13_isPlace_24 B (bX13_isPlace_25 B (Or.inl rfl) ⟨rfl, Or.inr ⟨rfl, fun z => h2 z.2⟩⟩)) (fun z => absurd rfl z)
  · exact bX13_isPlace_7 B (fun _ => bX13_isPlace_24 B (bX13_isPlace_25 B (Or.inl rfl) ⟨rfl, Or.inr ⟨rfl, fun z => h1 z.1⟩⟩)) (fun z => absurd rfl z)
theorem c_setRoads {α : Ab} {ia ib : Int32} (h : MR S m0 s0 ah A α) : ConI l yX13_setRoads (wsOf yX13_setRoads cX13_setRoads 4 (some .int)) rX13_setRoads w S [.ref m0, .int ia, .int ib] (PM m0 s0 ah A (opRoads α ia ib)) := by
  refine con_I (by decide +kernel) rfl (Nat.le_of_ble_eq_true rfl) (fun p e s m args below meth c B => ?_)
  have h1 : MR (sI S 896 m0 0) m0 s0 ah A (au α 896 0 0) := h.setS (F := 896) (by decide) 0
  have f1 : FrM α (au α 896 0 0) := FrM.th
  unfold opRoads
  refine bX13_setRoads_0 B h.1.1 c_isIn (fun r S' hq => ?_)
  obtain ⟨rfl, hq⟩ := hq
  rw [show (23 : Int32) = nI 23 from rfl, isIn_ix (n := 23) (by omega)] at hq
  rcases hq with ⟨rfl, ha⟩ | ⟨rfl, ha⟩
  rotate_left
  · rw [if_pos ha]
    exact bX13_setRoads_12 B (fun z => absurd rfl z) (fun _ => bX13_setRoads_15 B (c_no h1) h1.1.1 (fun r S' hq => bX13_setRoads_20 B (hq.back f1)))
  rw [if_neg (fun z => z ha)]
  refine bX13_setRoads_12 B (fun _ => ?_) (fun z => absurd z ne1)
  refine bX13_setRoads_21 B c_isIn (fun r S' hq => ?_)
  obtain ⟨rfl, hq⟩ := hq
  rcases hq with ⟨rfl, hb⟩ | ⟨rfl, hb⟩
  rotate_left
  · rw [if_pos hb]
    exact bX13_setRoads_28 B (fun z => absurd rfl z) (fun _ => bX13_setRoads_31 B (c_no h1) h1.1.1 (fun r S' hq => bX13_setRoads_36 B (hq.back f1)))
  rw [if_neg (fun z => z hb)]
  refine bX13_setRoads_28 B (fun _ => ?_) (fun z => absurd z ne1)
  obtain ⟨k, hk, rfl⟩ := ha.nI
  obtain ⟨a1, a2, a3, a4⟩ := h1.ar 897 (by decide)
  have ek : (nI k).toNatClampNeg = k := nI_clamp (by omega)
  have hin : vp_in (nI k) (ln (sI S 896 m0 0) (A 897)) := by rw [a3]; exact vp_in_nI (show k < 24 by omega) (by decide)
  refine bX13_setRoads_37 B h1.1.1 a1 a2 hin a1 a2 hin (bX13_setRoads_51 B ?_)
  rw [a4, ek, show cl (nI k) = k from ek]
  exact ⟨congrFun (f1 897 rfl) k, _, h1.setA (F := 897) (by decide) _, by rw [aset_ne (by decide)]; exact au_same, by rw [f1 897 rfl]; exact aset_fr f1 _ _⟩
theorem c_setDepot {α : Ab} {ia ib : Int32} (h : MR S m0 s0 ah A α) : ConI l yX13_setDepot (wsOf yX13_setDepot cX13_setDepot 4 (some .int)) rX13_setDepot w S [.ref m0, .int ia, .int ib] (PM m0 s0 ah A (opDepot α ia ib)) := by
  refine con_I (by decide +kernel) rfl (Nat.le_of_ble_eq_true rfl) (fun p e s m args below meth c B => ?_)
  have h1 : MR (sI S 896 m0 0) m0 s0 ah A (au α 896 0 0) := h.setS (F := 896) (by decide) 0
  have f1 : FrM α (au α 896 0 0) := FrM.th
  unfold opDepot
  refine bX13_setDepot_0 B h.1.1 c_isPlace (fun r S' hq => ?_)
  obtain ⟨rfl, hq⟩ := hq
  rcases hq with ⟨rfl, ha⟩ | ⟨rfl, ha⟩
  rotate_left
  · rw [if_pos ha]
    exact bX13_setDepot_10 B (fun z => absurd rfl z) (fun _ => bX13_setDepot_13 B (c_no h1) h1.1.1 (fun r S' hq => bX13_setDepot_18 B (hq.back f1)))
  rw [if_neg (fun z => z ha)]
  refine bX13_setDepot_10 B (fun _ => ?_) (fun z => absurd z ne1)
  refine bX13_setDepot_19 B h1.1.1 ?_
  have e1 : gI (sI S 896 m0 0) 898 m0 = α 898 0 := (h1.sc 898 (by decide)).trans (congrFun (f1 898 rfl) 0)
  have e2 : gI (sI S 896 m0 0) 899 m0 = α 899 0 := (h1.sc 899 (by decide)).trans (congrFun (f1 899 rfl) 0)
  exact ⟨by rw [e1, e2], _, (h1.setS (F := 898) (by decide) ia).setS (F := 899) (by decide) ib, by rw [au_neF (by decide), au_neF (by decide)]; exact au_same, au_fr (au_fr f1 _ _ _) _ _ _⟩
theorem c_addHome {α : Ab} {ia ib ic : Int32} (h : MR S m0 s0 ah A α) (hC : AIc α) : ConI l yX13_addHome (wsOf yX13_addHome cX13_addHome 4 (some .int)) rX13_addHome w S [.ref m0, .int ia, .int ib, .int ic] (PM m0 s0 ah A (opHome α ia ib ic)) := by
  refine con_I (by decide +kernel) rfl (Nat.le_of_ble_eq_true rfl) (fun p e s m args below meth c B => ?_)
  have h1 : MR (sI S 896 m0 0) m0 s0 ah A (au α 896 0 0) := h.setS (F := 896) (by decide) 0
  have f1 : FrM α (au α 896 0 0) := FrM.th
  have t1 : au α 896 0 0 896 0 = 0 := au_same
  unfold opHome
  have bad : ¬ ((inR ia 0 60 ∧ inR ib 0 60) ∧ inR ic 0 16777215) → K p l e rX13_addHome s m args below meth c 4 w 0 0 (MQ below (va_Qi (PM m0 s0 ah A (if ¬ ((inR ia 0 60 ∧ inR ib 0 60) ∧ inR ic 0 16777215) then (1, 0, α) else if nH α = 16 then (2, 0, α) else (0, nI (nH α), homA α ia ib ic))) (fun S' t => Hd w S' t.heap) (wA w)) args s rX13_addHome.cells rX13_addHome.slots (wA w)) (sI S 896 m0 0) 23 [(0, .ref m0)] [] := by
    intro hn
    rw [if_pos hn]
    exact bX13_addHome_23 B (c_no h1) h1.1.1 (fun r S' hq => bX13_addHome_28 B (hq.back f1))
  refine bX13_addHome_0 B h.1.1 c_isPlace (fun r S' hq => ?_)
  obtain ⟨rfl, hq⟩ := hq
  rcases hq with ⟨rfl, ha⟩ | ⟨rfl, ha⟩
  rotate_left
  · exact bX13_addHome_10 B (fun _ => bad (fun z => ha z.1)) (fun z => absurd rfl z)
  refine bX13_addHome_10 B (fun z => absurd z ne1) (fun _ => bX13_addHome_13 B c_isIn (fun r S' hq => ?_))
  obtain ⟨rfl, hq⟩ := hq
  rcases hq with ⟨rfl, hb⟩ | ⟨rfl, hb⟩
  rotate_left
  · exact bX13_addHome_20 B (fun z => absurd rfl z) (fun _ => bad (fun z => hb z.2))
  rw [if_neg (fun z => z ⟨ha, hb⟩)]
  refine bX13_addHome_20 B (fun _ => ?_) (fun z => absurd z ne1)
  clear bad
  revert h1 f1 t1
  generalize au α 896 0 0 = β
  generalize sI S 896 m0 0 = S1
  intro h1 f1 t1
  have n16 := hC.1.2
  have en : gI S1 900 m0 = nI (nH α) := (h1.sc 900 (by decide)).trans ((congrFun (f1 900 rfl) 0).trans hC.1.1)
  refine bX13_addHome_29 B h1.1.1 (fun c => ?_) (fun c => ?_)
  rotate_left
  · rw [en, show (16 : Int32) = nI 16 from rfl, nI_eq (by omega) (by omega)] at c
    rw [if_pos c]
    exact bX13_addHome_38 B (c_no h1) h1.1.1 (fun r S' hq => bX13_addHome_43 B (hq.back f1))
  rw [en, show (16 : Int32) = nI 16 from rfl, nI_eq (by omega) (by omega)] at c
  rw [if_neg c]
  have ek : (nI (nH α)).toNatClampNeg = nH α := nI_clamp (by omega)
  have hin : ∀ {N}, N = 16 → vp_in (nI (nH α)) N := fun e => by rw [e]; exact vp_in_nI (show nH α < 16 by omega) (by decide)
  obtain ⟨a1, a2, a3, a4⟩ := h1.ar 901 (by decide)
  refine bX13_addHome_44 B h1.1.1 a1 a2 (by rw [en]; exact hin a3) ?_
  rw [en, ek, a4, f1 901 rfl]
  have h2 := h1.setA (F := 901) (by decide) (va_up (α 901) (nH α) ia)
  obtain ⟨b1, b2, b3, b4⟩ := h2.ar 902 (by decide)
  refine bX13_addHome_54 B h2.1.1 b1 b2 (by rw [gI_sRI, en]; exact hin b3) ?_
  rw [gI_sRI, en, ek, b4, aset_ne (by decide), f1 902 rfl]
  have h3 := h2.setA (F := 902) (by decide) (va_up (α 902) (nH α) ib)
  obtain ⟨d1, d2, d3, d4⟩ := h3.ar 903 (by decide)
  refine bX13_addHome_64 B h3.1.1 d1 d2 (by rw [gI_sRI, gI_sRI, en]; exact hin d3) ?_
  rw [gI_sRI, gI_sRI, en, ek, d4, aset_ne (by decide), aset_ne (by decide), f1 903 rfl]
  have h4 := h3.setA (F := 903) (by decide) (va_up (α 903) (nH α) ic)
  refine bX13_addHome_74 B h4.1.1 ?_
  rw [gI_sRI, gI_sRI, gI_sRI, en, nI_1]
  refine ⟨by rw [nI_s1 (by omega)]; rfl, _, h4.setS (F := 900) (by decide) (nI (nH α + 1)), ?_, au_fr (aset_fr (aset_fr (aset_fr f1 _ _) _ _) _ _) _ _ _⟩
  rw [au_neF (by decide), aset_ne (by decide), aset_ne (by decide), aset_ne (by decide)]; exact t1
theorem c_addVan {α : Ab} {ia ib ic : Int32} (h : MR S m0 s0 ah A α) (hC : AIc α) : ConI l yX13_addVan (wsOf yX13_addVan cX13_addVan 4 (some .int)) rX13_addVan w S [.ref m0, .int ia, .int ib, .int ic] (PM m0 s0 ah A (opVan α ia ib ic)) := by
  refine con_I (by decide +kernel) rfl (Nat.le_of_ble_eq_true rfl) (fun p e s m args below meth c B => ?_)
  have h1 : MR (sI S 896 m0 0) m0 s0 ah A (au α 896 0 0) := h.setS (F := 896) (by decide) 0
  have f1 : FrM α (au α 896 0 0) := FrM.th
  have t1 : au α 896 0 0 896 0 = 0 := au_same
  unfold opVan
  have bad : ¬ (inR ia 10 200 ∧ inR ib 0 1439 ∧ inR ic ib 1439) → K p l e rX13_addVan s m args below meth c 4 w 0 0 (MQ below (va_Qi (PM m0 s0 ah A (if ¬ (inR ia 10 200 ∧ inR ib 0 1439 ∧ inR ic ib 1439) then (1, 0, α) else if nV α = 4 then (2, 0, α) else (0, nI (nV α), vanA α ia ib ic))) (fun S' t => Hd w S' t.heap) (wA w)) args s rX13_addVan.cells rX13_addVan.slots (wA w)) (sI S 896 m0 0) 39 [(0, .ref m0)] [] := by
    intro hn
    rw [if_pos hn]
    exact bX13_addVan_39 B (c_no h1) h1.1.1 (fun r S' hq => bX13_addVan_44 B (hq.back f1))
  refine bX13_addVan_0 B h.1.1 c_isIn (fun r S' hq => ?_)
  obtain ⟨rfl, hq⟩ := hq
  rcases hq with ⟨rfl, ha⟩ | ⟨rfl, ha⟩
  rotate_left
  · exact bX13_addVan_14 B (fun _ => bad (fun z => ha z.1)) (fun z => absurd rfl z)
  refine bX13_addVan_14 B (fun z => absurd z ne1) (fun _ => bX13_addVan_17 B c_isIn (fun r S' hq => ?_))
  obtain ⟨rfl, hq⟩ := hq
  rcases hq with ⟨rfl, hb⟩ | ⟨rfl, hb⟩
  rotate_left
  · exact bX13_addVan_25 B (fun _ => bad (fun z => hb z.2.1)) (fun z => absurd rfl z)
  refine bX13_addVan_25 B (fun z => absurd z ne1) (fun _ => bX13_addVan_28 B c_isIn (fun r S' hq => ?_))
  obtain ⟨rfl, hq⟩ := hq
  rcases hq with ⟨rfl, hc⟩ | ⟨rfl, hc⟩
  rotate_left
  · exact bX13_addVan_36 B (fun z => absurd rfl z) (fun _ => bad (fun z => hc z.2.2))
  rw [if_neg (fun z => z ⟨ha, hb, hc⟩)]
  refine bX13_addVan_36 B (fun _ => ?_) (fun z => absurd z ne1)
  clear bad
  revert h1 f1 t1
  generalize au α 896 0 0 = β
  generalize sI S 896 m0 0 = S1
  intro h1 f1 t1
  have n16 := hC.2.2.1.2
  have en : gI S1 909 m0 = nI (nV α) := (h1.sc 909 (by decide)).trans ((congrFun (f1 909 rfl) 0).trans hC.2.2.1.1)
  refine bX13_addVan_45 B h1.1.1 (fun c => ?_) (fun c => ?_)
  rotate_left
  · rw [en, show (4 : Int32) = nI 4 from rfl, nI_eq (by omega) (by omega)] at c
    rw [if_pos c]
    exact bX13_addVan_53 B (c_no h1) h1.1.1 (fun r S' hq => bX13_addVan_58 B (hq.back f1))
  rw [en, show (4 : Int32) = nI 4 from rfl, nI_eq (by omega) (by omega)] at c
  rw [if_neg c]
  have ek : (nI (nV α)).toNatClampNeg = nV α := nI_clamp (by omega)
  have hin : ∀ {N}, N = 4 → vp_in (nI (nV α)) N := fun e => by rw [e]; exact vp_in_nI (show nV α < 4 by omega) (by decide)
  obtain ⟨a1, a2, a3, a4⟩ := h1.ar 910 (by decide)
  refine bX13_addVan_59 B h1.1.1 a1 a2 (by rw [en]; exact hin a3) ?_
  rw [en, ek, a4, f1 910 rfl]
  have h2 := h1.setA (F := 910) (by decide) (va_up (α 910) (nV α) ia)
  obtain ⟨b1, b2, b3, b4⟩ := h2.ar 911 (by decide)
  refine bX13_addVan_69 B h2.1.1 b1 b2 (by rw [gI_sRI, en]; exact hin b3) ?_
  rw [gI_sRI, en, ek, b4, aset_ne (by decide), f1 911 rfl]
  have h3 := h2.setA (F := 911) (by decide) (va_up (α 911) (nV α) ib)
  obtain ⟨d1, d2, d3, d4⟩ := h3.ar 912 (by decide)
  refine bX13_addVan_79 B h3.1.1 d1 d2 (by rw [gI_sRI, gI_sRI, en]; exact hin d3) ?_
  rw [gI_sRI, gI_sRI, en, ek, d4, aset_ne (by decide), aset_ne (by decide), f1 912 rfl]
  have h4 := h3.setA (F := 912) (by decide) (va_up (α 912) (nV α) ic)
  refine bX13_addVan_89 B h4.1.1 ?_
  rw [gI_sRI, gI_sRI, gI_sRI, en, nI_1]
  refine ⟨by rw [nI_s1 (by omega)]; rfl, _, h4.setS (F := 909) (by decide) (nI (nV α + 1)), ?_, au_fr (aset_fr (aset_fr (aset_fr f1 _ _) _ _) _ _) _ _ _⟩
  rw [au_neF (by decide), aset_ne (by decide), aset_ne (by decide), aset_ne (by decide)]; exact t1
end MSE
