section MLK
variable {l : Launch} {w : Wd} {S : St} {m0 s0 ah : Nat} {A : Nat → Nat}
theorem c_addLocker {α : Ab} {ia ib ic id' ie : Int32} (h : MR S m0 s0 ah A α) (hC : AIc α) : ConI l yX13_addLocker (wsOf yX13_addLocker cX13_addLocker 7 (some .int)) rX13_addLocker w S [.ref m0, .int ia, .int ib, .int ic, .int id', .int ie] (PM m0 s0 ah A (opLocker α ia ib ic id' ie)) := by
  refine con_I (by decide +kernel) rfl (Nat.le_of_ble_eq_true rfl) (fun p e s m args below meth c B => ?_)
  have h1 : MR (sI S 896 m0 0) m0 s0 ah A (au α 896 0 0) := h.setS (F := 896) (by decide) 0
  have f1 : FrM α (au α 896 0 0) := FrM.th
  have t1 : au α 896 0 0 896 0 = 0 := au_same
  unfold opLocker
  have bad : ¬ ((inR ia 0 60 ∧ inR ib 0 60) ∧ inR ic 0 9 ∧ inR id' 0 9 ∧ inR ie 0 9) → K p l e rX13_addLocker s m args below meth c 7 w 0 0 (MQ below (va_Qi (PM m0 s0 ah A (if ¬ ((inR ia 0 60 ∧ inR ib 0 60) ∧ inR ic 0 9 ∧ inR id' 0 9 ∧ inR ie 0 9) then (1, 0, α) else if nL α = 4 then (2, 0, α) else (0, nI (nL α), locA α ia ib ic id' ie))) (fun S' t => Hd w S' t.heap) (wA w)) args s rX13_addLocker.cells rX13_addLocker.slots (wA w)) (sI S 896 m0 0) 45 [(0, .ref m0)] [] := by
    intro hn
    rw [if_pos hn]
    exact bX13_addLocker_45 B (c_no h1) (Nat.le_of_ble_eq_true rfl) (Nat.le_of_ble_eq_true rfl) h1.1.1 (fun r S' hq => k_wid (Nat.le_of_ble_eq_true rfl) (Nat.le_of_ble_eq_true rfl) (bX13_addLocker_50 B (hq.back f1)))
  refine bX13_addLocker_0 B h.1.1 c_isPlace (Nat.le_of_ble_eq_true rfl) (Nat.le_of_ble_eq_true rfl) (fun r S' hq => ?_)
  obtain ⟨rfl, hq⟩ := hq
  rcases hq with ⟨rfl, ha⟩ | ⟨rfl, ha⟩
  rotate_left
  · exact bX13_addLocker_10 B (fun _ => bad (fun z => ha z.1)) (fun z => absurd rfl z)
  refine bX13_addLocker_10 B (fun z => absurd z ne1) (fun _ => bX13_addLocker_13 B c_isIn (Nat.le_of_ble_eq_true rfl) (Nat.le_of_ble_eq_true rfl) (fun r S' hq => ?_))
  obtain ⟨rfl, hq⟩ := hq
  rcases hq with ⟨rfl, hb⟩ | ⟨rfl, hb⟩
  rotate_left
  · exact bX13_addLocker_20 B (fun _ => bad (fun z => hb z.2.1)) (fun z => absurd rfl z)
  refine bX13_addLocker_20 B (fun z => absurd z ne1) (fun _ => bX13_addLocker_23 B c_isIn (Nat.le_of_ble_eq_true rfl) (Nat.le_of_ble_eq_true rfl) (fun r S' hq => ?_))
  obtain ⟨rfl, hq⟩ := hq
  rcases hq with ⟨rfl, hc⟩ | ⟨rfl, hc⟩
  rotate_left
  · exact bX13_addLocker_31 B (fun _ => bad (fun z => hc z.2.2.1)) (fun z => absurd rfl z)
  refine bX13_addLocker_31 B (fun z => absurd z ne1) (fun _ => bX13_addLocker_34 B c_isIn (Nat.le_of_ble_eq_true rfl) (Nat.le_of_ble_eq_true rfl) (fun r S' hq => ?_))
  obtain ⟨rfl, hq⟩ := hq
  rcases hq with ⟨rfl, hd⟩ | ⟨rfl, hd⟩
  rotate_left
  · exact bX13_addLocker_42 B (fun z => absurd rfl z) (fun _ => bad (fun z => hd z.2.2.2))
  rw [if_neg (fun z => z ⟨ha, hb, hc, hd⟩)]
  refine bX13_addLocker_42 B (fun _ => ?_) (fun z => absurd z ne1)
  clear bad
  revert h1 f1 t1
  generalize au α 896 0 0 = β
  generalize sI S 896 m0 0 = S1
  intro h1 f1 t1
  have n4 := hC.2.1.2
  have en : gI S1 906 m0 = nI (nL α) := (h1.sc 906 (by decide)).trans ((congrFun (f1 906 rfl) 0).trans hC.2.1.1)
  refine bX13_addLocker_51 B h1.1.1 (fun cc => ?_) (fun cc => ?_)
  rotate_left
  · rw [en, show (4 : Int32) = nI 4 from rfl, nI_eq (by omega) (by omega)] at cc
    rw [if_pos cc]
    exact bX13_addLocker_59 B (c_no h1) (Nat.le_of_ble_eq_true rfl) (Nat.le_of_ble_eq_true rfl) h1.1.1 (fun r S' hq => k_wid (Nat.le_of_ble_eq_true rfl) (Nat.le_of_ble_eq_true rfl) (bX13_addLocker_64 B (hq.back f1)))
  rw [en, show (4 : Int32) = nI 4 from rfl, nI_eq (by omega) (by omega)] at cc
  rw [if_neg cc]
  have ek : (nI (nL α)).toNatClampNeg = nL α := nI_clamp (by omega)
  have hin : ∀ {N}, N = 4 → vp_in (nI (nL α)) N := fun e0 => by rw [e0]; exact vp_in_nI (show nL α < 4 by omega) (by decide)
  obtain ⟨a1, a2, a3, a4⟩ := h1.ar 907 (by decide)
  refine bX13_addLocker_65 B h1.1.1 a1 a2 (by rw [en]; exact hin a3) ?_
  rw [en, ek, a4, f1 907 rfl]
  have h2 := h1.setA (F := 907) (by decide) (va_up (α 907) (nL α) ia)
  have en := (gI_sRI S1 (A 907) (va_up (α 907) (nL α) ia) 906 m0).trans en
  revert h2 en
  generalize sRI S1 (A 907) (va_up (α 907) (nL α) ia) = S2
  intro h2 en
  obtain ⟨a1, a2, a3, a4⟩ := h2.ar 908 (by decide)
  refine bX13_addLocker_75 B h2.1.1 a1 a2 (by rw [en]; exact hin a3) ?_
  rw [en, ek, a4, aset_ne (by decide), f1 908 rfl]
  have h3 := h2.setA (F := 908) (by decide) (va_up (α 908) (nL α) ib)
  have en := (gI_sRI S2 (A 908) (va_up (α 908) (nL α) ib) 906 m0).trans en
  revert h3 en
  generalize sRI S2 (A 908) (va_up (α 908) (nL α) ib) = S3
  intro h3 en
  refine bX13_addLocker_85 B (Nat.le_of_ble_eq_true rfl) (Nat.le_of_ble_eq_true rfl) (fun q hq => ?_)
  have hn := h3.kinds hq
  have h4 := MR_nw h3 hq 21 3
  have kq : kd (nw S3 q 21 3) q = 21 := by rw [kd_nw, if_pos rfl]
  have lq : ln (nw S3 q 21 3) q = 3 := by rw [ln_nw, if_pos rfl]
  have rq : rI (nw S3 q 21 3) q = fun _ => 0 := by rw [rI_nw, if_pos rfl]
  have en : gI (nw S3 q 21 3) 906 m0 = nI (nL α) := by rw [gI_nw, if_neg (fun z => hn.1 z.symm)]; exact en
  revert h4 kq lq rq en
  generalize nw S3 q 21 3 = S4
  intro h4 kq lq rq en
  have h6 : ∀ j, j < 3 → vp_in (nI j) (ln S4 q) := fun j hj => by rw [lq]; exact vp_in_nI hj (by decide)
  refine bX13_addLocker_88 B kq (h6 0 (by omega)) (h6 1 (by omega)) (h6 2 (by omega)) ?_
  rw [rq]
  have h5 : MR (sRI S4 q (ownL ic id' ie)) m0 s0 ah A _ := h4.own hn.2.2.2 (ownL ic id' ie)
  have e5 : rI (sRI S4 q (ownL ic id' ie)) q = ownL ic id' ie := by rw [rI_sRI, if_pos rfl]
  have en := (gI_sRI S4 q (ownL ic id' ie) 906 m0).trans en
  have kq5 : kd (sRI S4 q (ownL ic id' ie)) q = 21 := kq
  have lq5 : ln (sRI S4 q (ownL ic id' ie)) q = 3 := lq
  refine k_st (S' := sRI S4 q (ownL ic id' ie)) rfl ?_
  revert h5 e5 en kq5 lq5
  generalize sRI S4 q (ownL ic id' ie) = S5
  intro h5 e5 en kq5 lq5
  obtain ⟨x1, x2, x3, x4⟩ := h5.ar 839 (by decide)
  have e3 : (3 : Int32) * nI (nL α) = nI (3 * nL α) := pk_mul 3 _
  have ec : ((3 : Int32) * nI (nL α)).toNatClampNeg = 3 * nL α := by rw [e3]; exact nI_clamp (by omega)
  have e0 : (0 : Int32).toNatClampNeg = 0 := rfl
  have e33 : (3 : Int32).toNatClampNeg = 3 := rfl
  have x4 : rI S5 (A 839) = α 839 := x4.trans (by rw [aset_ne (by decide), aset_ne (by decide), f1 839 rfl])
  have h7 := (h5.setA (F := 839) (by decide) (va_cpy (ownL ic id' ie) (α 839) 0 (3 * nL α) 3)).setS (F := 906) (by decide) (nI (nL α + 1))
  refine bX13_addLocker_102 B h5.1.1 h5.1.2.2.2.2.1 h5.1.2.1 x1 kq5 x2 (by rw [en, e3]; exact nI_nn (by omega)) (by rw [lq5]; decide) (by rw [en, ec, x3]; show 3 * nL α + 3 ≤ 12; omega) ?_
  rw [en, ec, nI_1, e0, e33, e5, x4]
  refine ⟨by rw [nI_s1 (by omega)]; rfl, _, h7, ?_, au_fr (aset_fr (aset_fr (aset_fr f1 _ _) _ _) _ _) _ _ _⟩
  rw [au_neF (by decide), aset_ne (by decide), aset_ne (by decide), aset_ne (by decide)]; exact t1
end MLK
