def ordA (α : Ab) (h : Nat) (v : Int32) : Ab := aset (aset α 905 (va_up (α 905) (3 * h + cl (α 904 h)) v)) 904 (va_up (α 904) h (α 904 h + 1))
def opOrder (α : Ab) (a b c : Int32) : Out :=
  if ¬ (isIx a (nH α) ∧ ((b = 0 ∧ isIx c (nH α)) ∨ (¬ b = 0 ∧ isIx c (nL α)))) then (1, 0, α)
  else if b = 0 ∧ c = a then (2, 0, α)
  else if α 904 (cl a) = 3 then (3, 0, α)
  else (0, α 904 (cl a) + 1, ordA α (cl a) ((if b = 0 then 200 else 100) + c))
def ownL (c d f : Int32) : Nat → Int32 := va_up (va_up (va_up (fun _ => 0) 0 c) 1 d) 2 f
def locA (α : Ab) (a b c d f : Int32) : Ab := au (aset (aset (aset α 907 (va_up (α 907) (nL α) a)) 908 (va_up (α 908) (nL α) b)) 839 (va_cpy (ownL c d f) (α 839) 0 (3 * nL α) 3)) 906 0 (nI (nL α + 1))
def opLocker (α : Ab) (a b c d f : Int32) : Out := if ¬ ((inR a 0 60 ∧ inR b 0 60) ∧ inR c 0 9 ∧ inR d 0 9 ∧ inR f 0 9) then (1, 0, α) else if nL α = 4 then (2, 0, α) else (0, nI (nL α), locA α a b c d f)
section MOR
variable {l : Launch} {w : Wd} {S : St} {m0 s0 ah : Nat} {A : Nat → Nat}
theorem c_order {α : Ab} {ia ib ic : Int32} (h : MR S m0 s0 ah A α) (hC : AIc α) (hW : AIw α) : ConI l yX13_order (wsOf yX13_order cX13_order 4 (some .int)) rX13_order w S [.ref m0, .int ia, .int ib, .int ic] (PM m0 s0 ah A (opOrder α ia ib ic)) := by
  refine con_I (by decide +kernel) rfl (Nat.le_of_ble_eq_true rfl) (fun p e s m args below meth c B => ?_)
  have h1 : MR (sI S 896 m0 0) m0 s0 ah A (au α 896 0 0) := h.setS (F := 896) (by decide) 0
  have f1 : FrM α (au α 896 0 0) := FrM.th
  have t1 : au α 896 0 0 896 0 = 0 := au_same
  have bad : ¬ (isIx ia (nH α) ∧ ((ib = 0 ∧ isIx ic (nH α)) ∨ (¬ ib = 0 ∧ isIx ic (nL α)))) → K p l e rX13_order s m args below meth c 4 w 0 0 (MQ below (va_Qi (PM m0 s0 ah A (opOrder α ia ib ic)) (fun S' t => Hd w S' t.heap) (wA w)) args s rX13_order.cells rX13_order.slots (wA w)) (sI S 896 m0 0) 36 [(0, .ref m0)] [] := by
    intro hn
    refine bX13_order_36 B (c_no h1) h1.1.1 (fun r S' hq => bX13_order_41 B ?_)
    unfold opOrder
    rw [if_pos hn]
    exact hq.back f1
  refine bX13_order_0 B h.1.1 (c_isHomeNumber h1 (hC.congr f1)) (fun r S' hq => ?_)
  obtain ⟨rfl, hq⟩ := hq
  rw [nH_congr f1] at hq
  rcases hq with ⟨rfl, ha⟩ | ⟨rfl, ha⟩
  rotate_left
  · exact bX13_order_10 B (fun _ => bad (fun z => ha z.1)) (fun z => absurd rfl z)
  refine bX13_order_10 B (fun z => absurd z ne1) (fun _ => ?_)
  -- both ways come here
  have main : ((ib = 0 ∧ isIx ic (nH α)) ∨ (¬ ib = 0 ∧ isIx ic (nL α))) → K p l e rX13_order s m args below meth c 4 w 0 0 (MQ below (va_Qi (PM m0 s0 ah A (opOrder α ia ib ic)) (fun S' t => Hd w S' t.heap) (wA w)) args s rX13_order.cells rX13_order.slots (wA w)) (sI S 896 m0 0) 42 [(0, .ref m0), (1, .int ia), (2, .int ib), (3, .int ic)] [] := by
    intro hor
    unfold opOrder
    rw [if_neg (fun z => z ⟨ha, hor⟩)]
    clear bad
    revert h1 f1 t1
    generalize au α 896 0 0 = β
    generalize sI S 896 m0 0 = S1
    intro h1 f1 t1
    obtain ⟨hm, hh, rfl⟩ := ha.nI
    have n16 := hC.1.2
    have h16 : hm < 16 := by omega
    have eh : (nI hm).toNatClampNeg = hm := nI_clamp (by omega)
    have ho := hW.2.2 hm h16
    obtain ⟨a1, a2, a3, a4⟩ := h1.ar 904 (by decide)
    have hin : vp_in (nI hm) (ln S1 (A 904)) := by rw [a3]; exact vp_in_nI h16 (by decide)
    have ev : rI S1 (A 904) (nI hm).toNatClampNeg = α 904 hm := by rw [a4, eh, f1 904 rfl]
    have rest : ¬ (ib = 0 ∧ ic = nI hm) → K p l e rX13_order s m args below meth c 4 w 0 0 (MQ below (va_Qi (PM m0 s0 ah A (if ib = 0 ∧ ic = nI hm then (2, 0, α) else if α 904 (cl (nI hm)) = 3 then (3, 0, α) else (0, α 904 (cl (nI hm)) + 1, ordA α (cl (nI hm)) ((if ib = 0 then 200 else 100) + ic)))) (fun S' t => Hd w S' t.heap) (wA w)) args s rX13_order.cells rX13_order.slots (wA w)) S1 57 [(0, .ref m0), (1, .int (nI hm)), (2, .int ib), (3, .int ic)] [] := by
      intro hne
      rw [if_neg hne, show cl (nI hm) = hm from eh]
      refine bX13_order_57 B h1.1.1 a1 a2 hin (fun c3 => ?_) (fun c3 => ?_)
      rotate_left
      · rw [ev] at c3
        rw [if_pos c3]
        exact bX13_order_67 B (c_no h1) h1.1.1 (fun r S' hq => bX13_order_72 B (hq.back f1))
      rw [ev] at c3
      rw [if_neg c3]
      have hk3 : cl (α 904 hm) < 3 := by
        have h3 := ho.2.1
        rcases Nat.lt_or_ge (cl (α 904 hm)) 3 with z | z
        · exact z
        · exact absurd (by rw [ho.1, show cl (α 904 hm) = 3 by omega]; rfl) c3
      obtain ⟨b1, b2, b3, b4⟩ := h1.ar 905 (by decide)
      have ei : (3 : Int32) * nI hm + rI S1 (A 904) (nI hm).toNatClampNeg = nI (3 * hm + cl (α 904 hm)) := by
        rw [ev, ho.1, show (3 : Int32) * nI hm = nI (3 * hm) from pk_mul 3 hm, cl_nI (by omega), nI_add]
      have put : ∀ t2 : Int32, t2 = (if ib = 0 then 200 else 100) → K p l e rX13_order s m args below meth c 4 w 0 0 (MQ below (va_Qi (PM m0 s0 ah A (0, α 904 hm + 1, ordA α hm ((if ib = 0 then 200 else 100) + ic))) (fun S' t => Hd w S' t.heap) (wA w)) args s rX13_order.cells rX13_order.slots (wA w)) S1 99 [(0, .ref m0), (1, .int (nI hm)), (3, .int ic)] [.int t2, .int ((3 : Int32) * nI hm + rI S1 (A 904) (nI hm).toNatClampNeg), .ref (A 905)] := by
        intro t2 ht2
        subst ht2
        rw [ei]
        refine bX13_order_99 B b2 (by rw [b3]; exact vp_in_nI (show 3 * hm + cl (α 904 hm) < 48 by omega) (by decide)) ?_
        rw [b4, nI_clamp (show 3 * hm + cl (α 904 hm) < 2 ^ 31 by omega), f1 905 rfl]
        have h2 := h1.setA (F := 905) (by decide) (va_up (α 905) (3 * hm + cl (α 904 hm)) ((if ib = 0 then 200 else 100) + ic))
        revert h2
        generalize sRI S1 (A 905) (va_up (α 905) (3 * hm + cl (α 904 hm)) ((if ib = 0 then 200 else 100) + ic)) = S2
        intro h2
        obtain ⟨d1, d2, d3, d4⟩ := h2.ar 904 (by decide)
        refine bX13_order_102 B h2.1.1 d1 d2 (by rw [d3]; exact vp_in_nI h16 (by decide)) ?_
        rw [d4, eh, aset_ne (by decide), f1 904 rfl]
        have h3 := h2.setA (F := 904) (by decide) (va_up (α 904) hm (α 904 hm + 1))
        obtain ⟨x1, x2, x3, x4⟩ := h3.ar 904 (by decide)
        refine bX13_order_112 B h3.1.1 x1 x2 (by rw [x3]; exact vp_in_nI h16 (by decide)) ?_
        rw [x4, eh, aset_same, va_up_self]
        exact ⟨rfl, _, h3, by rw [aset_ne (by decide), aset_ne (by decide)]; exact t1, aset_fr (aset_fr f1 _ _) _ _⟩
      refine bX13_order_73 B h1.1.1 b1 a1 a2 hin (fun c4 => bX13_order_96 B (put 200 (by rw [if_pos c4]))) (fun c4 => bX13_order_91 B (put 100 (by rw [if_neg c4])))
    refine bX13_order_42 B (fun c1 => rest (fun z => c1 z.1)) (fun c1 => bX13_order_46 B (fun c2 => rest (fun z => c2 z.2)) (fun c2 => ?_))
    rw [if_pos ⟨c1, c2⟩]
    exact bX13_order_51 B (c_no h1) h1.1.1 (fun r S' hq => bX13_order_56 B (hq.back f1))
  refine bX13_order_13 B (fun c1 => ?_) (fun c1 => ?_)
  · refine bX13_order_28 B (c_isHomeNumber h1 (hC.congr f1)) h1.1.1 (fun r S' hq => ?_)
    obtain ⟨rfl, hq⟩ := hq
    rw [nH_congr f1] at hq
    rcases hq with ⟨rfl, hc⟩ | ⟨rfl, hc⟩
    · exact bX13_order_33 B (fun _ => main (Or.inl ⟨c1, hc⟩)) (fun z => absurd z ne1)
    · exact bX13_order_33 B (fun z => absurd rfl z) (fun _ => bad (fun z => z.2.elim (fun y => hc y.2) (fun y => y.1 c1)))
  · refine bX13_order_17 B (c_isLocker h1 (hC.congr f1)) h1.1.1 (fun r S' hq => ?_)
    obtain ⟨rfl, hq⟩ := hq
    rw [nL_congr f1] at hq
    rcases hq with ⟨rfl, hc⟩ | ⟨rfl, hc⟩
    · exact bX13_order_22 B (fun z => absurd z ne1) (fun _ => bX13_order_25 B (main (Or.inr ⟨c1, hc⟩)))
    · exact bX13_order_22 B (fun _ => bad (fun z => z.2.elim (fun y => c1 y.1) (fun y => hc y.2))) (fun z => absurd rfl z)
end MOR
