def parV (α : Ab) (q what : Nat) : Int32 := if what = 0 then α 914 q else if what = 1 then α 915 q else if what = 2 then α 916 q else if what = 3 then α 917 q else if what = 4 then α 918 q else if what = 5 then α 835 q else if what = 6 then α 834 q else if what = 7 then vof α q else α 836 q
theorem parV_congr {α β : Ab} (f : FrM α β) (k what : Nat) : parV β k what = parV α k what := by
  unfold parV; rw [vof_congr f, f 914 rfl, f 915 rfl, f 916 rfl, f 917 rfl, f 918 rfl, f 835 rfl, f 834 rfl, f 836 rfl]
def opTellP (α : Ab) (a b : Int32) : Out := if isIx a (nP α) ∧ isIx b 9 then (0, parV α (cl a) (cl b), α) else (1, 0, α)
/-- more room may be counted as used -/
theorem k_wid {p : Program} {l : Launch} {e : Env} {R : Room} {s : State} {m : MethodId} {args : Array Value} {below : List Frame} {meth : Method} {c : Code} {nL : Nat} {w : Wd} {k n k' n' : Nat} {Q : State → Prop} {S : St} {pc : Nat} {lst : List (Nat × Value)} {st : List Value} (h1 : k ≤ k') (h2 : n ≤ n') (kk : K p l e R s m args below meth c nL w k' n' Q S pc lst st) : K p l e R s m args below meth c nL w k n Q S pc lst st := fun H locs ls a b d => W.widen h1 h2 (kk H locs ls a b d)
section MPT
variable {l : Launch} {w : Wd} {S : St} {m0 s0 ah : Nat} {A : Nat → Nat}
theorem c_home {α : Ab} {ia ib : Int32} (h : MR S m0 s0 ah A α) (hC : AIc α) : ConI l yX13_home (wsOf yX13_home cX13_home 3 (some .int)) rX13_home w S [.ref m0, .int ia, .int ib] (PM m0 s0 ah A (opTellH α ia ib)) := by
  refine con_I (by decide +kernel) rfl (Nat.le_of_ble_eq_true rfl) (fun p e s m args below meth c B => ?_)
  have h1 : MR (sI S 896 m0 0) m0 s0 ah A (au α 896 0 0) := h.setS (F := 896) (by decide) 0
  have f1 : FrM α (au α 896 0 0) := FrM.th
  have bad : ¬ (isIx ia (nH α) ∧ isIx ib 6) → K p l e rX13_home s m args below meth c 3 w 0 0 (MQ below (va_Qi (PM m0 s0 ah A (opTellH α ia ib)) (fun S' t => Hd w S' t.heap) (wA w)) args s rX13_home.cells rX13_home.slots (wA w)) (sI S 896 m0 0) 31 [(0, .ref m0)] [] := by
    intro hn
    refine bX13_home_31 B (c_no h1) (Nat.le_of_ble_eq_true rfl) (Nat.le_of_ble_eq_true rfl) h1.1.1 (fun r S' hq => k_wid (Nat.le_of_ble_eq_true rfl) (Nat.le_of_ble_eq_true rfl) (bX13_home_36 B ?_))
    unfold opTellH
    rw [if_neg hn]
    exact hq.back f1
  refine bX13_home_0 B h.1.1 (c_isHomeNumber h1 (hC.congr f1)) (Nat.le_of_ble_eq_true rfl) (Nat.le_of_ble_eq_true rfl) (fun r S' hq => ?_)
  obtain ⟨rfl, hq⟩ := hq
  rw [nH_congr f1] at hq
  rcases hq with ⟨rfl, ha⟩ | ⟨rfl, ha⟩
  rotate_left
  · exact bX13_home_10 B (fun _ => bad (fun z => ha z.1)) (fun z => absurd rfl z)
  refine bX13_home_10 B (fun z => absurd z ne1) (fun _ => bX13_home_13 B c_isIn (Nat.le_of_ble_eq_true rfl) (Nat.le_of_ble_eq_true rfl) (fun r S' hq => ?_))
  obtain ⟨rfl, hq⟩ := hq
  rw [show (5 : Int32) = nI 5 from rfl, isIn_ix (n := 5) (by omega)] at hq
  rcases hq with ⟨rfl, hb⟩ | ⟨rfl, hb⟩
  rotate_left
  · exact bX13_home_19 B (fun _ => bad (fun z => hb z.2)) (fun z => absurd rfl z)
  refine bX13_home_19 B (fun z => absurd z ne1) (fun _ => ?_)
  unfold opTellH
  rw [if_pos ⟨ha, hb⟩]
  have n16 := hC.1.2
  obtain ⟨k, hk, rfl⟩ := ha.nI
  obtain ⟨u, hu, rfl⟩ := hb.nI
  rw [cl_nI (show k < 1000 by omega), cl_nI (show u < 1000 by omega)]
  refine bX13_home_22 B (c_homeTold h1 (hC.congr f1) (show k < 16 by omega) (by omega)) (Nat.le_of_ble_eq_true rfl) (Nat.le_of_ble_eq_true rfl) h1.1.1 (fun r S' hq => bX13_home_28 B (k_wid (Nat.le_of_ble_eq_true rfl) (Nat.le_of_ble_eq_true rfl) (bX13_home_36 B ?_)))
  obtain ⟨rfl, h2⟩ := hq
  exact PM.rf h2 au_same f1 (homV_congr f1 ..)
theorem c_parcelTold {α : Ab} {k u : Nat} (h : MR S m0 s0 ah A α) (hA : AI1 α) (hk : k < 30) (hu : u < 9) : ConI l yX13_parcelTold (wsOf yX13_parcelTold cX13_parcelTold 4 (some .int)) rX13_parcelTold w S [.ref m0, .int (nI k), .int (nI u)] (fun r S' => r = parV α k u ∧ MR S' m0 s0 ah A α) := by
  refine con_I (by decide +kernel) rfl (Nat.le_of_ble_eq_true rfl) (fun p e s m args below meth c B => ?_)
  refine bX13_parcelTold_0 B (Nat.le_of_ble_eq_true rfl) (Nat.le_of_ble_eq_true rfl) (fun q hq => ?_)
  have hn := h.kinds hq
  have h1 := MR_nw h hq 21 9
  have kq : kd (nw S q 21 9) q = 21 := by rw [kd_nw, if_pos rfl]
  have lq : ln (nw S q 21 9) q = 9 := by rw [ln_nw, if_pos rfl]
  revert h1 kq lq
  generalize nw S q 21 9 = S1
  intro h1 kq lq
  have n1 : ∀ F, mLen F ≠ 0 → ¬ A F = q := fun F hF z => hn.2.2.2 F hF z.symm
  obtain ⟨⟨g1, g2, g3, g4, g5, g6, g7, g8⟩, -⟩ := id h1
  have ek : (nI k).toNatClampNeg = k := nI_clamp (by omega)
  have hin : ∀ {N}, N = 30 → vp_in (nI k) N := fun e0 => by rw [e0]; exact vp_in_nI hk (by decide)
  have h6 : ∀ j, j < 9 → vp_in (nI j) (ln S1 q) := fun j hj => by rw [lq]; exact vp_in_nI hj (by decide)
  obtain ⟨a1, a2, a3, a4⟩ := h1.ar 914 (by decide)
  obtain ⟨b1, b2, b3, b4⟩ := h1.ar 915 (by decide)
  obtain ⟨c1, c2, c3, c4⟩ := h1.ar 916 (by decide)
  obtain ⟨d1, d2, d3, d4⟩ := h1.ar 917 (by decide)
  obtain ⟨x1, x2, x3, x4⟩ := h1.ar 918 (by decide)
  obtain ⟨y1, y2, y3, y4⟩ := h1.ar 835 (by decide)
  obtain ⟨z1, z2, z3, z4⟩ := h1.ar 834 (by decide)
  have m1 := n1 914 (by decide)
  have m2 := n1 915 (by decide)
  have m3 := n1 916 (by decide)
  have m4 := n1 917 (by decide)
  have m5 := n1 918 (by decide)
  have m6 := n1 835 (by decide)
  have m7 := n1 834 (by decide)
  have hm : ∀ g, MR (sRI S1 q g) m0 s0 ah A α := fun g => h1.own hn.2.2.2 g
  refine bX13_parcelTold_4 B g1 a1 a2 (hin a3) kq (h6 0 (by omega)) b1 b2 (hin b3) (h6 1 (by omega)) c1 c2 (hin c3) (h6 2 (by omega)) d1 d2 (hin d3) (h6 3 (by omega)) x1 x2 (hin x3) (h6 4 (by omega)) g5 g2 y1 y2 (hin y3) (h6 5 (by omega)) g5 g2 z1 z2 (hin z3) (h6 6 (by omega)) g5 (c_vof (hm _) hA hk) (Nat.le_of_ble_eq_true rfl) (Nat.le_of_ble_eq_true rfl) g2 (fun r S2 hq2 => ?_)
  obtain ⟨rfl, rfl⟩ := hq2
  simp only [rI_sRI, if_neg m1, if_neg m2, if_neg m3, if_neg m4, if_neg m5, if_neg m6, if_neg m7, a4, b4, c4, d4, x4, y4, z4, ek]
  obtain ⟨u1, u2, u3, u4⟩ := h1.ar 836 (by decide)
  have m8 := n1 836 (by decide)
  refine bX13_parcelTold_85 B kq (h6 7 (by omega)) g1 g5 g2 u1 u2 (hin u3) kq (h6 8 (by omega)) ?_
  simp only [rI_sRI, if_neg m8, u4, ek, sRI_sRI, if_true]
  refine bX13_parcelTold_99 B kq (h6 u hu) ⟨?_, hm _⟩
  rw [rI_sRI, if_pos rfl, nI_clamp (show u < 2 ^ 31 by omega)]
  have hu6 : u = 0 ∨ u = 1 ∨ u = 2 ∨ u = 3 ∨ u = 4 ∨ u = 5 ∨ u = 6 ∨ u = 7 ∨ u = 8 := by omega
  rcases hu6 with rfl | rfl | rfl | rfl | rfl | rfl | rfl | rfl | rfl <;> rfl
end MPT
