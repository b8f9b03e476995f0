section MH2
variable {l : Launch} {w : Wd} {S : St} {m0 s0 ah : Nat} {A : Nat → Nat}
theorem c_homeTold {α : Ab} {k u : Nat} (h : MR S m0 s0 ah A α) (hC : AIc α) (hk : k < 16) (hu : u < 6) : ConI l yX13_homeTold (wsOf yX13_homeTold cX13_homeTold 6 (some .int)) rX13_homeTold w S [.ref m0, .int (nI k), .int (nI u)] (fun r S' => r = homV α k u ∧ MR S' m0 s0 ah A α) := by
  refine con_I (by decide +kernel) rfl (Nat.le_of_ble_eq_true rfl) (fun p e s m args below meth c B => ?_)
  refine bX13_homeTold_0 B (l_homeTold B h hC ?_ (nP α) 0 (by omega))
  refine bX13_homeTold_93 B (Nat.le_of_ble_eq_true rfl) (Nat.le_of_ble_eq_true rfl) (fun q hq => ?_)
  have hn := h.kinds hq
  have h1 := MR_nw h hq 21 6
  have kq : kd (nw S q 21 6) q = 21 := by rw [kd_nw, if_pos rfl]
  have lq : ln (nw S q 21 6) q = 6 := by rw [ln_nw, if_pos rfl]
  revert h1 kq lq
  generalize nw S q 21 6 = S1
  intro h1 kq lq
  obtain ⟨a1, a2, a3, a4⟩ := h1.ar 901 (by decide)
  obtain ⟨b1, b2, b3, b4⟩ := h1.ar 902 (by decide)
  obtain ⟨c1, c2, c3, c4⟩ := h1.ar 903 (by decide)
  obtain ⟨d1, d2, d3, d4⟩ := h1.ar 904 (by decide)
  have n1 : ¬ A 901 = q := fun z => hn.2.2.2 901 (by decide) z.symm
  have n2 : ¬ A 902 = q := fun z => hn.2.2.2 902 (by decide) z.symm
  have n3 : ¬ A 903 = q := fun z => hn.2.2.2 903 (by decide) z.symm
  have n4 : ¬ A 904 = q := fun z => hn.2.2.2 904 (by decide) z.symm
  have ek : (nI k).toNatClampNeg = k := nI_clamp (by omega)
  have hin : ∀ {N}, N = 16 → vp_in (nI k) N := fun e0 => by rw [e0]; exact vp_in_nI hk (by decide)
  have h6 : ∀ j, j < 6 → vp_in (nI j) (ln S1 q) := fun j hj => by rw [lq]; exact vp_in_nI hj (by decide)
  refine bX13_homeTold_97 B h1.1.1 a1 a2 (hin a3) kq (h6 0 (by omega)) b1 b2 (hin b3) (h6 1 (by omega)) c1 c2 (hin c3) (h6 2 (by omega)) d1 d2 (hin d3) (h6 3 (by omega)) (h6 4 (by omega)) (h6 5 (by omega)) ?_
  simp only [rI_sRI, if_neg n1, if_neg n2, if_neg n3, if_neg n4, a4, b4, c4, d4, ek]
  have hm : ∀ g, MR (sRI S1 q g) m0 s0 ah A α := fun g => h1.own hn.2.2.2 g
  refine bX13_homeTold_142 B kq (h6 u hu) ⟨?_, hm _⟩
  rw [rI_sRI, if_pos rfl, nI_clamp (show u < 2 ^ 31 by omega)]
  have hu6 : u = 0 ∨ u = 1 ∨ u = 2 ∨ u = 3 ∨ u = 4 ∨ u = 5 := by omega
  rcases hu6 with rfl | rfl | rfl | rfl | rfl | rfl <;> rfl
end MH2
