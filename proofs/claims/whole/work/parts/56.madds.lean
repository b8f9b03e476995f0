/-! OWN ARRAYS: the picture stays when a new cell is made and written -/
theorem MR.kinds {S : St} {m s ah : Nat} {A : Nat → Nat} {α : Ab} (h : MR S m s ah A α) {q : Nat} (hq : kd S q = 0) : q ≠ m ∧ q ≠ s ∧ q ≠ ah ∧ ∀ F, mLen F ≠ 0 → q ≠ A F := by
  obtain ⟨⟨g1, g2, g3, -⟩, h2, -⟩ := h
  exact ⟨fun z => by rw [z, g1] at hq; omega, fun z => by rw [z, g2] at hq; omega, fun z => by rw [z, g3] at hq; omega, fun F hF z => by rw [z, (h2 F hF).2.1] at hq; omega⟩
theorem mOwn_ne {q m s ah F : Nat} (h1 : q ≠ m) (h2 : q ≠ s) (h3 : q ≠ ah) : mOwn m s ah F ≠ q := by
  unfold mOwn
  split
  · exact fun z => h2 z.symm
  · split
    · exact fun z => h1 z.symm
    · exact fun z => h3 z.symm
theorem MR_nw {S : St} {m s ah : Nat} {A : Nat → Nat} {α : Ab} (h : MR S m s ah A α) {q : Nat} (hq : kd S q = 0) (k n : Nat) : MR (nw S q k n) m s ah A α := by
  show MR (nw S q k n) m s ah A α
  obtain ⟨k1, k2, k3, k4⟩ := h.kinds hq
  obtain ⟨⟨g1, g2, g3, g4, g5, g6, g7, g8⟩, h2, h3, h4⟩ := h
  refine ⟨⟨?_, ?_, ?_, g4, ?_, ?_, ?_, ?_⟩, fun F hF => ?_, h3, fun F hF => ?_⟩
  · show kd (nw S q k n) m = _; rw [kd_nw, if_neg (fun z => k1 z.symm)]; exact g1
  · show kd (nw S q k n) s = _; rw [kd_nw, if_neg (fun z => k2 z.symm)]; exact g2
  · show kd (nw S q k n) ah = _; rw [kd_nw, if_neg (fun z => k3 z.symm)]; exact g3
  · show gP (nw S q k n) _ m = _; rw [gP_nw, if_neg (fun z => k1 z.symm)]; exact g5
  · show gP (nw S q k n) _ m = _; rw [gP_nw, if_neg (fun z => k1 z.symm)]; exact g6
  · show gP (nw S q k n) _ s = _; rw [gP_nw, if_neg (fun z => k2 z.symm)]; exact g7
  · show gP (nw S q k n) _ ah = _; rw [gP_nw, if_neg (fun z => k3 z.symm)]; exact g8
  · obtain ⟨a1, a2, a3, a4⟩ := h2 F hF
    have hA := k4 F hF
    refine ⟨?_, ?_, ?_, ?_⟩
    · show gP (nw S q k n) _ _ = _; rw [gP_nw, if_neg (mOwn_ne k1 k2 k3)]; exact a1
    · show kd (nw S q k n) _ = _; rw [kd_nw, if_neg (fun z => hA z.symm)]; exact a2
    · show ln (nw S q k n) _ = _; rw [ln_nw, if_neg (fun z => hA z.symm)]; exact a3
    · show rI (nw S q k n) _ = _; rw [rI_nw, if_neg (fun z => hA z.symm)]; exact a4
  · show gI (nw S q k n) _ _ = _; rw [gI_nw, if_neg (mOwn_ne k1 k2 k3)]; exact h4 F hF
theorem MR.own {S : St} {m s ah : Nat} {A : Nat → Nat} {α : Ab} (h : MR S m s ah A α) {q : Nat} (hq : ∀ F, mLen F ≠ 0 → q ≠ A F) (g : Nat → Int32) : MR (sRI S q g) m s ah A α := by
  obtain ⟨h1, h2, h3, h4⟩ := h
  refine ⟨h1, fun F hF => ?_, h3, fun F hF => by rw [gI_sRI]; exact h4 F hF⟩
  obtain ⟨a1, a2, a3, a4⟩ := h2 F hF
  exact ⟨a1, a2, a3, by rw [rI_sRI, if_neg (fun z => hq F hF z.symm)]; exact a4⟩
def parA (α : Ab) (a b c d f : Int32) : Ab := au (aset (aset (aset (aset (aset (aset α 914 (va_up (α 914) (nP α) a)) 915 (va_up (α 915) (nP α) b)) 916 (va_up (α 916) (nP α) c)) 917 (va_up (α 917) (nP α) d)) 918 (va_up (α 918) (nP α) f)) 836 (va_up (α 836) (nP α) (-1))) 913 0 (nI (nP α + 1))
def opParcel (α : Ab) (a b c d f : Int32) : Out := if ¬ (inR a 0 2 ∧ inR b 1 40 ∧ inR d 0 1439 ∧ inR f d 1439) then (1, 0, α) else if ¬ isIx c (nH α) then (2, 0, α) else if nP α = 30 then (3, 0, α) else (0, nI (nP α), parA α a b c d f)
section MAD
variable {l : Launch} {w : Wd} {S : St} {m0 s0 ah : Nat} {A : Nat → Nat}
theorem c_addParcel {α : Ab} {ia ib ic id' ie : Int32} (h : MR S m0 s0 ah A α) (hC : AIc α) : ConI l yX13_addParcel (wsOf yX13_addParcel cX13_addParcel 6 (some .int)) rX13_addParcel w S [.ref m0, .int ia, .int ib, .int ic, .int id', .int ie] (PM m0 s0 ah A (opParcel α ia ib ic id' ie)) := by
  refine con_I (by decide +kernel) rfl (Nat.le_of_ble_eq_true rfl) (fun p e s m args below meth c B => ?_)
  have h1 : MR (sI S 896 m0 0) m0 s0 ah A (au α 896 0 0) := h.setS (F := 896) (by decide) 0
  have f1 : FrM α (au α 896 0 0) := FrM.th
  have t1 : au α 896 0 0 896 0 = 0 := au_same
  unfold opParcel
  have bad : ¬ (inR ia 0 2 ∧ inR ib 1 40 ∧ inR id' 0 1439 ∧ inR ie id' 1439) → K p l e rX13_addParcel s m args below meth c 6 w 0 0 (MQ below (va_Qi (PM m0 s0 ah A (if ¬ (inR ia 0 2 ∧ inR ib 1 40 ∧ inR id' 0 1439 ∧ inR ie id' 1439) then (1, 0, α) else if ¬ isIx ic (nH α) then (2, 0, α) else if nP α = 30 then (3, 0, α) else (0, nI (nP α), parA α ia ib ic id' ie))) (fun S' t => Hd w S' t.heap) (wA w)) args s rX13_addParcel.cells rX13_addParcel.slots (wA w)) (sI S 896 m0 0) 49 [(0, .ref m0)] [] := by
    intro hn
    rw [if_pos hn]
    exact bX13_addParcel_49 B (c_no h1) h1.1.1 (fun r S' hq => bX13_addParcel_54 B (hq.back f1))
  refine bX13_addParcel_0 B h.1.1 c_isIn (fun r S' hq => ?_)
  obtain ⟨rfl, hq⟩ := hq
  rcases hq with ⟨rfl, ha⟩ | ⟨rfl, ha⟩
  rotate_left
  · exact bX13_addParcel_11 B (fun _ => bad (fun z => ha z.1)) (fun z => absurd rfl z)
  refine bX13_addParcel_11 B (fun z => absurd z ne1) (fun _ => bX13_addParcel_14 B c_isIn (fun r S' hq => ?_))
  obtain ⟨rfl, hq⟩ := hq
  rcases hq with ⟨rfl, hb⟩ | ⟨rfl, hb⟩
  rotate_left
  · exact bX13_addParcel_21 B (fun _ => bad (fun z => hb z.2.1)) (fun z => absurd rfl z)
  refine bX13_addParcel_21 B (fun z => absurd z ne1) (fun _ => bX13_addParcel_24 B c_isIn (fun r S' hq => ?_))
  obtain ⟨rfl, hq⟩ := hq
  rcases hq with ⟨rfl, hd⟩ | ⟨rfl, hd⟩
  rotate_left
  · exact bX13_addParcel_33 B (fun _ => bad (fun z => hd z.2.2.1)) (fun z => absurd rfl z)
  refine bX13_addParcel_33 B (fun z => absurd z ne1) (fun _ => bX13_addParcel_36 B c_isIn (fun r S' hq => ?_))
  obtain ⟨rfl, hq⟩ := hq
  rcases hq with ⟨rfl, he⟩ | ⟨rfl, he⟩
  rotate_left
  · exact bX13_addParcel_46 B (fun z => absurd rfl z) (fun _ => bad (fun z => he z.2.2.2))
  rw [if_neg (fun z => z ⟨ha, hb, hd, he⟩)]
  refine bX13_addParcel_46 B (fun _ => ?_) (fun z => absurd z ne1)
  clear bad
  revert h1 f1 t1
  generalize au α 896 0 0 = β
  generalize sI S 896 m0 0 = S1
  intro h1 f1 t1
  refine bX13_addParcel_55 B (c_isHomeNumber h1 (hC.congr f1)) h1.1.1 (fun r S' hq => ?_)
  obtain ⟨rfl, hq⟩ := hq
  rw [nH_congr f1] at hq
  rcases hq with ⟨rfl, hc⟩ | ⟨rfl, hc⟩
  rotate_left
  · rw [if_pos hc]
    exact bX13_addParcel_60 B (fun z => absurd rfl z) (fun _ => bX13_addParcel_63 B (c_no h1) h1.1.1 (fun r S' hq => bX13_addParcel_68 B (hq.back f1)))
  rw [if_neg (fun z => z hc)]
  refine bX13_addParcel_60 B (fun _ => ?_) (fun z => absurd z ne1)
  have n30 := hC.2.2.2.2
  have en : gI S1 913 m0 = nI (nP α) := (h1.sc 913 (by decide)).trans ((congrFun (f1 913 rfl) 0).trans hC.2.2.2.1)
  refine bX13_addParcel_69 B h1.1.1 (fun cc => ?_) (fun cc => ?_)
  rotate_left
  · rw [en, show (30 : Int32) = nI 30 from rfl, nI_eq (by omega) (by omega)] at cc
    rw [if_pos cc]
    exact bX13_addParcel_78 B (c_no h1) h1.1.1 (fun r S' hq => bX13_addParcel_83 B (hq.back f1))
  rw [en, show (30 : Int32) = nI 30 from rfl, nI_eq (by omega) (by omega)] at cc
  rw [if_neg cc]
  have ek : (nI (nP α)).toNatClampNeg = nP α := nI_clamp (by omega)
  have hin : ∀ {N}, N = 30 → vp_in (nI (nP α)) N := fun e0 => by rw [e0]; exact vp_in_nI (show nP α < 30 by omega) (by decide)
  obtain ⟨a1, a2, a3, a4⟩ := h1.ar 914 (by decide)
  refine bX13_addParcel_84 B h1.1.1 a1 a2 (by rw [en]; exact hin a3) ?_
  rw [en, ek, a4, f1 914 rfl]
  have h2 := h1.setA (F := 914) (by decide) (va_up (α 914) (nP α) ia)
  have en := (gI_sRI S1 (A 914) (va_up (α 914) (nP α) ia) 913 m0).trans en
  revert h2 en
  generalize sRI S1 (A 914) (va_up (α 914) (nP α) ia) = S2
  intro h2 en
  obtain ⟨a1, a2, a3, a4⟩ := h2.ar 915 (by decide)
  refine bX13_addParcel_94 B h2.1.1 a1 a2 (by rw [en]; exact hin a3) ?_
  rw [en, ek, a4, aset_ne (by decide), f1 915 rfl]
  have h3 := h2.setA (F := 915) (by decide) (va_up (α 915) (nP α) ib)
  have en := (gI_sRI S2 (A 915) (va_up (α 915) (nP α) ib) 913 m0).trans en
  revert h3 en
  generalize sRI S2 (A 915) (va_up (α 915) (nP α) ib) = S3
  intro h3 en
  obtain ⟨a1, a2, a3, a4⟩ := h3.ar 916 (by decide)
  refine bX13_addParcel_104 B h3.1.1 a1 a2 (by rw [en]; exact hin a3) ?_
  rw [en, ek, a4, aset_ne (by decide), aset_ne (by decide), f1 916 rfl]
  have h4 := h3.setA (F := 916) (by decide) (va_up (α 916) (nP α) ic)
  have en := (gI_sRI S3 (A 916) (va_up (α 916) (nP α) ic) 913 m0).trans en
  revert h4 en
  generalize sRI S3 (A 916) (va_up (α 916) (nP α) ic) = S4
  intro h4 en
  obtain ⟨a1, a2, a3, a4⟩ := h4.ar 917 (by decide)
  refine bX13_addParcel_114 B h4.1.1 a1 a2 (by rw [en]; exact hin a3) ?_
  rw [en, ek, a4, aset_ne (by decide), aset_ne (by decide), aset_ne (by decide), f1 917 rfl]
  have h5 := h4.setA (F := 917) (by decide) (va_up (α 917) (nP α) id')
  have en := (gI_sRI S4 (A 917) (va_up (α 917) (nP α) id') 913 m0).trans en
  revert h5 en
  generalize sRI S4 (A 917) (va_up (α 917) (nP α) id') = S5
  intro h5 en
  obtain ⟨a1, a2, a3, a4⟩ := h5.ar 918 (by decide)
  refine bX13_addParcel_125 B h5.1.1 a1 a2 (by rw [en]; exact hin a3) ?_
  rw [en, ek, a4, aset_ne (by decide), aset_ne (by decide), aset_ne (by decide), aset_ne (by decide), f1 918 rfl]
  have h6 := h5.setA (F := 918) (by decide) (va_up (α 918) (nP α) ie)
  have en := (gI_sRI S5 (A 918) (va_up (α 918) (nP α) ie) 913 m0).trans en
  revert h6 en
  generalize sRI S5 (A 918) (va_up (α 918) (nP α) ie) = S6
  intro h6 en
  obtain ⟨a1, a2, a3, a4⟩ := h6.ar 836 (by decide)
  refine bX13_addParcel_136 B h6.1.1 h6.1.2.2.2.2.1 h6.1.2.1 a1 a2 (by rw [en]; exact hin a3) ?_
  rw [en, ek, a4, aset_ne (by decide), aset_ne (by decide), aset_ne (by decide), aset_ne (by decide), aset_ne (by decide), f1 836 rfl]
  have h7 := h6.setA (F := 836) (by decide) (va_up (α 836) (nP α) (-1))
  have en := (gI_sRI S6 (A 836) (va_up (α 836) (nP α) (-1)) 913 m0).trans en
  refine bX13_addParcel_149 B h7.1.1 ?_
  rw [en, nI_1]
  refine ⟨by rw [nI_s1 (by omega)]; rfl, _, h7.setS (F := 913) (by decide) (nI (nP α + 1)), ?_, au_fr (aset_fr (aset_fr (aset_fr (aset_fr (aset_fr (aset_fr f1 _ _) _ _) _ _) _ _) _ _) _ _) _ _ _⟩
  rw [au_neF (by decide), aset_ne (by decide), aset_ne (by decide), aset_ne (by decide), aset_ne (by decide), aset_ne (by decide), aset_ne (by decide)]; exact t1
end MAD
