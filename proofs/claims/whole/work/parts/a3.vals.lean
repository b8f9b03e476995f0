/-! WHAT ADDING makes of the numbers: locker, van, parcel -/
section ADDL
variable {α : Ab} {x y z1 z2 z3 : Int32}
theorem locF {F : Nat} (h0 : F ≠ 906) (h1 : F ≠ 907) (h2 : F ≠ 908) (h3 : F ≠ 839) : locA α x y z1 z2 z3 F = α F := by unfold locA; rw [au_neF h0, aset_ne h3, aset_ne h2, aset_ne h1]
theorem loc0 : locA α x y z1 z2 z3 906 0 = nI (nL α + 1) := au_same
theorem loc1 : locA α x y z1 z2 z3 907 = va_up (α 907) (nL α) x := by unfold locA; rw [au_neF (by decide), aset_ne (by decide), aset_ne (by decide), aset_same]
theorem loc2 : locA α x y z1 z2 z3 908 = va_up (α 908) (nL α) y := by unfold locA; rw [au_neF (by decide), aset_ne (by decide), aset_same]
theorem loc3 : locA α x y z1 z2 z3 839 = va_cpy (ownL z1 z2 z3) (α 839) 0 (3 * nL α) 3 := by unfold locA; rw [au_neF (by decide), aset_same]
theorem locN (hn : nL α < 4) : nH (locA α x y z1 z2 z3) = nH α ∧ nL (locA α x y z1 z2 z3) = nL α + 1 ∧ nV (locA α x y z1 z2 z3) = nV α ∧ nP (locA α x y z1 z2 z3) = nP α := by
  refine ⟨?_, ?_, ?_, ?_⟩
  · unfold nH; rw [locF (by decide) (by decide) (by decide) (by decide)]
  · unfold nL; rw [loc0]; exact nI_clamp (by omega)
  · unfold nV; rw [locF (by decide) (by decide) (by decide) (by decide)]
  · unfold nP; rw [locF (by decide) (by decide) (by decide) (by decide)]
theorem locVI (hn : nL α < 4) : VIo α (locA α x y z1 z2 z3) ∧ ∀ q, q < nP α → vof (locA α x y z1 z2 z3) q = vof α q := by
  have hF : ∀ F, F ≠ 906 → F ≠ 907 → F ≠ 908 → F ≠ 839 → locA α x y z1 z2 z3 F = α F := fun F => locF
  refine ⟨⟨?_, fun i hi => ?_, fun i hi => ?_, fun i hi => ?_, fun i hi => ?_⟩, fun q hq => ?_⟩
  · rw [hF 897 (by decide) (by decide) (by decide) (by decide), hF 898 (by decide) (by decide) (by decide) (by decide), hF 899 (by decide) (by decide) (by decide) (by decide), hF 832 (by decide) (by decide) (by decide) (by decide)]; exact ⟨rfl, rfl, rfl, rfl⟩
  · rw [hF 901 (by decide) (by decide) (by decide) (by decide), hF 902 (by decide) (by decide) (by decide) (by decide), hF 903 (by decide) (by decide) (by decide) (by decide), hF 904 (by decide) (by decide) (by decide) (by decide), hF 905 (by decide) (by decide) (by decide) (by decide)]; exact ⟨rfl, rfl, rfl, rfl, fun _ _ => rfl⟩
  · rw [loc1, loc2, loc3, va_up_ne _ _ (by omega), va_up_ne _ _ (by omega)]; exact ⟨rfl, rfl, fun b hb => by rw [pk_cpy_out (by omega)]⟩
  · unfold mny rwf; rw [hF 910 (by decide) (by decide) (by decide) (by decide), hF 911 (by decide) (by decide) (by decide) (by decide), hF 912 (by decide) (by decide) (by decide) (by decide), hF 840 (by decide) (by decide) (by decide) (by decide), hF 841 (by decide) (by decide) (by decide) (by decide)]; exact ⟨rfl, rfl, rfl, rfl, fun _ _ => rfl⟩
  · rw [hF 914 (by decide) (by decide) (by decide) (by decide), hF 915 (by decide) (by decide) (by decide) (by decide), hF 916 (by decide) (by decide) (by decide) (by decide), hF 917 (by decide) (by decide) (by decide) (by decide), hF 918 (by decide) (by decide) (by decide) (by decide), hF 834 (by decide) (by decide) (by decide) (by decide), hF 835 (by decide) (by decide) (by decide) (by decide), hF 836 (by decide) (by decide) (by decide) (by decide), hF 837 (by decide) (by decide) (by decide) (by decide), hF 838 (by decide) (by decide) (by decide) (by decide)]; exact ⟨⟨rfl, rfl, rfl, rfl, rfl⟩, rfl, rfl, rfl, rfl, rfl⟩
  · unfold vof
    rw [(locN hn).2.2.1]
    exact vofN_ext (fun v _ => by unfold mny; rw [hF 840 (by decide) (by decide) (by decide) (by decide)]) (fun v i _ _ => by unfold rwf; rw [hF 841 (by decide) (by decide) (by decide) (by decide)])
end ADDL
section ADDV
variable {α : Ab} {x y z : Int32}
theorem vanF {F : Nat} (h0 : F ≠ 909) (h1 : F ≠ 910) (h2 : F ≠ 911) (h3 : F ≠ 912) : vanA α x y z F = α F := by unfold vanA; rw [au_neF h0, aset_ne h3, aset_ne h2, aset_ne h1]
theorem van0 : vanA α x y z 909 0 = nI (nV α + 1) := au_same
theorem van1 : vanA α x y z 910 = va_up (α 910) (nV α) x := by unfold vanA; rw [au_neF (by decide), aset_ne (by decide), aset_ne (by decide), aset_same]
theorem van2 : vanA α x y z 911 = va_up (α 911) (nV α) y := by unfold vanA; rw [au_neF (by decide), aset_ne (by decide), aset_same]
theorem van3 : vanA α x y z 912 = va_up (α 912) (nV α) z := by unfold vanA; rw [au_neF (by decide), aset_same]
theorem vanN (hn : nV α < 4) : nH (vanA α x y z) = nH α ∧ nL (vanA α x y z) = nL α ∧ nV (vanA α x y z) = nV α + 1 ∧ nP (vanA α x y z) = nP α := by
  refine ⟨?_, ?_, ?_, ?_⟩
  · unfold nH; rw [vanF (by decide) (by decide) (by decide) (by decide)]
  · unfold nL; rw [vanF (by decide) (by decide) (by decide) (by decide)]
  · unfold nV; rw [van0]; exact nI_clamp (by omega)
  · unfold nP; rw [vanF (by decide) (by decide) (by decide) (by decide)]
theorem vanVI (hA : AI1 α) (hn : nV α < 4) : VIo α (vanA α x y z) ∧ ∀ q, q < nP α → vof (vanA α x y z) q = vof α q := by
  have hF : ∀ F, F ≠ 909 → F ≠ 910 → F ≠ 911 → F ≠ 912 → vanA α x y z F = α F := fun F => vanF
  refine ⟨⟨?_, fun i hi => ?_, fun i hi => ?_, fun i hi => ?_, fun i hi => ?_⟩, fun q hq => ?_⟩
  · rw [hF 897 (by decide) (by decide) (by decide) (by decide), hF 898 (by decide) (by decide) (by decide) (by decide), hF 899 (by decide) (by decide) (by decide) (by decide), hF 832 (by decide) (by decide) (by decide) (by decide)]; exact ⟨rfl, rfl, rfl, rfl⟩
  · rw [hF 901 (by decide) (by decide) (by decide) (by decide), hF 902 (by decide) (by decide) (by decide) (by decide), hF 903 (by decide) (by decide) (by decide) (by decide), hF 904 (by decide) (by decide) (by decide) (by decide), hF 905 (by decide) (by decide) (by decide) (by decide)]; exact ⟨rfl, rfl, rfl, rfl, fun _ _ => rfl⟩
  · rw [hF 907 (by decide) (by decide) (by decide) (by decide), hF 908 (by decide) (by decide) (by decide) (by decide), hF 839 (by decide) (by decide) (by decide) (by decide)]; exact ⟨rfl, rfl, fun _ _ => rfl⟩
  · unfold mny rwf; rw [van1, van2, van3, va_up_ne _ _ (by omega), va_up_ne _ _ (by omega), va_up_ne _ _ (by omega), hF 840 (by decide) (by decide) (by decide) (by decide), hF 841 (by decide) (by decide) (by decide) (by decide)]; exact ⟨rfl, rfl, rfl, rfl, fun _ _ => rfl⟩
  · rw [hF 914 (by decide) (by decide) (by decide) (by decide), hF 915 (by decide) (by decide) (by decide) (by decide), hF 916 (by decide) (by decide) (by decide) (by decide), hF 917 (by decide) (by decide) (by decide) (by decide), hF 918 (by decide) (by decide) (by decide) (by decide), hF 834 (by decide) (by decide) (by decide) (by decide), hF 835 (by decide) (by decide) (by decide) (by decide), hF 836 (by decide) (by decide) (by decide) (by decide), hF 837 (by decide) (by decide) (by decide) (by decide), hF 838 (by decide) (by decide) (by decide) (by decide)]; exact ⟨⟨rfl, rfl, rfl, rfl, rfl⟩, rfl, rfl, rfl, rfl, rfl⟩
  · unfold vof
    rw [(vanN hn).2.2.1]
    show (if vIn (vanA α x y z) q (nV α) (mny (vanA α x y z) (nV α)) = true then nI (nV α) else vofN (vanA α x y z) q (nV α)) = vofN α q (nV α)
    have e0 : mny (vanA α x y z) (nV α) = 0 := by
      have := hA.2.2.2.1 (nV α) (Nat.le_refl _) hn
      unfold mny at this ⊢
      rw [hF 840 (by decide) (by decide) (by decide) (by decide)]; exact this
    rw [e0, show vIn (vanA α x y z) q (nV α) 0 = false from rfl, if_neg (by decide)]
    exact vofN_ext (fun v _ => by unfold mny; rw [hF 840 (by decide) (by decide) (by decide) (by decide)]) (fun v i _ _ => by unfold rwf; rw [hF 841 (by decide) (by decide) (by decide) (by decide)])
end ADDV
section ADDP
variable {α : Ab} {x1 x2 x3 x4 x5 : Int32}
theorem parF {F : Nat} (h0 : F ≠ 913) (h1 : F ≠ 914) (h2 : F ≠ 915) (h3 : F ≠ 916) (h4 : F ≠ 917) (h5 : F ≠ 918) (h6 : F ≠ 836) : parA α x1 x2 x3 x4 x5 F = α F := by unfold parA; rw [au_neF h0, aset_ne h6, aset_ne h5, aset_ne h4, aset_ne h3, aset_ne h2, aset_ne h1]
theorem par0 : parA α x1 x2 x3 x4 x5 913 0 = nI (nP α + 1) := au_same
theorem par1 : parA α x1 x2 x3 x4 x5 914 = va_up (α 914) (nP α) x1 := by unfold parA; rw [au_neF (by decide), aset_ne (by decide), aset_ne (by decide), aset_ne (by decide), aset_ne (by decide), aset_ne (by decide), aset_same]
theorem par2 : parA α x1 x2 x3 x4 x5 915 = va_up (α 915) (nP α) x2 := by unfold parA; rw [au_neF (by decide), aset_ne (by decide), aset_ne (by decide), aset_ne (by decide), aset_ne (by decide), aset_same]
theorem par3 : parA α x1 x2 x3 x4 x5 916 = va_up (α 916) (nP α) x3 := by unfold parA; rw [au_neF (by decide), aset_ne (by decide), aset_ne (by decide), aset_ne (by decide), aset_same]
theorem par4 : parA α x1 x2 x3 x4 x5 917 = va_up (α 917) (nP α) x4 := by unfold parA; rw [au_neF (by decide), aset_ne (by decide), aset_ne (by decide), aset_same]
theorem par5 : parA α x1 x2 x3 x4 x5 918 = va_up (α 918) (nP α) x5 := by unfold parA; rw [au_neF (by decide), aset_ne (by decide), aset_same]
theorem par6 : parA α x1 x2 x3 x4 x5 836 = va_up (α 836) (nP α) (-1) := by unfold parA; rw [au_neF (by decide), aset_same]
theorem parN (hn : nP α < 30) : nH (parA α x1 x2 x3 x4 x5) = nH α ∧ nL (parA α x1 x2 x3 x4 x5) = nL α ∧ nV (parA α x1 x2 x3 x4 x5) = nV α ∧ nP (parA α x1 x2 x3 x4 x5) = nP α + 1 := by
  refine ⟨?_, ?_, ?_, ?_⟩
  · unfold nH; rw [parF (by decide) (by decide) (by decide) (by decide) (by decide) (by decide) (by decide)]
  · unfold nL; rw [parF (by decide) (by decide) (by decide) (by decide) (by decide) (by decide) (by decide)]
  · unfold nV; rw [parF (by decide) (by decide) (by decide) (by decide) (by decide) (by decide) (by decide)]
  · unfold nP; rw [par0]; exact nI_clamp (by omega)
theorem parVI (hn : nP α < 30) : VIo α (parA α x1 x2 x3 x4 x5) ∧ ∀ q, q < nP α → vof (parA α x1 x2 x3 x4 x5) q = vof α q := by
  have hF : ∀ F, F ≠ 913 → F ≠ 914 → F ≠ 915 → F ≠ 916 → F ≠ 917 → F ≠ 918 → F ≠ 836 → parA α x1 x2 x3 x4 x5 F = α F := fun F => parF
  refine ⟨⟨?_, fun i hi => ?_, fun i hi => ?_, fun i hi => ?_, fun i hi => ?_⟩, fun q hq => ?_⟩
  · rw [hF 897 (by decide) (by decide) (by decide) (by decide) (by decide) (by decide) (by decide), hF 898 (by decide) (by decide) (by decide) (by decide) (by decide) (by decide) (by decide), hF 899 (by decide) (by decide) (by decide) (by decide) (by decide) (by decide) (by decide), hF 832 (by decide) (by decide) (by decide) (by decide) (by decide) (by decide) (by decide)]; exact ⟨rfl, rfl, rfl, rfl⟩
  · rw [hF 901 (by decide) (by decide) (by decide) (by decide) (by decide) (by decide) (by decide), hF 902 (by decide) (by decide) (by decide) (by decide) (by decide) (by decide) (by decide), hF 903 (by decide) (by decide) (by decide) (by decide) (by decide) (by decide) (by decide), hF 904 (by decide) (by decide) (by decide) (by decide) (by decide) (by decide) (by decide), hF 905 (by decide) (by decide) (by decide) (by decide) (by decide) (by decide) (by decide)]; exact ⟨rfl, rfl, rfl, rfl, fun _ _ => rfl⟩
  · rw [hF 907 (by decide) (by decide) (by decide) (by decide) (by decide) (by decide) (by decide), hF 908 (by decide) (by decide) (by decide) (by decide) (by decide) (by decide) (by decide), hF 839 (by decide) (by decide) (by decide) (by decide) (by decide) (by decide) (by decide)]; exact ⟨rfl, rfl, fun _ _ => rfl⟩
  · unfold mny rwf; rw [hF 910 (by decide) (by decide) (by decide) (by decide) (by decide) (by decide) (by decide), hF 911 (by decide) (by decide) (by decide) (by decide) (by decide) (by decide) (by decide), hF 912 (by decide) (by decide) (by decide) (by decide) (by decide) (by decide) (by decide), hF 840 (by decide) (by decide) (by decide) (by decide) (by decide) (by decide) (by decide), hF 841 (by decide) (by decide) (by decide) (by decide) (by decide) (by decide) (by decide)]; exact ⟨rfl, rfl, rfl, rfl, fun _ _ => rfl⟩
  · rw [par1, par2, par3, par4, par5, par6, va_up_ne _ _ (by omega), va_up_ne _ _ (by omega), va_up_ne _ _ (by omega), va_up_ne _ _ (by omega), va_up_ne _ _ (by omega), va_up_ne _ _ (by omega), hF 834 (by decide) (by decide) (by decide) (by decide) (by decide) (by decide) (by decide), hF 835 (by decide) (by decide) (by decide) (by decide) (by decide) (by decide) (by decide), hF 837 (by decide) (by decide) (by decide) (by decide) (by decide) (by decide) (by decide), hF 838 (by decide) (by decide) (by decide) (by decide) (by decide) (by decide) (by decide)]; exact ⟨⟨rfl, rfl, rfl, rfl, rfl⟩, rfl, rfl, rfl, rfl, rfl⟩
  · unfold vof
    rw [(parN hn).2.2.1]
    exact vofN_ext (fun v _ => by unfold mny; rw [hF 840 (by decide) (by decide) (by decide) (by decide) (by decide) (by decide) (by decide)]) (fun v i _ _ => by unfold rwf; rw [hF 841 (by decide) (by decide) (by decide) (by decide) (by decide) (by decide) (by decide)])
theorem parVN (hA : AI1 α) (hn : nP α < 30) : vof (parA α x1 x2 x3 x4 x5) (nP α) = -1 := by
  unfold vof
  rw [(parN hn).2.2.1]
  refine vofN_off (fun v i hv hi e1 => ?_)
  unfold mny at hi
  unfold rwf at e1
  rw [parF (by decide) (by decide) (by decide) (by decide) (by decide) (by decide) (by decide)] at hi e1
  have := (hA.2.2.2.2.1 v i (hA.v4 hv) hi).2
  unfold rwf at this
  omega
end ADDP
