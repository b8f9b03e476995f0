/-! A NEW OBJECT's numbers are in order -/
theorem al0_z {F : Nat} (h : F ≠ 897) (h1 : F ≠ 898) (h2 : F ≠ 899) (i : Nat) : al0 F i = 0 := by
  unfold al0
  rw [if_neg h, if_neg (by omega)]
theorem isN0 {b : Int} (hb : 0 ≤ b) : isN (0 : Int32) b := ⟨Int.le_refl _, hb⟩
theorem y_al0 : AIy al0 := by
  have z : ∀ {F : Nat}, F ≠ 897 → F ≠ 898 → F ≠ 899 → ∀ i, al0 F i = 0 := fun h h1 h2 i => al0_z h h1 h2 i
  have nP0 : nP al0 = 0 := by unfold nP; rw [z (by decide) (by decide) (by decide)]; rfl
  have nH0 : nH al0 = 0 := by unfold nH; rw [z (by decide) (by decide) (by decide)]; rfl
  have nV0 : nV al0 = 0 := by unfold nV; rw [z (by decide) (by decide) (by decide)]; rfl
  have nL0 : nL al0 = 0 := by unfold nL; rw [z (by decide) (by decide) (by decide)]; rfl
  have m0 : ∀ v, mny al0 v = 0 := fun v => by unfold mny; rw [z (by decide) (by decide) (by decide)]; rfl
  have hr : AIr al0 := by
    refine ⟨fun i hi => ?_, ?_, ?_, fun h _ => ?_, fun v _ => ?_, fun q _ => ?_⟩
    · rw [show al0 897 i = tens i from rfl]
      unfold tens
      rw [if_pos hi]
      exact ⟨by decide, by decide⟩
    · exact ⟨by decide, by decide⟩
    · exact ⟨by decide, by decide⟩
    · rw [z (by decide) (by decide) (by decide), z (by decide) (by decide) (by decide)]
      exact ⟨isN0 (by decide), isN0 (by decide)⟩
    · rw [z (by decide) (by decide) (by decide), z (by decide) (by decide) (by decide)]
      exact ⟨isN0 (by decide), isN0 (by decide)⟩
    · rw [z (by decide) (by decide) (by decide), z (by decide) (by decide) (by decide), z (by decide) (by decide) (by decide)]
      exact ⟨isN0 (by decide), isN0 (by decide), isN0 (by decide)⟩
  have hc : AIc al0 := by
    refine ⟨⟨?_, by omega⟩, ⟨?_, by omega⟩, ⟨?_, by omega⟩, ⟨?_, by omega⟩⟩
    · rw [nH0]; rfl
    · rw [nL0]; rfl
    · rw [nV0]; rfl
    · rw [nP0]; rfl
  have hv : AIv al0 := by
    refine ⟨fun v _ => ⟨?_, by rw [m0]; omega⟩, fun v _ _ => m0 v, fun v i _ hi => ?_, fun v v' i i' _ _ hi _ _ => ?_⟩
    · rw [m0, z (by decide) (by decide) (by decide)]; rfl
    · rw [m0] at hi; omega
    · rw [m0] at hi; omega
  have hw : AIw al0 := by
    refine ⟨hr, fun k _ => ?_, fun h _ => ?_⟩
    · rw [z (by decide) (by decide) (by decide), z (by decide) (by decide) (by decide)]
      exact ⟨isN0 (by decide), isN0 (by decide)⟩
    · unfold OrdOk
      rw [z (F := 904) (by decide) (by decide) (by decide)]
      exact ⟨rfl, by decide, fun k hk => absurd hk (Nat.not_lt_zero _)⟩
  have h834 : ∀ q, al0 834 q = 0 := z (by decide) (by decide) (by decide)
  have hl : LaidOk al0 := fun q _ h2 => by rw [h834] at h2; exact absurd h2 (by decide)
  refine ⟨⟨⟨⟨hr, hc, hv⟩, hw, hl⟩, fun q hq => by omega, fun h hh => by omega, fun q hq => ?_, fun q hq => by omega, fun q hq => by omega, fun q hq => by omega, fun h _ _ => z (by decide) (by decide) (by decide) h, fun q _ _ => ⟨h834 q, z (by decide) (by decide) (by decide) q, z (by decide) (by decide) (by decide) q⟩⟩, fun q hq => by omega, fun q hq => by omega⟩
  exact h834 q
