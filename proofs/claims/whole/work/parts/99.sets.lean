/-! THE CLASS'S SETTERS: roads, depot -/
section TOW
variable {w : Wd} {S S' : St} {T : Tb} {α β : Ab}
/-- another depot in the table -/
def depT (T : Tb) (d : Nat) : Tb := fun c i => if c = 3 then d else T c i
theorem depT_ne {T : Tb} {d c i : Nat} (h : c ≠ 3) : depT T d c i = T c i := if_neg h
theorem CR.tow (h : CR w S T α) {d : Nat} (hk : kd S' d = 6) (hd : ∀ c i, i < cCnt α c → c ≠ 3 → d ≠ T c i)
    (f : ∀ b, kd S b ≠ 0 → kd S' b = kd S b ∧ ln S' b = ln S b ∧ (b ≠ T 2 0 → rI S' b = rI S b) ∧ rP S' b = rP S b ∧ (∀ g, g ≠ 778 → b ≠ T 3 0 → gI S' g b = gI S g b) ∧ ∀ g, g ≠ 577 → gP S' g b = gP S g b)
    (hwE : ∀ a, kd S' a ≠ 0 → a ≠ wE w) (h577 : gP S' 577 (T 1 0) = some d) (ht : To S' (depT T d) β) (hβ : ∀ F, F ≠ 897 → F ≠ 898 → F ≠ 899 → F ≠ 832 → β F = α F) : CR w S' (depT T d) β := by
  have eH : nH β = nH α := by unfold nH; rw [hβ 900 (by decide) (by decide) (by decide) (by decide)]
  have eL : nL β = nL α := by unfold nL; rw [hβ 906 (by decide) (by decide) (by decide) (by decide)]
  have eV : nV β = nV α := by unfold nV; rw [hβ 909 (by decide) (by decide) (by decide) (by decide)]
  have eP : nP β = nP α := by unfold nP; rw [hβ 913 (by decide) (by decide) (by decide) (by decide)]
  have eC : ∀ c, cCnt β c = cCnt α c := fun c => by unfold cCnt; rw [eH, eL, eV, eP]
  have eM : ∀ v, mny β v = mny α v := fun v => by unfold mny; rw [hβ 840 (by decide) (by decide) (by decide) (by decide)]
  have eR : ∀ v i, rwf β v i = rwf α v i := fun v i => by unfold rwf; rw [hβ 841 (by decide) (by decide) (by decide) (by decide)]
  have eF : ∀ q, vof β q = vof α q := fun q => by unfold vof; rw [eV]; exact vofN_ext (fun v _ => eM v) (fun v i _ _ => eR v i)
  have F : ∀ c i, i < cCnt α c → c ≠ 3 → kd S' (T c i) = cKd c ∧ ln S' (T c i) = ln S (T c i) ∧ (c ≠ 2 → rI S' (T c i) = rI S (T c i)) ∧ rP S' (T c i) = rP S (T c i) ∧ (∀ g, g ≠ 778 → gI S' g (T c i) = gI S g (T c i)) ∧ ∀ g, g ≠ 577 → gP S' g (T c i) = gP S g (T c i) := fun c i hi h3 => by
    obtain ⟨a1, a2, a3, a4, a5, a6⟩ := f (T c i) (h.k0 hi)
    exact ⟨a1.trans (h.k hi), a2, fun z => a3 (h.ne hi (cn1 (by decide)) (Or.inl z)), a4, fun g hg => a5 g hg (h.ne hi (cn1 (by decide)) (Or.inl h3)), a6⟩
  have kk3 : ∀ c i, i < cCnt α c → depT T d c i = if c = 3 then d else T c i := fun _ _ _ => rfl
  refine ⟨fun c i hi => ?_, fun c i c' i' hi hi' e1 => ?_, fun t ht2 i hi => ?_, ⟨fun j hj => ?_, fun j j' hj hj' z z2 => ?_⟩, ht, fun i hi => ?_, fun i hi => ?_, fun i hi => ?_, fun i hi => ?_⟩
  · rw [eC] at hi
    by_cases c3 : c = 3
    · subst c3
      rw [show depT T d 3 i = d from if_pos rfl]
      exact ⟨hk, fun z => absurd z (by decide)⟩
    · rw [depT_ne c3]
      exact ⟨(F c i hi c3).1, fun z => (F c i hi c3).2.1.trans (h.lnn hi z)⟩
  · rw [eC] at hi hi'
    by_cases c3 : c = 3 <;> by_cases c3' : c' = 3
    · subst c3; subst c3'
      have : cCnt α 3 = 1 := rfl
      exact ⟨rfl, by omega⟩
    · subst c3
      rw [show depT T d 3 i = d from if_pos rfl, depT_ne c3'] at e1
      exact absurd e1 (hd c' i' hi' c3')
    · subst c3'
      rw [show depT T d 3 i' = d from if_pos rfl, depT_ne c3] at e1
      exact absurd e1.symm (hd c i hi c3)
    · rw [depT_ne c3, depT_ne c3'] at e1
      exact h.2.1 c i c' i' hi hi' e1
  · rw [eC] at hi
    have t3 : t.1 ≠ 3 := (show ∀ t ∈ LK, t.1 ≠ 3 from by decide) t ht2
    rw [depT_ne t3]
    by_cases c5 : t.2.1 = 577
    · have := (show ∀ t ∈ LK, t.2.1 = 577 → t.1 = 1 ∧ t.2.2 = 3 from by decide) t ht2 c5
      rw [this.1] at hi ⊢
      have hi0 : i = 0 := by have : cCnt α 1 = 1 := rfl; omega
      subst hi0
      rw [c5, this.2, show depT T d 3 0 = d from if_pos rfl]
      exact h577
    · have := (show ∀ t ∈ LK, t.2.1 ≠ 577 → t.2.2 ≠ 3 from by decide) t ht2 c5
      rw [depT_ne this, (F t.1 i hi t3).2.2.2.2.2 _ c5]
      exact h.lk t ht2 hi
  · obtain ⟨N, a1, a2, a3, a4, a5, a6, a7⟩ := h.ls hj
    have c1 : 0 < cCnt α (4 + j) := cn1 (by omega)
    have ff := F (4 + j) 0 c1 (by omega)
    refine ⟨N, ?_⟩
    rw [eC, depT_ne (by omega), depT_ne (by omega)]
    have f3 : fam j ≠ 3 := by unfold fam; split <;> omega
    refine ⟨ff.1.trans ((h.k c1).symm.trans a1), (ff.2.2.2.2.2 1 (by decide)).trans a2, (ff.2.2.2.2.1 2 (by decide)).trans a3, ?_, a5, a6, fun i hi => ?_⟩
    · rcases a4 with z | z
      · have g := f (T (32 + j) 0) (by rw [z.1]; decide)
        exact Or.inl ⟨g.1.trans z.1, g.2.1.trans z.2⟩
      · exact Or.inr z
    · have ho := Ls.oa (show Ls w S _ _ N _ _ _ from ⟨a1, a2, a3, a4, a5, a6, a7⟩) hi
      rw [depT_ne f3, (f (T (32 + j) 0) (by rw [ho.1]; decide)).2.2.2.1, (F _ i hi f3).1]
      exact ⟨(a7 i hi).1, (h.k hi).symm.trans (a7 i hi).2⟩
  · rw [depT_ne (by omega)] at z z2
    rw [depT_ne (by omega)] at z2
    refine h.2.2.2.1.2 j j' hj hj' ?_ z2
    obtain ⟨N, hL⟩ := h.ls hj
    rcases Nat.eq_zero_or_pos (kd S (T (32 + j) 0)) with y | y
    · rcases hL.em with x | x
      · rw [x] at y; exact absurd y (by decide)
      · exact absurd x (hwE _ (by rw [z]; decide))
    · exact (f _ (by omega)).1.symm.trans z
  · rw [eH] at hi
    obtain ⟨b1, b2, b3, b4, b5⟩ := h.hm hi
    unfold Hm
    rw [hβ 901 (by decide) (by decide) (by decide) (by decide), hβ 902 (by decide) (by decide) (by decide) (by decide), hβ 903 (by decide) (by decide) (by decide) (by decide), hβ 904 (by decide) (by decide) (by decide) (by decide), hβ 905 (by decide) (by decide) (by decide) (by decide), depT_ne (by decide), depT_ne (by decide), depT_ne (by decide)]
    have f0 := F 20 i (cnH (by decide) (by decide) hi) (by decide)
    have f1 := F 21 i (cnH (by decide) (by decide) hi) (by decide)
    have f2 := F 22 i (cnH (by decide) (by decide) hi) (by decide)
    rw [f1.2.2.2.2.1 _ (by decide), f1.2.2.2.2.1 _ (by decide), f0.2.2.2.2.1 _ (by decide), f0.2.2.2.2.1 _ (by decide), f2.2.2.1 (by decide)]
    exact ⟨b1, b2, b3, b4, b5⟩
  · rw [eL] at hi
    obtain ⟨b1, b2, b3⟩ := h.lo hi
    unfold Lo
    rw [hβ 907 (by decide) (by decide) (by decide) (by decide), hβ 908 (by decide) (by decide) (by decide) (by decide), hβ 839 (by decide) (by decide) (by decide) (by decide), depT_ne (by decide), depT_ne (by decide)]
    have f1 := F 24 i (cnL (by decide) (by decide) hi) (by decide)
    have f2 := F 25 i (cnL (by decide) (by decide) hi) (by decide)
    rw [f1.2.2.2.2.1 _ (by decide), f1.2.2.2.2.1 _ (by decide), f2.2.2.1 (by decide)]
    exact ⟨b1, b2, b3⟩
  · rw [eV] at hi
    obtain ⟨b1, b2, b3, b4, b5, b6⟩ := h.va hi
    unfold Va
    rw [hβ 910 (by decide) (by decide) (by decide) (by decide), hβ 911 (by decide) (by decide) (by decide) (by decide), hβ 912 (by decide) (by decide) (by decide) (by decide), eM, depT_ne (by decide), depT_ne (by decide), depT_ne (by decide)]
    have f0 := F 27 i (cnV (by decide) (by decide) hi) (by decide)
    have f1 := F 28 i (cnV (by decide) (by decide) hi) (by decide)
    have f2 := F 29 i (cnV (by decide) (by decide) hi) (by decide)
    rw [f0.2.2.2.2.1 _ (by decide), f0.2.2.2.2.1 _ (by decide), f0.2.2.2.2.1 _ (by decide), f0.2.2.2.2.1 _ (by decide), f1.2.2.2.2.1 _ (by decide), f2.2.2.2.1]
    exact ⟨b1, b2, b3, b4, b5, fun k hk => by rw [eR, depT_ne (by decide)]; exact b6 k hk⟩
  · rw [eP] at hi
    obtain ⟨b, d1, d2, d3, d4, d5, d6⟩ := h.pa hi
    unfold Pa vop
    have g := (F 30 i (cnP (by decide) (by decide) hi) (by decide)).2.2.2.2.1
    have gp := (F 30 i (cnP (by decide) (by decide) hi) (by decide)).2.2.2.2.2
    rw [hβ 914 (by decide) (by decide) (by decide) (by decide), hβ 915 (by decide) (by decide) (by decide) (by decide), hβ 916 (by decide) (by decide) (by decide) (by decide), hβ 917 (by decide) (by decide) (by decide) (by decide), hβ 918 (by decide) (by decide) (by decide) (by decide), hβ 834 (by decide) (by decide) (by decide) (by decide), hβ 835 (by decide) (by decide) (by decide) (by decide), hβ 836 (by decide) (by decide) (by decide) (by decide), hβ 837 (by decide) (by decide) (by decide) (by decide), hβ 838 (by decide) (by decide) (by decide) (by decide), eF, depT_ne (by decide), depT_ne (by decide), depT_ne (by decide)]
    rw [g _ (by decide), g _ (by decide), g _ (by decide), g _ (by decide), g _ (by decide), g _ (by decide), g _ (by decide), g _ (by decide), g _ (by decide), g _ (by decide), g _ (by decide), gp _ (by decide), gp _ (by decide)]
    exact ⟨b, d1, d2, d3, d4, d5, d6⟩
end TOW
