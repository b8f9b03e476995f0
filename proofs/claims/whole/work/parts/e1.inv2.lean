/-! WHAT ALWAYS HOLDS, behind what adds -/
theorem inR_N {x lo hi : Int32} (h : inR x lo hi) (h0 : 0 ≤ lo.toInt) : isN x hi.toInt := by
  have h1 := Int32.le_iff_toInt_le.mp h.1
  have h2 := Int32.le_iff_toInt_le.mp h.2
  exact ⟨by omega, h2⟩
def roadsA (α : Ab) (k : Nat) (b : Int32) : Ab := aset α 897 (va_up (α 897) k b)
def depotA (α : Ab) (a b : Int32) : Ab := au (au α 898 0 a) 899 0 b
theorem y_roadsA {α : Ab} {k : Nat} {b : Int32} (h : AIy α) (hb : isN b 30) : AIy (roadsA α k b) := by
  have hA1 := h.1.1.1
  obtain ⟨x1, x2, x3, x4, x5, x6, x7, x8⟩ := h.1.2
  obtain ⟨c1, c2, c3, c4⟩ := hA1.2.1
  obtain ⟨v1, v2, v3, v4⟩ := hA1.2.2
  have f834 : (roadsA α k b) 834 = α 834 := aset_ne (by decide)
  have f835 : (roadsA α k b) 835 = α 835 := aset_ne (by decide)
  have f836 : (roadsA α k b) 836 = α 836 := aset_ne (by decide)
  have f837 : (roadsA α k b) 837 = α 837 := aset_ne (by decide)
  have f838 : (roadsA α k b) 838 = α 838 := aset_ne (by decide)
  have f839 : (roadsA α k b) 839 = α 839 := aset_ne (by decide)
  have f840 : (roadsA α k b) 840 = α 840 := aset_ne (by decide)
  have f841 : (roadsA α k b) 841 = α 841 := aset_ne (by decide)
  have f898 : (roadsA α k b) 898 = α 898 := aset_ne (by decide)
  have f899 : (roadsA α k b) 899 = α 899 := aset_ne (by decide)
  have f900 : (roadsA α k b) 900 = α 900 := aset_ne (by decide)
  have f901 : (roadsA α k b) 901 = α 901 := aset_ne (by decide)
  have f902 : (roadsA α k b) 902 = α 902 := aset_ne (by decide)
  have f903 : (roadsA α k b) 903 = α 903 := aset_ne (by decide)
  have f904 : (roadsA α k b) 904 = α 904 := aset_ne (by decide)
  have f905 : (roadsA α k b) 905 = α 905 := aset_ne (by decide)
  have f906 : (roadsA α k b) 906 = α 906 := aset_ne (by decide)
  have f907 : (roadsA α k b) 907 = α 907 := aset_ne (by decide)
  have f908 : (roadsA α k b) 908 = α 908 := aset_ne (by decide)
  have f909 : (roadsA α k b) 909 = α 909 := aset_ne (by decide)
  have f910 : (roadsA α k b) 910 = α 910 := aset_ne (by decide)
  have f911 : (roadsA α k b) 911 = α 911 := aset_ne (by decide)
  have f912 : (roadsA α k b) 912 = α 912 := aset_ne (by decide)
  have f913 : (roadsA α k b) 913 = α 913 := aset_ne (by decide)
  have f914 : (roadsA α k b) 914 = α 914 := aset_ne (by decide)
  have f915 : (roadsA α k b) 915 = α 915 := aset_ne (by decide)
  have f916 : (roadsA α k b) 916 = α 916 := aset_ne (by decide)
  have f917 : (roadsA α k b) 917 = α 917 := aset_ne (by decide)
  have f918 : (roadsA α k b) 918 = α 918 := aset_ne (by decide)
  have nH_ : nH (roadsA α k b) = nH α := by unfold nH; rw [f900]
  have nL_ : nL (roadsA α k b) = nL α := by unfold nL; rw [f906]
  have nV_ : nV (roadsA α k b) = nV α := by unfold nV; rw [f909]
  have nP_ : nP (roadsA α k b) = nP α := by unfold nP; rw [f913]
  have em : ∀ v, mny (roadsA α k b) v = mny α v := fun v => by unfold mny; rw [f840]
  have er : ∀ v k9, rwf (roadsA α k b) v k9 = rwf α v k9 := fun v k9 => by unfold rwf; rw [f841]
  have r : AIr (roadsA α k b) := by
    refine ⟨?_, ?_, ?_, ?_, ?_, ?_⟩
    · have e1 : roadsA α k b 897 = va_up (α 897) k b := aset_same
      rw [e1]
      intro i hi
      by_cases z : i = k
      · subst z; rw [va_up_self]; exact hb
      · rw [va_up_ne _ _ z]; exact hA1.1.1 i hi
    · simp only [f898]; exact hA1.1.2.1
    · simp only [f899]; exact hA1.1.2.2.1
    · simp only [f901, f902]; exact hA1.1.2.2.2.1
    · simp only [f911, f912]; exact hA1.1.2.2.2.2.1
    · simp only [f916, f917, f918]; exact hA1.1.2.2.2.2.2
  refine ⟨⟨⟨⟨r, ⟨?_, ?_, ?_, ?_⟩, ?_, ?_, ?_, ?_⟩, ⟨r, ?_, ?_⟩, ?_⟩, ?_, ?_, ?_, ?_, ?_, ?_, ?_, ?_⟩, ?_, ?_⟩
  · rw [nH_, f900]; exact c1
  · rw [nL_, f906]; exact c2
  · rw [nV_, f909]; exact c3
  · rw [nP_, f913]; exact c4
  · simp only [em, f840]; exact v1
  · simp only [em, nV_]; exact v2
  · simp only [em, er, f841, nP_]; exact v3
  · simp only [em, er]; exact v4
  · simp only [f907, f908]; exact h.1.1.2.1.2.1
  · unfold OrdOk; simp only [f904, f905]; exact h.1.1.2.1.2.2
  · unfold LaidOk; simp only [f834, f836, f837]; exact h.1.1.2.2
  · simp only [f916, nP_, nH_]; exact x1
  · simp only [f904, f905, nL_, nH_]; exact x2
  · unfold On OnAt; simp only [f834, nV_, em, er]; exact x3
  · simp only [f834, f838, f835, nP_]; exact x4
  · simp only [f835, nP_]; exact x5
  · simp only [f834, f836, nP_, nL_]; exact x6
  · simp only [f904, nH_]; exact x7
  · simp only [f834, f835, f838, nP_]; exact x8
  · simp only [f915, nP_]; exact h.2.1
  · simp only [f834, f838, nP_]; exact h.2.2
theorem y_depotA {α : Ab} {a b : Int32} (h : AIy α) (ha : isN a 60) (hb : isN b 60) : AIy (depotA α a b) := by
  have hA1 := h.1.1.1
  obtain ⟨x1, x2, x3, x4, x5, x6, x7, x8⟩ := h.1.2
  obtain ⟨c1, c2, c3, c4⟩ := hA1.2.1
  obtain ⟨v1, v2, v3, v4⟩ := hA1.2.2
  have f834 : (depotA α a b) 834 = α 834 := by unfold depotA; rw [au_neF (by decide), au_neF (by decide)]
  have f835 : (depotA α a b) 835 = α 835 := by unfold depotA; rw [au_neF (by decide), au_neF (by decide)]
  have f836 : (depotA α a b) 836 = α 836 := by unfold depotA; rw [au_neF (by decide), au_neF (by decide)]
  have f837 : (depotA α a b) 837 = α 837 := by unfold depotA; rw [au_neF (by decide), au_neF (by decide)]
  have f838 : (depotA α a b) 838 = α 838 := by unfold depotA; rw [au_neF (by decide), au_neF (by decide)]
  have f839 : (depotA α a b) 839 = α 839 := by unfold depotA; rw [au_neF (by decide), au_neF (by decide)]
  have f840 : (depotA α a b) 840 = α 840 := by unfold depotA; rw [au_neF (by decide), au_neF (by decide)]
  have f841 : (depotA α a b) 841 = α 841 := by unfold depotA; rw [au_neF (by decide), au_neF (by decide)]
  have f897 : (depotA α a b) 897 = α 897 := by unfold depotA; rw [au_neF (by decide), au_neF (by decide)]
  have f900 : (depotA α a b) 900 = α 900 := by unfold depotA; rw [au_neF (by decide), au_neF (by decide)]
  have f901 : (depotA α a b) 901 = α 901 := by unfold depotA; rw [au_neF (by decide), au_neF (by decide)]
  have f902 : (depotA α a b) 902 = α 902 := by unfold depotA; rw [au_neF (by decide), au_neF (by decide)]
  have f903 : (depotA α a b) 903 = α 903 := by unfold depotA; rw [au_neF (by decide), au_neF (by decide)]
  have f904 : (depotA α a b) 904 = α 904 := by unfold depotA; rw [au_neF (by decide), au_neF (by decide)]
  have f905 : (depotA α a b) 905 = α 905 := by unfold depotA; rw [au_neF (by decide), au_neF (by decide)]
  have f906 : (depotA α a b) 906 = α 906 := by unfold depotA; rw [au_neF (by decide), au_neF (by decide)]
  have f907 : (depotA α a b) 907 = α 907 := by unfold depotA; rw [au_neF (by decide), au_neF (by decide)]
  have f908 : (depotA α a b) 908 = α 908 := by unfold depotA; rw [au_neF (by decide), au_neF (by decide)]
  have f909 : (depotA α a b) 909 = α 909 := by unfold depotA; rw [au_neF (by decide), au_neF (by decide)]
  have f910 : (depotA α a b) 910 = α 910 := by unfold depotA; rw [au_neF (by decide), au_neF (by decide)]
  have f911 : (depotA α a b) 911 = α 911 := by unfold depotA; rw [au_neF (by decide), au_neF (by decide)]
  have f912 : (depotA α a b) 912 = α 912 := by unfold depotA; rw [au_neF (by decide), au_neF (by decide)]
  have f913 : (depotA α a b) 913 = α 913 := by unfold depotA; rw [au_neF (by decide), au_neF (by decide)]
  have f914 : (depotA α a b) 914 = α 914 := by unfold depotA; rw [au_neF (by decide), au_neF (by decide)]
  have f915 : (depotA α a b) 915 = α 915 := by unfold depotA; rw [au_neF (by decide), au_neF (by decide)]
  have f916 : (depotA α a b) 916 = α 916 := by unfold depotA; rw [au_neF (by decide), au_neF (by decide)]
  have f917 : (depotA α a b) 917 = α 917 := by unfold depotA; rw [au_neF (by decide), au_neF (by decide)]
  have f918 : (depotA α a b) 918 = α 918 := by unfold depotA; rw [au_neF (by decide), au_neF (by decide)]
  have nH_ : nH (depotA α a b) = nH α := by unfold nH; rw [f900]
  have nL_ : nL (depotA α a b) = nL α := by unfold nL; rw [f906]
  have nV_ : nV (depotA α a b) = nV α := by unfold nV; rw [f909]
  have nP_ : nP (depotA α a b) = nP α := by unfold nP; rw [f913]
  have em : ∀ v, mny (depotA α a b) v = mny α v := fun v => by unfold mny; rw [f840]
  have er : ∀ v k9, rwf (depotA α a b) v k9 = rwf α v k9 := fun v k9 => by unfold rwf; rw [f841]
  have r : AIr (depotA α a b) := by
    refine ⟨?_, ?_, ?_, ?_, ?_, ?_⟩
    · simp only [f897]; exact hA1.1.1
    · unfold depotA
      rw [au_neF (by decide), au_same]; exact ha
    · unfold depotA
      rw [au_same]; exact hb
    · simp only [f901, f902]; exact hA1.1.2.2.2.1
    · simp only [f911, f912]; exact hA1.1.2.2.2.2.1
    · simp only [f916, f917, f918]; exact hA1.1.2.2.2.2.2
  refine ⟨⟨⟨⟨r, ⟨?_, ?_, ?_, ?_⟩, ?_, ?_, ?_, ?_⟩, ⟨r, ?_, ?_⟩, ?_⟩, ?_, ?_, ?_, ?_, ?_, ?_, ?_, ?_⟩, ?_, ?_⟩
  · rw [nH_, f900]; exact c1
  · rw [nL_, f906]; exact c2
  · rw [nV_, f909]; exact c3
  · rw [nP_, f913]; exact c4
  · simp only [em, f840]; exact v1
  · simp only [em, nV_]; exact v2
  · simp only [em, er, f841, nP_]; exact v3
  · simp only [em, er]; exact v4
  · simp only [f907, f908]; exact h.1.1.2.1.2.1
  · unfold OrdOk; simp only [f904, f905]; exact h.1.1.2.1.2.2
  · unfold LaidOk; simp only [f834, f836, f837]; exact h.1.1.2.2
  · simp only [f916, nP_, nH_]; exact x1
  · simp only [f904, f905, nL_, nH_]; exact x2
  · unfold On OnAt; simp only [f834, nV_, em, er]; exact x3
  · simp only [f834, f838, f835, nP_]; exact x4
  · simp only [f835, nP_]; exact x5
  · simp only [f834, f836, nP_, nL_]; exact x6
  · simp only [f904, nH_]; exact x7
  · simp only [f834, f835, f838, nP_]; exact x8
  · simp only [f915, nP_]; exact h.2.1
  · simp only [f834, f838, nP_]; exact h.2.2
theorem y_homA {α : Ab} {x y z : Int32} (h : AIy α) (hn : nH α < 16) (hx : isN x 60) (hy : isN y 60) : AIy (homA α x y z) := by
  have hA1 := h.1.1.1
  obtain ⟨x1, x2, x3, x4, x5, x6, x7, x8⟩ := h.1.2
  obtain ⟨c1, c2, c3, c4⟩ := hA1.2.1
  obtain ⟨v1, v2, v3, v4⟩ := hA1.2.2
  have f834 : (homA α x y z) 834 = α 834 := homF (by decide) (by decide) (by decide) (by decide)
  have f835 : (homA α x y z) 835 = α 835 := homF (by decide) (by decide) (by decide) (by decide)
  have f836 : (homA α x y z) 836 = α 836 := homF (by decide) (by decide) (by decide) (by decide)
  have f837 : (homA α x y z) 837 = α 837 := homF (by decide) (by decide) (by decide) (by decide)
  have f838 : (homA α x y z) 838 = α 838 := homF (by decide) (by decide) (by decide) (by decide)
  have f839 : (homA α x y z) 839 = α 839 := homF (by decide) (by decide) (by decide) (by decide)
  have f840 : (homA α x y z) 840 = α 840 := homF (by decide) (by decide) (by decide) (by decide)
  have f841 : (homA α x y z) 841 = α 841 := homF (by decide) (by decide) (by decide) (by decide)
  have f897 : (homA α x y z) 897 = α 897 := homF (by decide) (by decide) (by decide) (by decide)
  have f898 : (homA α x y z) 898 = α 898 := homF (by decide) (by decide) (by decide) (by decide)
  have f899 : (homA α x y z) 899 = α 899 := homF (by decide) (by decide) (by decide) (by decide)
  have f904 : (homA α x y z) 904 = α 904 := homF (by decide) (by decide) (by decide) (by decide)
  have f905 : (homA α x y z) 905 = α 905 := homF (by decide) (by decide) (by decide) (by decide)
  have f906 : (homA α x y z) 906 = α 906 := homF (by decide) (by decide) (by decide) (by decide)
  have f907 : (homA α x y z) 907 = α 907 := homF (by decide) (by decide) (by decide) (by decide)
  have f908 : (homA α x y z) 908 = α 908 := homF (by decide) (by decide) (by decide) (by decide)
  have f909 : (homA α x y z) 909 = α 909 := homF (by decide) (by decide) (by decide) (by decide)
  have f910 : (homA α x y z) 910 = α 910 := homF (by decide) (by decide) (by decide) (by decide)
  have f911 : (homA α x y z) 911 = α 911 := homF (by decide) (by decide) (by decide) (by decide)
  have f912 : (homA α x y z) 912 = α 912 := homF (by decide) (by decide) (by decide) (by decide)
  have f913 : (homA α x y z) 913 = α 913 := homF (by decide) (by decide) (by decide) (by decide)
  have f914 : (homA α x y z) 914 = α 914 := homF (by decide) (by decide) (by decide) (by decide)
  have f915 : (homA α x y z) 915 = α 915 := homF (by decide) (by decide) (by decide) (by decide)
  have f916 : (homA α x y z) 916 = α 916 := homF (by decide) (by decide) (by decide) (by decide)
  have f917 : (homA α x y z) 917 = α 917 := homF (by decide) (by decide) (by decide) (by decide)
  have f918 : (homA α x y z) 918 = α 918 := homF (by decide) (by decide) (by decide) (by decide)
  have nH_ : nH (homA α x y z) = nH α + 1 := (homN hn).1
  have nL_ : nL (homA α x y z) = nL α := by unfold nL; rw [f906]
  have nV_ : nV (homA α x y z) = nV α := by unfold nV; rw [f909]
  have nP_ : nP (homA α x y z) = nP α := by unfold nP; rw [f913]
  have em : ∀ v, mny (homA α x y z) v = mny α v := fun v => by unfold mny; rw [f840]
  have er : ∀ v k9, rwf (homA α x y z) v k9 = rwf α v k9 := fun v k9 => by unfold rwf; rw [f841]
  have r : AIr (homA α x y z) := by
    refine ⟨?_, ?_, ?_, ?_, ?_, ?_⟩
    · simp only [f897]; exact hA1.1.1
    · simp only [f898]; exact hA1.1.2.1
    · simp only [f899]; exact hA1.1.2.2.1
    · rw [hom1, hom2]
      intro i hi
      by_cases z : i = nH α
      · subst z; rw [va_up_self, va_up_self]; exact ⟨hx, hy⟩
      · rw [va_up_ne _ _ z, va_up_ne _ _ z]; exact hA1.1.2.2.2.1 i hi
    · simp only [f911, f912]; exact hA1.1.2.2.2.2.1
    · simp only [f916, f917, f918]; exact hA1.1.2.2.2.2.2
  refine ⟨⟨⟨⟨r, ⟨?_, ?_, ?_, ?_⟩, ?_, ?_, ?_, ?_⟩, ⟨r, ?_, ?_⟩, ?_⟩, ?_, ?_, ?_, ?_, ?_, ?_, ?_, ?_⟩, ?_, ?_⟩
  · rw [nH_, hom0]; exact ⟨rfl, by omega⟩
  · rw [nL_, f906]; exact c2
  · rw [nV_, f909]; exact c3
  · rw [nP_, f913]; exact c4
  · simp only [em, f840]; exact v1
  · simp only [em, nV_]; exact v2
  · simp only [em, er, f841, nP_]; exact v3
  · simp only [em, er]; exact v4
  · simp only [f907, f908]; exact h.1.1.2.1.2.1
  · unfold OrdOk; simp only [f904, f905]; exact h.1.1.2.1.2.2
  · unfold LaidOk; simp only [f834, f836, f837]; exact h.1.1.2.2
  · simp only [f916, nP_, nH_]
    exact fun q hq => Nat.lt_succ_of_lt (x1 q hq)
  · simp only [f904, f905, nL_, nH_]
    intro i hi k hk
    rcases Nat.lt_or_ge i (nH α) with z | z
    · obtain ⟨wh, (e1 | e1)⟩ := x2 i z k hk
      · exact ⟨wh, Or.inl e1⟩
      · exact ⟨wh, Or.inr ⟨e1.1, by have := e1.2; omega⟩⟩
    · rw [x7 i z (by omega)] at hk
      exact absurd hk (by rw [show cl (0 : Int32) = 0 from rfl]; omega)
  · unfold On OnAt; simp only [f834, nV_, em, er]; exact x3
  · simp only [f834, f838, f835, nP_]; exact x4
  · simp only [f835, nP_]; exact x5
  · simp only [f834, f836, nP_, nL_]; exact x6
  · simp only [f904, nH_]
    exact fun i a b => x7 i (by omega) b
  · simp only [f834, f835, f838, nP_]; exact x8
  · simp only [f915, nP_]; exact h.2.1
  · simp only [f834, f838, nP_]; exact h.2.2
theorem y_ordA {α : Ab} {i : Nat} {y0 : Int32} (h : AIy α) (hi : i < nH α) (n3 : ¬ α 904 i = 3) (hv : ∃ wh, (y0 = nI (100 + wh) ∧ wh < nL α) ∨ (y0 = nI (200 + wh) ∧ wh < nH α)) : AIy (ordA α i y0) := by
  have hA1 := h.1.1.1
  obtain ⟨x1, x2, x3, x4, x5, x6, x7, x8⟩ := h.1.2
  obtain ⟨c1, c2, c3, c4⟩ := hA1.2.1
  obtain ⟨v1, v2, v3, v4⟩ := hA1.2.2
  obtain ⟨p1, p2, -⟩ := h.1.1.2.1.2.2 i (by have := c1.2; omega)
  have n3' : cl (α 904 i) < 3 := by
    rcases Nat.lt_or_ge (cl (α 904 i)) 3 with z | z
    · exact z
    · exact absurd (by rw [p1, show cl (α 904 i) = 3 by omega]; rfl) n3
  have e1 : α 904 i + 1 = nI (cl (α 904 i) + 1) := (congrArg (fun z => z + 1) p1).trans (nI_1 _)
  have f834 : (ordA α i y0) 834 = α 834 := ordF (by decide) (by decide)
  have f835 : (ordA α i y0) 835 = α 835 := ordF (by decide) (by decide)
  have f836 : (ordA α i y0) 836 = α 836 := ordF (by decide) (by decide)
  have f837 : (ordA α i y0) 837 = α 837 := ordF (by decide) (by decide)
  have f838 : (ordA α i y0) 838 = α 838 := ordF (by decide) (by decide)
  have f839 : (ordA α i y0) 839 = α 839 := ordF (by decide) (by decide)
  have f840 : (ordA α i y0) 840 = α 840 := ordF (by decide) (by decide)
  have f841 : (ordA α i y0) 841 = α 841 := ordF (by decide) (by decide)
  have f897 : (ordA α i y0) 897 = α 897 := ordF (by decide) (by decide)
  have f898 : (ordA α i y0) 898 = α 898 := ordF (by decide) (by decide)
  have f899 : (ordA α i y0) 899 = α 899 := ordF (by decide) (by decide)
  have f900 : (ordA α i y0) 900 = α 900 := ordF (by decide) (by decide)
  have f901 : (ordA α i y0) 901 = α 901 := ordF (by decide) (by decide)
  have f902 : (ordA α i y0) 902 = α 902 := ordF (by decide) (by decide)
  have f903 : (ordA α i y0) 903 = α 903 := ordF (by decide) (by decide)
  have f906 : (ordA α i y0) 906 = α 906 := ordF (by decide) (by decide)
  have f907 : (ordA α i y0) 907 = α 907 := ordF (by decide) (by decide)
  have f908 : (ordA α i y0) 908 = α 908 := ordF (by decide) (by decide)
  have f909 : (ordA α i y0) 909 = α 909 := ordF (by decide) (by decide)
  have f910 : (ordA α i y0) 910 = α 910 := ordF (by decide) (by decide)
  have f911 : (ordA α i y0) 911 = α 911 := ordF (by decide) (by decide)
  have f912 : (ordA α i y0) 912 = α 912 := ordF (by decide) (by decide)
  have f913 : (ordA α i y0) 913 = α 913 := ordF (by decide) (by decide)
  have f914 : (ordA α i y0) 914 = α 914 := ordF (by decide) (by decide)
  have f915 : (ordA α i y0) 915 = α 915 := ordF (by decide) (by decide)
  have f916 : (ordA α i y0) 916 = α 916 := ordF (by decide) (by decide)
  have f917 : (ordA α i y0) 917 = α 917 := ordF (by decide) (by decide)
  have f918 : (ordA α i y0) 918 = α 918 := ordF (by decide) (by decide)
  have nH_ : nH (ordA α i y0) = nH α := by unfold nH; rw [f900]
  have nL_ : nL (ordA α i y0) = nL α := by unfold nL; rw [f906]
  have nV_ : nV (ordA α i y0) = nV α := by unfold nV; rw [f909]
  have nP_ : nP (ordA α i y0) = nP α := by unfold nP; rw [f913]
  have em : ∀ v, mny (ordA α i y0) v = mny α v := fun v => by unfold mny; rw [f840]
  have er : ∀ v k9, rwf (ordA α i y0) v k9 = rwf α v k9 := fun v k9 => by unfold rwf; rw [f841]
  have r : AIr (ordA α i y0) := by
    refine ⟨?_, ?_, ?_, ?_, ?_, ?_⟩
    · simp only [f897]; exact hA1.1.1
    · simp only [f898]; exact hA1.1.2.1
    · simp only [f899]; exact hA1.1.2.2.1
    · simp only [f901, f902]; exact hA1.1.2.2.2.1
    · simp only [f911, f912]; exact hA1.1.2.2.2.2.1
    · simp only [f916, f917, f918]; exact hA1.1.2.2.2.2.2
  refine ⟨⟨⟨⟨r, ⟨?_, ?_, ?_, ?_⟩, ?_, ?_, ?_, ?_⟩, ⟨r, ?_, ?_⟩, ?_⟩, ?_, ?_, ?_, ?_, ?_, ?_, ?_, ?_⟩, ?_, ?_⟩
  · rw [nH_, f900]; exact c1
  · rw [nL_, f906]; exact c2
  · rw [nV_, f909]; exact c3
  · rw [nP_, f913]; exact c4
  · simp only [em, f840]; exact v1
  · simp only [em, nV_]; exact v2
  · simp only [em, er, f841, nP_]; exact v3
  · simp only [em, er]; exact v4
  · simp only [f907, f908]; exact h.1.1.2.1.2.1
  · intro j hj
    unfold OrdOk
    rw [ord4, ord5]
    obtain ⟨o1, o2, o3⟩ := h.1.1.2.1.2.2 j hj
    by_cases z : j = i
    · subst z
      rw [va_up_self, e1, cl_nI (by omega)]
      refine ⟨rfl, by omega, fun k hk => ?_⟩
      by_cases y : k = cl (α 904 j)
      · subst y
        rw [va_up_self]
        obtain ⟨wh, (a | a)⟩ := hv
        · exact ⟨wh, Or.inl ⟨a.1, by have := a.2; have := c2.2; omega⟩⟩
        · exact ⟨wh, Or.inr ⟨a.1, by have := a.2; have := c1.2; omega⟩⟩
      · rw [va_up_ne _ _ (by omega)]; exact o3 k (by omega)
    · rw [va_up_ne _ _ z]
      refine ⟨o1, o2, fun k hk => ?_⟩
      rw [va_up_ne _ _ (by omega)]; exact o3 k hk
  · unfold LaidOk; simp only [f834, f836, f837]; exact h.1.1.2.2
  · simp only [f916, nP_, nH_]; exact x1
  · simp only [nL_, nH_]
    rw [ord4, ord5]
    intro j hj k hk
    obtain ⟨o1, o2, o3⟩ := h.1.1.2.1.2.2 j (by have := c1.2; omega)
    by_cases z : j = i
    · subst z
      rw [va_up_self, e1, cl_nI (by omega)] at hk
      by_cases y : k = cl (α 904 j)
      · subst y
        rw [va_up_self]; exact hv
      · rw [va_up_ne _ _ (by omega)]; exact x2 j hj k (by omega)
    · rw [va_up_ne _ _ z] at hk
      rw [va_up_ne _ _ (by omega)]; exact x2 j hj k hk
  · unfold On OnAt; simp only [f834, nV_, em, er]; exact x3
  · simp only [f834, f838, f835, nP_]; exact x4
  · simp only [f835, nP_]; exact x5
  · simp only [f834, f836, nP_, nL_]; exact x6
  · simp only [nH_]
    rw [ord4]
    intro j a b
    rw [va_up_ne _ _ (by omega)]; exact x7 j a b
  · simp only [f834, f835, f838, nP_]; exact x8
  · simp only [f915, nP_]; exact h.2.1
  · simp only [f834, f838, nP_]; exact h.2.2
theorem y_locA {α : Ab} {x y z1 z2 z3 : Int32} (h : AIy α) (hn : nL α < 4) (hx : isN x 60) (hy : isN y 60) : AIy (locA α x y z1 z2 z3) := by
  have hA1 := h.1.1.1
  obtain ⟨x1, x2, x3, x4, x5, x6, x7, x8⟩ := h.1.2
  obtain ⟨c1, c2, c3, c4⟩ := hA1.2.1
  obtain ⟨v1, v2, v3, v4⟩ := hA1.2.2
  have f834 : (locA α x y z1 z2 z3) 834 = α 834 := locF (by decide) (by decide) (by decide) (by decide)
  have f835 : (locA α x y z1 z2 z3) 835 = α 835 := locF (by decide) (by decide) (by decide) (by decide)
  have f836 : (locA α x y z1 z2 z3) 836 = α 836 := locF (by decide) (by decide) (by decide) (by decide)
  have f837 : (locA α x y z1 z2 z3) 837 = α 837 := locF (by decide) (by decide) (by decide) (by decide)
  have f838 : (locA α x y z1 z2 z3) 838 = α 838 := locF (by decide) (by decide) (by decide) (by decide)
  have f840 : (locA α x y z1 z2 z3) 840 = α 840 := locF (by decide) (by decide) (by decide) (by decide)
  have f841 : (locA α x y z1 z2 z3) 841 = α 841 := locF (by decide) (by decide) (by decide) (by decide)
  have f897 : (locA α x y z1 z2 z3) 897 = α 897 := locF (by decide) (by decide) (by decide) (by decide)
  have f898 : (locA α x y z1 z2 z3) 898 = α 898 := locF (by decide) (by decide) (by decide) (by decide)
  have f899 : (locA α x y z1 z2 z3) 899 = α 899 := locF (by decide) (by decide) (by decide) (by decide)
  have f900 : (locA α x y z1 z2 z3) 900 = α 900 := locF (by decide) (by decide) (by decide) (by decide)
  have f901 : (locA α x y z1 z2 z3) 901 = α 901 := locF (by decide) (by decide) (by decide) (by decide)
  have f902 : (locA α x y z1 z2 z3) 902 = α 902 := locF (by decide) (by decide) (by decide) (by decide)
  have f903 : (locA α x y z1 z2 z3) 903 = α 903 := locF (by decide) (by decide) (by decide) (by decide)
  have f904 : (locA α x y z1 z2 z3) 904 = α 904 := locF (by decide) (by decide) (by decide) (by decide)
  have f905 : (locA α x y z1 z2 z3) 905 = α 905 := locF (by decide) (by decide) (by decide) (by decide)
  have f909 : (locA α x y z1 z2 z3) 909 = α 909 := locF (by decide) (by decide) (by decide) (by decide)
  have f910 : (locA α x y z1 z2 z3) 910 = α 910 := locF (by decide) (by decide) (by decide) (by decide)
  have f911 : (locA α x y z1 z2 z3) 911 = α 911 := locF (by decide) (by decide) (by decide) (by decide)
  have f912 : (locA α x y z1 z2 z3) 912 = α 912 := locF (by decide) (by decide) (by decide) (by decide)
  have f913 : (locA α x y z1 z2 z3) 913 = α 913 := locF (by decide) (by decide) (by decide) (by decide)
  have f914 : (locA α x y z1 z2 z3) 914 = α 914 := locF (by decide) (by decide) (by decide) (by decide)
  have f915 : (locA α x y z1 z2 z3) 915 = α 915 := locF (by decide) (by decide) (by decide) (by decide)
  have f916 : (locA α x y z1 z2 z3) 916 = α 916 := locF (by decide) (by decide) (by decide) (by decide)
  have f917 : (locA α x y z1 z2 z3) 917 = α 917 := locF (by decide) (by decide) (by decide) (by decide)
  have f918 : (locA α x y z1 z2 z3) 918 = α 918 := locF (by decide) (by decide) (by decide) (by decide)
  have nH_ : nH (locA α x y z1 z2 z3) = nH α := by unfold nH; rw [f900]
  have nL_ : nL (locA α x y z1 z2 z3) = nL α + 1 := (locN hn).2.1
  have nV_ : nV (locA α x y z1 z2 z3) = nV α := by unfold nV; rw [f909]
  have nP_ : nP (locA α x y z1 z2 z3) = nP α := by unfold nP; rw [f913]
  have em : ∀ v, mny (locA α x y z1 z2 z3) v = mny α v := fun v => by unfold mny; rw [f840]
  have er : ∀ v k9, rwf (locA α x y z1 z2 z3) v k9 = rwf α v k9 := fun v k9 => by unfold rwf; rw [f841]
  have r : AIr (locA α x y z1 z2 z3) := by
    refine ⟨?_, ?_, ?_, ?_, ?_, ?_⟩
    · simp only [f897]; exact hA1.1.1
    · simp only [f898]; exact hA1.1.2.1
    · simp only [f899]; exact hA1.1.2.2.1
    · simp only [f901, f902]; exact hA1.1.2.2.2.1
    · simp only [f911, f912]; exact hA1.1.2.2.2.2.1
    · simp only [f916, f917, f918]; exact hA1.1.2.2.2.2.2
  refine ⟨⟨⟨⟨r, ⟨?_, ?_, ?_, ?_⟩, ?_, ?_, ?_, ?_⟩, ⟨r, ?_, ?_⟩, ?_⟩, ?_, ?_, ?_, ?_, ?_, ?_, ?_, ?_⟩, ?_, ?_⟩
  · rw [nH_, f900]; exact c1
  · rw [nL_, loc0]; exact ⟨rfl, by omega⟩
  · rw [nV_, f909]; exact c3
  · rw [nP_, f913]; exact c4
  · simp only [em, f840]; exact v1
  · simp only [em, nV_]; exact v2
  · simp only [em, er, f841, nP_]; exact v3
  · simp only [em, er]; exact v4
  · rw [loc1, loc2]
    intro k hk
    by_cases z : k = nL α
    · subst z; rw [va_up_self, va_up_self]; exact ⟨hx, hy⟩
    · rw [va_up_ne _ _ z, va_up_ne _ _ z]; exact h.1.1.2.1.2.1 k hk
  · unfold OrdOk; simp only [f904, f905]; exact h.1.1.2.1.2.2
  · unfold LaidOk; simp only [f834, f836, f837]; exact h.1.1.2.2
  · simp only [f916, nP_, nH_]; exact x1
  · simp only [f904, f905, nL_, nH_]
    intro i hi k hk
    obtain ⟨wh, (e1 | e1)⟩ := x2 i hi k hk
    · exact ⟨wh, Or.inl ⟨e1.1, by have := e1.2; omega⟩⟩
    · exact ⟨wh, Or.inr e1⟩
  · unfold On OnAt; simp only [f834, nV_, em, er]; exact x3
  · simp only [f834, f838, f835, nP_]; exact x4
  · simp only [f835, nP_]; exact x5
  · simp only [f834, f836, nP_, nL_]
    exact fun q hq z => Nat.lt_succ_of_lt (x6 q hq z)
  · simp only [f904, nH_]; exact x7
  · simp only [f834, f835, f838, nP_]; exact x8
  · simp only [f915, nP_]; exact h.2.1
  · simp only [f834, f838, nP_]; exact h.2.2
theorem y_vanA {α : Ab} {x y z : Int32} (h : AIy α) (hn : nV α < 4) (hy : isN y 1439) (hz : isN z 1439) : AIy (vanA α x y z) := by
  have hA1 := h.1.1.1
  obtain ⟨x1, x2, x3, x4, x5, x6, x7, x8⟩ := h.1.2
  obtain ⟨c1, c2, c3, c4⟩ := hA1.2.1
  obtain ⟨v1, v2, v3, v4⟩ := hA1.2.2
  have f834 : (vanA α x y z) 834 = α 834 := vanF (by decide) (by decide) (by decide) (by decide)
  have f835 : (vanA α x y z) 835 = α 835 := vanF (by decide) (by decide) (by decide) (by decide)
  have f836 : (vanA α x y z) 836 = α 836 := vanF (by decide) (by decide) (by decide) (by decide)
  have f837 : (vanA α x y z) 837 = α 837 := vanF (by decide) (by decide) (by decide) (by decide)
  have f838 : (vanA α x y z) 838 = α 838 := vanF (by decide) (by decide) (by decide) (by decide)
  have f839 : (vanA α x y z) 839 = α 839 := vanF (by decide) (by decide) (by decide) (by decide)
  have f840 : (vanA α x y z) 840 = α 840 := vanF (by decide) (by decide) (by decide) (by decide)
  have f841 : (vanA α x y z) 841 = α 841 := vanF (by decide) (by decide) (by decide) (by decide)
  have f897 : (vanA α x y z) 897 = α 897 := vanF (by decide) (by decide) (by decide) (by decide)
  have f898 : (vanA α x y z) 898 = α 898 := vanF (by decide) (by decide) (by decide) (by decide)
  have f899 : (vanA α x y z) 899 = α 899 := vanF (by decide) (by decide) (by decide) (by decide)
  have f900 : (vanA α x y z) 900 = α 900 := vanF (by decide) (by decide) (by decide) (by decide)
  have f901 : (vanA α x y z) 901 = α 901 := vanF (by decide) (by decide) (by decide) (by decide)
  have f902 : (vanA α x y z) 902 = α 902 := vanF (by decide) (by decide) (by decide) (by decide)
  have f903 : (vanA α x y z) 903 = α 903 := vanF (by decide) (by decide) (by decide) (by decide)
  have f904 : (vanA α x y z) 904 = α 904 := vanF (by decide) (by decide) (by decide) (by decide)
  have f905 : (vanA α x y z) 905 = α 905 := vanF (by decide) (by decide) (by decide) (by decide)
  have f906 : (vanA α x y z) 906 = α 906 := vanF (by decide) (by decide) (by decide) (by decide)
  have f907 : (vanA α x y z) 907 = α 907 := vanF (by decide) (by decide) (by decide) (by decide)
  have f908 : (vanA α x y z) 908 = α 908 := vanF (by decide) (by decide) (by decide) (by decide)
  have f913 : (vanA α x y z) 913 = α 913 := vanF (by decide) (by decide) (by decide) (by decide)
  have f914 : (vanA α x y z) 914 = α 914 := vanF (by decide) (by decide) (by decide) (by decide)
  have f915 : (vanA α x y z) 915 = α 915 := vanF (by decide) (by decide) (by decide) (by decide)
  have f916 : (vanA α x y z) 916 = α 916 := vanF (by decide) (by decide) (by decide) (by decide)
  have f917 : (vanA α x y z) 917 = α 917 := vanF (by decide) (by decide) (by decide) (by decide)
  have f918 : (vanA α x y z) 918 = α 918 := vanF (by decide) (by decide) (by decide) (by decide)
  have nH_ : nH (vanA α x y z) = nH α := by unfold nH; rw [f900]
  have nL_ : nL (vanA α x y z) = nL α := by unfold nL; rw [f906]
  have nV_ : nV (vanA α x y z) = nV α + 1 := (vanN hn).2.2.1
  have nP_ : nP (vanA α x y z) = nP α := by unfold nP; rw [f913]
  have em : ∀ v, mny (vanA α x y z) v = mny α v := fun v => by unfold mny; rw [f840]
  have er : ∀ v k9, rwf (vanA α x y z) v k9 = rwf α v k9 := fun v k9 => by unfold rwf; rw [f841]
  have r : AIr (vanA α x y z) := by
    refine ⟨?_, ?_, ?_, ?_, ?_, ?_⟩
    · simp only [f897]; exact hA1.1.1
    · simp only [f898]; exact hA1.1.2.1
    · simp only [f899]; exact hA1.1.2.2.1
    · simp only [f901, f902]; exact hA1.1.2.2.2.1
    · rw [van2, van3]
      intro v hv
      by_cases e0 : v = nV α
      · subst e0; rw [va_up_self, va_up_self]; exact ⟨hy, hz⟩
      · rw [va_up_ne _ _ e0, va_up_ne _ _ e0]; exact hA1.1.2.2.2.2.1 v hv
    · simp only [f916, f917, f918]; exact hA1.1.2.2.2.2.2
  refine ⟨⟨⟨⟨r, ⟨?_, ?_, ?_, ?_⟩, ?_, ?_, ?_, ?_⟩, ⟨r, ?_, ?_⟩, ?_⟩, ?_, ?_, ?_, ?_, ?_, ?_, ?_, ?_⟩, ?_, ?_⟩
  · rw [nH_, f900]; exact c1
  · rw [nL_, f906]; exact c2
  · rw [nV_, van0]; exact ⟨rfl, by omega⟩
  · rw [nP_, f913]; exact c4
  · simp only [em, f840]; exact v1
  · simp only [em, nV_]
    exact fun v a b => v2 v (by omega) b
  · simp only [em, er, f841, nP_]; exact v3
  · simp only [em, er]; exact v4
  · simp only [f907, f908]; exact h.1.1.2.1.2.1
  · unfold OrdOk; simp only [f904, f905]; exact h.1.1.2.1.2.2
  · unfold LaidOk; simp only [f834, f836, f837]; exact h.1.1.2.2
  · simp only [f916, nP_, nH_]; exact x1
  · simp only [f904, f905, nL_, nH_]; exact x2
  · unfold On OnAt
    simp only [f834, nV_, em, er]
    intro q ⟨v, i, a, b, e0⟩
    refine x3 q ⟨v, i, ?_, b, e0⟩
    rcases Nat.lt_or_ge v (nV α) with y | y
    · exact y
    · rw [v2 v y (by omega)] at b; omega
  · simp only [f834, f838, f835, nP_]; exact x4
  · simp only [f835, nP_]; exact x5
  · simp only [f834, f836, nP_, nL_]; exact x6
  · simp only [f904, nH_]; exact x7
  · simp only [f834, f835, f838, nP_]; exact x8
  · simp only [f915, nP_]; exact h.2.1
  · simp only [f834, f838, nP_]; exact h.2.2
theorem y_parA {α : Ab} {a1 a2 a3 a4 a5 : Int32} (h : AIy α) (hn : nP α < 30) (ha2 : a2 ≤ 40) (ha3 : cl a3 < nH α) (h3 : isN a3 15) (h4 : isN a4 1439) (h5 : isN a5 1439) : AIy (parA α a1 a2 a3 a4 a5) := by
  have hA1 := h.1.1.1
  obtain ⟨x1, x2, x3, x4, x5, x6, x7, x8⟩ := h.1.2
  obtain ⟨c1, c2, c3, c4⟩ := hA1.2.1
  obtain ⟨v1, v2, v3, v4⟩ := hA1.2.2
  have f834 : (parA α a1 a2 a3 a4 a5) 834 = α 834 := parF (by decide) (by decide) (by decide) (by decide) (by decide) (by decide) (by decide)
  have f835 : (parA α a1 a2 a3 a4 a5) 835 = α 835 := parF (by decide) (by decide) (by decide) (by decide) (by decide) (by decide) (by decide)
  have f837 : (parA α a1 a2 a3 a4 a5) 837 = α 837 := parF (by decide) (by decide) (by decide) (by decide) (by decide) (by decide) (by decide)
  have f838 : (parA α a1 a2 a3 a4 a5) 838 = α 838 := parF (by decide) (by decide) (by decide) (by decide) (by decide) (by decide) (by decide)
  have f839 : (parA α a1 a2 a3 a4 a5) 839 = α 839 := parF (by decide) (by decide) (by decide) (by decide) (by decide) (by decide) (by decide)
  have f840 : (parA α a1 a2 a3 a4 a5) 840 = α 840 := parF (by decide) (by decide) (by decide) (by decide) (by decide) (by decide) (by decide)
  have f841 : (parA α a1 a2 a3 a4 a5) 841 = α 841 := parF (by decide) (by decide) (by decide) (by decide) (by decide) (by decide) (by decide)
  have f897 : (parA α a1 a2 a3 a4 a5) 897 = α 897 := parF (by decide) (by decide) (by decide) (by decide) (by decide) (by decide) (by decide)
  have f898 : (parA α a1 a2 a3 a4 a5) 898 = α 898 := parF (by decide) (by decide) (by decide) (by decide) (by decide) (by decide) (by decide)
  have f899 : (parA α a1 a2 a3 a4 a5) 899 = α 899 := parF (by decide) (by decide) (by decide) (by decide) (by decide) (by decide) (by decide)
  have f900 : (parA α a1 a2 a3 a4 a5) 900 = α 900 := parF (by decide) (by decide) (by decide) (by decide) (by decide) (by decide) (by decide)
  have f901 : (parA α a1 a2 a3 a4 a5) 901 = α 901 := parF (by decide) (by decide) (by decide) (by decide) (by decide) (by decide) (by decide)
  have f902 : (parA α a1 a2 a3 a4 a5) 902 = α 902 := parF (by decide) (by decide) (by decide) (by decide) (by decide) (by decide) (by decide)
  have f903 : (parA α a1 a2 a3 a4 a5) 903 = α 903 := parF (by decide) (by decide) (by decide) (by decide) (by decide) (by decide) (by decide)
  have f904 : (parA α a1 a2 a3 a4 a5) 904 = α 904 := parF (by decide) (by decide) (by decide) (by decide) (by decide) (by decide) (by decide)
  have f905 : (parA α a1 a2 a3 a4 a5) 905 = α 905 := parF (by decide) (by decide) (by decide) (by decide) (by decide) (by decide) (by decide)
  have f906 : (parA α a1 a2 a3 a4 a5) 906 = α 906 := parF (by decide) (by decide) (by decide) (by decide) (by decide) (by decide) (by decide)
  have f907 : (parA α a1 a2 a3 a4 a5) 907 = α 907 := parF (by decide) (by decide) (by decide) (by decide) (by decide) (by decide) (by decide)
  have f908 : (parA α a1 a2 a3 a4 a5) 908 = α 908 := parF (by decide) (by decide) (by decide) (by decide) (by decide) (by decide) (by decide)
  have f909 : (parA α a1 a2 a3 a4 a5) 909 = α 909 := parF (by decide) (by decide) (by decide) (by decide) (by decide) (by decide) (by decide)
  have f910 : (parA α a1 a2 a3 a4 a5) 910 = α 910 := parF (by decide) (by decide) (by decide) (by decide) (by decide) (by decide) (by decide)
  have f911 : (parA α a1 a2 a3 a4 a5) 911 = α 911 := parF (by decide) (by decide) (by decide) (by decide) (by decide) (by decide) (by decide)
  have f912 : (parA α a1 a2 a3 a4 a5) 912 = α 912 := parF (by decide) (by decide) (by decide) (by decide) (by decide) (by decide) (by decide)
  have nH_ : nH (parA α a1 a2 a3 a4 a5) = nH α := by unfold nH; rw [f900]
  have nL_ : nL (parA α a1 a2 a3 a4 a5) = nL α := by unfold nL; rw [f906]
  have nV_ : nV (parA α a1 a2 a3 a4 a5) = nV α := by unfold nV; rw [f909]
  have nP_ : nP (parA α a1 a2 a3 a4 a5) = nP α + 1 := (parN hn).2.2.2
  have em : ∀ v, mny (parA α a1 a2 a3 a4 a5) v = mny α v := fun v => by unfold mny; rw [f840]
  have er : ∀ v k9, rwf (parA α a1 a2 a3 a4 a5) v k9 = rwf α v k9 := fun v k9 => by unfold rwf; rw [f841]
  have r : AIr (parA α a1 a2 a3 a4 a5) := by
    refine ⟨?_, ?_, ?_, ?_, ?_, ?_⟩
    · simp only [f897]; exact hA1.1.1
    · simp only [f898]; exact hA1.1.2.1
    · simp only [f899]; exact hA1.1.2.2.1
    · simp only [f901, f902]; exact hA1.1.2.2.2.1
    · simp only [f911, f912]; exact hA1.1.2.2.2.2.1
    · rw [par3, par4, par5]
      intro q hq
      by_cases z : q = nP α
      · subst z; rw [va_up_self, va_up_self, va_up_self]; exact ⟨h3, h4, h5⟩
      · rw [va_up_ne _ _ z, va_up_ne _ _ z, va_up_ne _ _ z]; exact hA1.1.2.2.2.2.2 q hq
  refine ⟨⟨⟨⟨r, ⟨?_, ?_, ?_, ?_⟩, ?_, ?_, ?_, ?_⟩, ⟨r, ?_, ?_⟩, ?_⟩, ?_, ?_, ?_, ?_, ?_, ?_, ?_, ?_⟩, ?_, ?_⟩
  · rw [nH_, f900]; exact c1
  · rw [nL_, f906]; exact c2
  · rw [nV_, f909]; exact c3
  · rw [nP_, par0]; exact ⟨rfl, by omega⟩
  · simp only [em, f840]; exact v1
  · simp only [em, nV_]; exact v2
  · simp only [em, er, f841, nP_]
    exact fun v i a b => ⟨(v3 v i a b).1, Nat.lt_succ_of_lt (v3 v i a b).2⟩
  · simp only [em, er]; exact v4
  · simp only [f907, f908]; exact h.1.1.2.1.2.1
  · unfold OrdOk; simp only [f904, f905]; exact h.1.1.2.1.2.2
  · unfold LaidOk
    rw [par6, f834, f837]
    intro q hq e0
    by_cases z : q = nP α
    · subst z; rw [(x8 _ (Nat.le_refl _) hn).1] at e0; exact absurd e0 (by decide)
    · rw [va_up_ne _ _ z]; exact h.1.1.2.2 q hq e0
  · simp only [nP_, nH_]
    rw [par3]
    intro q hq
    by_cases z : q = nP α
    · subst z; rw [va_up_self]; exact ha3
    · rw [va_up_ne _ _ z]; exact x1 q (by omega)
  · simp only [f904, f905, nL_, nH_]; exact x2
  · unfold On OnAt; simp only [f834, nV_, em, er]; exact x3
  · simp only [f834, f838, f835, nP_]
    intro q hq e0
    by_cases z : q = nP α
    · subst z
      have := x8 _ (Nat.le_refl _) hn
      rw [this.2.2, this.2.1]; exact ⟨rfl, by decide, by decide⟩
    · exact x4 q (by omega) e0
  · simp only [f835, nP_]
    intro q hq
    by_cases z : q = nP α
    · subst z
      rw [(x8 _ (Nat.le_refl _) hn).2.1]; exact ⟨by decide, by decide⟩
    · exact x5 q (by omega)
  · simp only [f834, nP_, nL_]
    rw [par6]
    intro q hq e0
    by_cases z : q = nP α
    · subst z; rw [(x8 _ (Nat.le_refl _) hn).1] at e0; exact absurd e0 (by decide)
    · rw [va_up_ne _ _ z]; exact x6 q (by omega) e0
  · simp only [f904, nH_]; exact x7
  · simp only [f834, f835, f838, nP_]
    exact fun q a b => x8 q (by omega) b
  · simp only [nP_]
    rw [par2]
    intro q hq
    by_cases z : q = nP α
    · subst z; rw [va_up_self]; exact ha2
    · rw [va_up_ne _ _ z]; exact h.2.1 q (by omega)
  · simp only [f834, f838, nP_]
    intro q hq e0
    by_cases z : q = nP α
    · subst z; rw [(x8 _ (Nat.le_refl _) hn).1] at e0; exact absurd e0 (by decide)
    · exact h.2.2 q (by omega) e0
theorem y_roads {α : Ab} (h : AIy α) (a b : Int32) : AIy (opRoads α a b).2.2 := by
  unfold opRoads
  split
  · exact h
  · split
    · exact h
    · rename_i h1 h2
      exact y_roadsA h (inR_N (Decidable.not_not.mp h2) (by decide))
theorem y_depot {α : Ab} (h : AIy α) (a b : Int32) : AIy (opDepot α a b).2.2 := by
  unfold opDepot
  split
  · exact h
  · rename_i h1
    have h1 := Decidable.not_not.mp h1
    exact y_depotA h (inR_N h1.1 (by decide)) (inR_N h1.2 (by decide))
theorem y_home {α : Ab} (h : AIy α) (a b c' : Int32) : AIy (opHome α a b c').2.2 := by
  unfold opHome
  split
  · exact h
  · split
    · exact h
    · rename_i h1 h2
      have h1 := Decidable.not_not.mp h1
      exact y_homA h (by have := h.1.1.1.2.1.1.2; omega) (inR_N h1.1.1 (by decide)) (inR_N h1.1.2 (by decide))
theorem y_order {α : Ab} (h : AIy α) (a b c' : Int32) : AIy (opOrder α a b c').2.2 := by
  have n16 := h.1.1.1.2.1.1.2
  have n4 := h.1.1.1.2.1.2.1.2
  unfold opOrder
  split
  · exact h
  · split
    · exact h
    · split
      · exact h
      · rename_i h1 h2 h3
        have h1 := Classical.not_not.mp h1
        obtain ⟨i, hi, rfl⟩ := h1.1.nI
        rw [cl_nI (by omega)] at h3
        show AIy (ordA α (cl (nI i)) ((if b = 0 then 200 else 100) + c'))
        rw [cl_nI (by omega)]
        refine y_ordA h hi h3 ?_
        rcases h1.2 with ⟨e1, e2⟩ | ⟨e1, e2⟩
        · obtain ⟨wh, hw, rfl⟩ := e2.nI
          exact ⟨wh, Or.inr ⟨by rw [if_pos e1, show (200 : Int32) = nI 200 from rfl, nI_add], hw⟩⟩
        · obtain ⟨wh, hw, rfl⟩ := e2.nI
          exact ⟨wh, Or.inl ⟨by rw [if_neg e1, show (100 : Int32) = nI 100 from rfl, nI_add], hw⟩⟩
theorem y_locker {α : Ab} (h : AIy α) (a b c1 c2 c3 : Int32) : AIy (opLocker α a b c1 c2 c3).2.2 := by
  unfold opLocker
  split
  · exact h
  · split
    · exact h
    · rename_i h1 h2
      have h1 := Decidable.not_not.mp h1
      exact y_locA h (by have := h.1.1.1.2.1.2.1.2; omega) (inR_N h1.1.1 (by decide)) (inR_N h1.1.2 (by decide))
theorem y_van {α : Ab} (h : AIy α) (a b c' : Int32) : AIy (opVan α a b c').2.2 := by
  unfold opVan
  split
  · exact h
  · split
    · exact h
    · rename_i h1 h2
      have h1 := Decidable.not_not.mp h1
      have hb := inR_N h1.2.1 (by decide)
      exact y_vanA h (by have := h.1.1.1.2.1.2.2.1.2; omega) hb (inR_N h1.2.2 hb.1)
theorem y_parcel {α : Ab} (h : AIy α) (a1 a2 a3 a4 a5 : Int32) : AIy (opParcel α a1 a2 a3 a4 a5).2.2 := by
  have n16 := h.1.1.1.2.1.1.2
  unfold opParcel
  split
  · exact h
  · split
    · exact h
    · split
      · exact h
      · rename_i h1 h2 h3
        have h1 := Decidable.not_not.mp h1
        have h2 := Classical.not_not.mp h2
        obtain ⟨i, hi, rfl⟩ := h2.nI
        have h4 := inR_N h1.2.2.1 (by decide)
        exact y_parA h (by have := h.1.1.1.2.1.2.2.2.2; omega) h1.2.1.2 (by rw [cl_nI (by omega)]; exact hi) ⟨by rw [nI_toInt (by omega)]; omega, by rw [nI_toInt (by omega)]; omega⟩ h4 (inR_N h1.2.2.2 h4.1)
