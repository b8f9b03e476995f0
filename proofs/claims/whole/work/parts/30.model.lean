/-! THE REFERENCE'S CELLS as numbers: α F i, F a field's number (of the state 'ahead': 1000 more); a number alone: α F 0 -/
abbrev Ab : Type := Nat → Nat → Int32
def au (α : Ab) (F i : Nat) (v : Int32) : Ab := fun F' i' => if F' = F ∧ i' = i then v else α F' i'
def aset (α : Ab) (F : Nat) (g : Nat → Int32) : Ab := fun F' => if F' = F then g else α F'
theorem aset_same {α : Ab} {F : Nat} {g : Nat → Int32} : aset α F g F = g := if_pos rfl
theorem aset_ne {α : Ab} {F F' : Nat} {g : Nat → Int32} (h : F' ≠ F) : aset α F g F' = α F' := if_neg h
theorem au_same {α : Ab} {F i : Nat} {v : Int32} : au α F i v F i = v := if_pos ⟨rfl, rfl⟩
theorem au_ne {α : Ab} {F F' i i' : Nat} {v : Int32} (h : F' ≠ F) : au α F i v F' i' = α F' i' := if_neg (fun z => h z.1)
theorem au_neF {α : Ab} {F F' i : Nat} {v : Int32} (h : F' ≠ F) : au α F i v F' = α F' := funext fun _ => au_ne h
def mLen : Nat → Nat
  | 897 => 24 | 901 => 16 | 902 => 16 | 903 => 16 | 904 => 16 | 905 => 48 | 907 => 4 | 908 => 4 | 910 => 4 | 911 => 4 | 912 => 4
  | 914 => 30 | 915 => 30 | 916 => 30 | 917 => 30 | 918 => 30 | 921 => 13 | 923 => 13 | 924 => 13 | 925 => 13
  | 834 => 30 | 835 => 30 | 836 => 30 | 837 => 30 | 838 => 30 | 839 => 12 | 840 => 4 | 841 => 48
  | 1834 => 30 | 1835 => 30 | 1836 => 30 | 1837 => 30 | 1838 => 30 | 1839 => 12 | 1840 => 4 | 1841 => 48
  | _ => 0
def mSc : Nat → Bool
  | 896 => true | 898 => true | 899 => true | 900 => true | 906 => true | 909 => true | 913 => true | 922 => true | 926 => true | 927 => true | 928 => true | 929 => true | 930 => true | 931 => true
  | 832 => true | 833 => true | 842 => true | 843 => true | 844 => true | 845 => true
  | 1832 => true | 1833 => true | 1842 => true | 1843 => true | 1844 => true | 1845 => true
  | _ => false
def fo (F : Nat) : Nat := if F < 1000 then F else F - 1000
def mOwn (m s ah F : Nat) : Nat := if F < 896 then s else if F < 1000 then m else ah
def MR (S : St) (m s ah : Nat) (A : Nat → Nat) (α : Ab) : Prop :=
  (kd S m = 15 ∧ kd S s = 14 ∧ kd S ah = 14 ∧ s ≠ ah ∧ gP S 919 m = some s ∧ gP S 920 m = some ah ∧ gP S 846 s = some m ∧ gP S 846 ah = some m) ∧
  (∀ F, mLen F ≠ 0 → gP S (fo F) (mOwn m s ah F) = some (A F) ∧ kd S (A F) = 21 ∧ ln S (A F) = mLen F ∧ rI S (A F) = α F) ∧
  (∀ F F', mLen F ≠ 0 → mLen F' ≠ 0 → A F = A F' → F = F') ∧
  (∀ F, mSc F = true → gI S (fo F) (mOwn m s ah F) = α F 0)
theorem mLen_lt {F : Nat} (h : mLen F ≠ 0) : F < 2000 := by
  by_cases z : F < 2000
  · exact z
  · exact absurd (by unfold mLen; split <;> first | omega | rfl) h
theorem mSc_lt {F : Nat} (h : mSc F = true) : F < 2000 := by
  by_cases z : F < 2000
  · exact z
  · exfalso
    revert h
    unfold mSc
    split <;> first | (intro h; cases h; done) | omega
theorem mArr_dec : ∀ F, F < 2000 → ¬ (mLen F ≠ 0 ∧ mSc F = true) := by decide +kernel
theorem MR.ar {S : St} {m s ah : Nat} {A : Nat → Nat} {α : Ab} (h : MR S m s ah A α) (F : Nat) (hF : mLen F ≠ 0) : gP S (fo F) (mOwn m s ah F) = some (A F) ∧ kd S (A F) = 21 ∧ ln S (A F) = mLen F ∧ rI S (A F) = α F := h.2.1 F hF
theorem MR.sc {S : St} {m s ah : Nat} {A : Nat → Nat} {α : Ab} (h : MR S m s ah A α) (F : Nat) (hF : mSc F = true) : gI S (fo F) (mOwn m s ah F) = α F 0 := h.2.2.2 F hF
/-- a row is written -/
theorem MR.setA {S : St} {m s ah : Nat} {A : Nat → Nat} {α : Ab} (h : MR S m s ah A α) {F : Nat} (hF : mLen F ≠ 0) (g : Nat → Int32) : MR (sRI S (A F) g) m s ah A (aset α F g) := by
  obtain ⟨h1, h2, h3, h4⟩ := h
  refine ⟨h1, fun F' hF' => ?_, h3, fun F' hF' => ?_⟩
  · obtain ⟨a1, a2, a3, a4⟩ := h2 F' hF'
    refine ⟨a1, a2, a3, ?_⟩
    rw [rI_sRI]
    by_cases e : F' = F
    · subst e; rw [if_pos rfl, aset_same]
    · rw [if_neg (fun z => e (h3 F' F hF' hF z)), aset_ne e]; exact a4
  · rw [gI_sRI, h4 F' hF']
    have e : F' ≠ F := by
      rintro rfl
      exact mArr_dec F' (mLen_lt hF) ⟨hF, hF'⟩
    rw [aset_ne e]
theorem mOwn_inj {m s ah F F' : Nat} (hms : m ≠ s) (hma : m ≠ ah) (hsa : s ≠ ah) (hF : mSc F = true) (hF' : mSc F' = true) (e1 : fo F = fo F') (e2 : mOwn m s ah F = mOwn m s ah F') : F = F' := by
  unfold fo at e1
  unfold mOwn at e2
  have l1 := mSc_lt hF
  have l2 := mSc_lt hF'
  repeat' split at e1
  all_goals (repeat' split at e2) <;> first | omega | (exfalso; omega)
theorem MR.ne {S : St} {m s ah : Nat} {A : Nat → Nat} {α : Ab} (h : MR S m s ah A α) : m ≠ s ∧ m ≠ ah ∧ s ≠ ah := by
  obtain ⟨⟨a1, a2, a3, a4, -⟩, -⟩ := h
  exact ⟨fun z => by rw [z, a2] at a1; omega, fun z => by rw [z, a3] at a1; omega, a4⟩
/-- a number is written -/
theorem MR.setS {S : St} {m s ah : Nat} {A : Nat → Nat} {α : Ab} (h : MR S m s ah A α) {F : Nat} (hF : mSc F = true) (v : Int32) : MR (sI S (fo F) (mOwn m s ah F) v) m s ah A (au α F 0 v) := by
  have hne := h.ne
  obtain ⟨h1, h2, h3, h4⟩ := h
  refine ⟨h1, fun F' hF' => ?_, h3, fun F' hF' => ?_⟩
  · obtain ⟨a1, a2, a3, a4⟩ := h2 F' hF'
    refine ⟨a1, a2, a3, ?_⟩
    rw [rI_sI, a4]
    have e : F' ≠ F := by
      rintro rfl
      exact mArr_dec F' (mLen_lt hF') ⟨hF', hF⟩
    rw [au_neF e]
  · rw [gI_sI]
    by_cases e : F' = F
    · subst e; rw [if_pos ⟨rfl, rfl⟩, au_same]
    · rw [if_neg (fun z => e (mOwn_inj hne.1 hne.2.1 hne.2.2 hF' hF z.1 z.2)), au_ne e]
      exact h4 F' hF'
