/-! DRIVING -/
def LaidOk (D : Ab) : Prop := ∀ q, q < 30 → D 834 q = 2 → (∃ k, k < 4 ∧ D 836 q = nI k) ∧ ∃ b, b < 3 ∧ D 837 q = nI b
theorem LaidOk.of {D D' : Ab} (h : LaidOk D) (h1 : D' 834 = D 834) (h2 : D' 836 = D 836) (h3 : D' 837 = D 837) : LaidOk D' := by
  intro q h30 hq
  rw [h1] at hq
  rw [h2, h3]; exact h q h30 hq
/-- one parcel's state becomes another than 'in a locker' -/
theorem LaidOk.upd {D D' : Ab} (h : LaidOk D) {q : Nat} {v : Int32} (hv : ¬ v = 2) (h1 : D' 834 = va_up (D 834) q v) (h2 : ∀ i, i ≠ q → D' 836 i = D 836 i) (h3 : D' 837 = D 837) : LaidOk D' := by
  intro i h30 hi
  rw [h1] at hi
  by_cases c : i = q
  · subst c; rw [va_up_self] at hi; exact absurd hi hv
  · rw [va_up_ne _ _ c] at hi
    rw [h2 i c, h3]; exact h i h30 hi
theorem goD_lo {D : Ab} {gx gy : Int32} {F : Nat} (h : F < 842) : goD D gx gy F = D F := by
  unfold goD; rw [au_neF (by omega), au_neF (by omega), au_neF (by omega)]
theorem LaidOk_try {D : Ab} (h : LaidOk D) (hA : AIw D) {q hm k : Nat} (hh : hm < 16) (hk : k < cl (D 904 hm)) : LaidOk (tryD D q hm k).2 := by
  obtain ⟨wh, hw⟩ := (hA.2.2 hm hh).2.2 k hk
  have h904 := (hA.2.2 hm hh).2.1
  have hg : ∀ gx gy, LaidOk (goD D gx gy) := fun gx gy => h.of (goD_lo (by decide)) (goD_lo (by decide)) (goD_lo (by decide))
  unfold tryD
  rcases hw with ⟨e, hw⟩ | ⟨e, hw⟩
  · have c : ¬ (200 : Int32) ≤ D 905 (3 * hm + k) := by rw [e, show (200 : Int32) = nI 200 from rfl]; exact nI_ge (by omega) (by omega)
    rw [if_neg c, whD_eq e (by decide) (by decide) (by omega)]
    by_cases c2 : D 914 q = 1 ∨ boxD D q wh = -1 ∨ ¬ dist (D 901 hm) (D 902 hm) (D 907 wh) (D 908 wh) ≤ 15
    · rw [if_pos c2]; exact h
    · rw [if_neg c2]
      have hb : ∃ b, b < 3 ∧ boxD D q wh = nI b := by
        rcases boxD_cases D q wh with z | z
        · exact absurd (Or.inr (Or.inl z)) c2
        · exact z
      obtain ⟨b, hb3, eb⟩ := hb
      rw [eb, cl_nI (by omega)]
      intro i h30 hi
      show (∃ k, k < 4 ∧ va_up (D 836) q (nI wh) i = nI k) ∧ ∃ b', b' < 3 ∧ va_up (D 837) q (nI b) i = nI b'
      by_cases ci : i = q
      · subst ci; rw [va_up_self, va_up_self]; exact ⟨⟨wh, hw, rfl⟩, ⟨b, hb3, rfl⟩⟩
      · rw [va_up_ne _ _ ci, va_up_ne _ _ ci]
        have hi : va_up (D 834) q 2 i = 2 := hi
        rw [va_up_ne _ _ ci] at hi
        exact h i h30 hi
  · have c : (200 : Int32) ≤ D 905 (3 * hm + k) := by rw [e, show (200 : Int32) = nI 200 from rfl]; exact nI_le (by omega) (by omega)
    rw [if_pos c, whD_eq e (by decide) (by decide) (by omega)]
    split
    · split
      · exact (hg _ _).upd (q := q) (v := 3) (by decide) rfl (fun i hi => va_up_ne _ _ hi) rfl
      · exact hg _ _
    · exact h
theorem LaidOk_plc {q hm : Nat} (hh : hm < 16) {n : Nat} : ∀ d k (D : Ab), LaidOk D → AIw D → cl (D 904 hm) = n → k + d = n → LaidOk (plcD q hm d k D).2 := by
  intro d
  induction d with
  | zero => exact fun k D h _ _ _ => h
  | succ d ih =>
    intro k D h hA hn hk
    have e : plcD q hm (d + 1) k D = if (tryD D q hm k).1 = true then tryD D q hm k else plcD q hm d (k + 1) (tryD D q hm k).2 := rfl
    have tt := LaidOk_try (q := q) (k := k) h hA hh (by omega)
    rw [e]
    split
    · exact tt
    · exact ih (k + 1) _ tt (hA.D tryD_D) (by rw [tryD_D 904 (by decide) (by decide)]; exact hn) (by omega)
theorem LaidOk_lost {D : Ab} {q : Nat} (h : LaidOk D) : LaidOk (lostD D q) := by
  unfold lostD
  split
  · exact h.upd (q := q) (v := 4) (by decide) rfl (fun _ _ => rfl) rfl
  · exact h
theorem LaidOk_done {D : Ab} {q : Nat} (h : LaidOk D) (hA : AIw D) (hq : q < 30) : LaidOk (doneD D q).2 := by
  obtain ⟨e, hb⟩ := (hA.1.2.2.2.2.2 q hq).1.nI
  have h16 : cl (D 916 q) < 16 := by show (D 916 q).toNatClampNeg < 16; omega
  have h1 : LaidOk (stayD D q) := h.of (stayD_hi (by omega)) (stayD_hi (by omega)) (stayD_hi (by omega))
  have h2 : LaidOk (tryA D q) := h.of (tryA_hi (by omega) (by omega)) (tryA_hi (by omega) (by omega)) (tryA_hi (by omega) (by omega))
  have h3 : LaidOk (plF (tryA D q) q).2 := by
    have e1 : cl (tryA D q 916 q) = cl (D 916 q) := by rw [tryA_D 916 (by decide) (by decide)]
    unfold plF
    rw [e1]
    exact LaidOk_plc h16 _ 0 _ h2 (hA.D tryA_D) rfl (by omega)
  unfold doneD
  split
  · exact h1.upd (q := q) (v := 1) (by decide) rfl (fun _ _ => rfl) rfl
  · split
    · exact LaidOk_lost h2
    · split
      · exact h3
      · exact LaidOk_lost h3
/-- what a stop leaves: the map, the things, the routes, the day's latest -/
theorem tryD_40 {D : Ab} {q h k F : Nat} (h1 : F = 832 ∨ F = 833 ∨ F = 840 ∨ F = 841) : (tryD D q h k).2 F = D F := by
  have hg : ∀ (D : Ab) gx gy, goD D gx gy F = D F := fun D gx gy => goD_lo (by omega)
  unfold tryD
  split
  · split
    · split
      · show leftD _ _ _ F = _
        unfold leftD; rw [aset_ne (by omega), aset_ne (by omega), au_neF (by omega), hg]
      · exact hg D _ _
    · rfl
  · split
    · rfl
    · show layD _ _ _ _ F = _
      unfold layD; rw [aset_ne (by omega), aset_ne (by omega), aset_ne (by omega), aset_ne (by omega), aset_ne (by omega), au_neF (by omega), hg]
theorem plcD_40 {q h F : Nat} (h1 : F = 832 ∨ F = 833 ∨ F = 840 ∨ F = 841) : ∀ d k (D : Ab), (plcD q h d k D).2 F = D F := by
  intro d
  induction d with
  | zero => exact fun k D => rfl
  | succ d ih =>
    intro k D
    have e : plcD q h (d + 1) k D = if (tryD D q h k).1 = true then tryD D q h k else plcD q h d (k + 1) (tryD D q h k).2 := rfl
    rw [e]
    split
    · exact tryD_40 h1
    · rw [ih (k + 1)]; exact tryD_40 h1
theorem doneD_40 {D : Ab} {q F : Nat} (h1 : F = 832 ∨ F = 833 ∨ F = 840 ∨ F = 841) : (doneD D q).2 F = D F := by
  have a1 : stayD D q F = D F := stayD_hi (by omega)
  have a2 : tryA D q F = D F := tryA_hi (by omega) (by omega)
  have a3 : (plF (tryA D q) q).2 F = D F := by unfold plF; rw [plcD_40 h1]; exact a2
  unfold doneD
  split
  · show aset _ _ _ F = _; rw [aset_ne (by omega)]; exact a1
  · split
    · show lostD _ _ F = _; rw [lostD_hi (by omega)]; exact a2
    · split
      · exact a3
      · show lostD _ _ F = _; rw [lostD_hi (by omega)]; exact a3
theorem doneD_D {D : Ab} {q : Nat} : FrD D (doneD D q).2 := by
  intro F x1 x2
  have a1 : stayD D q F = D F := stayD_hi (by omega)
  have a2 : tryA D q F = D F := tryA_D F x1 x2
  have a3 : (plF (tryA D q) q).2 F = D F := by unfold plF; rw [plcD_D _ _ _ F x1 x2]; exact a2
  unfold doneD
  split
  · show aset _ _ _ F = _; rw [aset_ne (by omega)]; exact a1
  · split
    · show lostD _ _ F = _; rw [lostD_hi (by omega)]; exact a2
    · split
      · exact a3
      · show lostD _ _ F = _; rw [lostD_hi (by omega)]; exact a3
def stV (v : Nat) : Nat → Nat → Int32 → Ab → Int32 × Ab
  | 0, _, c, D => (c, D)
  | d + 1, k, c, D => if D 912 v + 60 < D 842 0 then (c, D) else stV v d (k + 1) (c + bI (doneD D (rwf D v k)).1) (doneD D (rwf D v k)).2
def begV (D : Ab) (v : Nat) : Ab := au (au (au (au D 842 0 (D 911 v)) 843 0 (D 911 v)) 844 0 (D 898 0)) 845 0 (D 899 0)
def lateV (D : Ab) (v : Nat) : Ab := aset (au D 833 0 (if D 833 0 < D 842 0 then D 842 0 else D 833 0)) 840 (va_up (D 840) v 0)
def endV (D : Ab) (v : Nat) : Ab := lateV (wkD D (D 898 0) (D 899 0)) v
def drV (D0 : Ab) : Nat → Int32 × Ab
  | 0 => (0, au D0 833 0 0)
  | v + 1 => ((stV v (mny D0 v) 0 (drV D0 v).1 (begV (drV D0 v).2 v)).1, endV (stV v (mny D0 v) 0 (drV D0 v).1 (begV (drV D0 v).2 v)).2 v)
def opnD (D : Ab) (q : Nat) (v : Int32) : Ab := aset (aset (aset D 839 (va_up (D 839) (3 * cl (D 836 q) + cl (D 837 q)) (D 839 (3 * cl (D 836 q) + cl (D 837 q)) + 1))) 836 (va_up (D 836) q (-1))) 834 (va_up (D 834) q v)
def nigA (D : Ab) (q : Nat) : Ab := aset D 838 (va_up (D 838) q (D 838 q + 1))
def niD (D : Ab) (q : Nat) : Ab :=
  if D 834 q = 2 then
    if dist (D 901 (cl (D 916 q))) (D 902 (cl (D 916 q))) (D 907 (cl (D 836 q))) (D 908 (cl (D 836 q))) ≤ 10 then opnD (nigA D q) q 1
    else if (nigA D q) 838 q = 3 then opnD (nigA D q) q 4 else nigA D q
  else D
def niN (D0 : Ab) : Nat → Ab
  | 0 => D0
  | q + 1 => niD (niN D0 q) q
def driveD (D : Ab) : Int32 × Ab := ((drV D (nV D)).1, au (niN (drV D (nV D)).2 (nP D)) 832 0 (niN (drV D (nV D)).2 (nP D) 832 0 + 1))
