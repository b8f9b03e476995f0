/-- planning's scratch in the reference -/
def scr2 (F : Nat) : Bool := scrC F || F == 921 || F == 922
def FrM (α α' : Ab) : Prop := ∀ F, scr2 F = false → α' F = α F
theorem FrM.rf {α : Ab} : FrM α α := fun _ _ => rfl
theorem FrM.tr {α β γ : Ab} (h : FrM α β) (g : FrM β γ) : FrM α γ := fun F hF => (g F hF).trans (h F hF)
theorem scr2_ne {F G : Nat} (hF : scr2 F = false) (hG : scr2 G = true) : F ≠ G := by rintro rfl; rw [hF] at hG; cases hG
theorem pdat_congr {α β : Ab} (h : FrM α β) (p : Nat) : pdat β p = pdat α p := by
  unfold pdat
  rw [h 901 rfl, h 902 rfl, h 916 rfl, h 917 rfl, h 918 rfl, h 914 rfl, h 915 rfl]
theorem Pok_congr {α β : Ab} (h : FrM α β) {p : Nat} (hp : Pok α p) : Pok β p := by
  obtain ⟨h1, hh, h2, h3⟩ := hp
  exact ⟨h1, hh, h2, by rw [h 916 rfl]; exact h3⟩
theorem nI_nn {n : Nat} (h : n < 2 ^ 31) : ¬ nI n < 0 := nI_pos h
theorem mul12 (v : Nat) : (12 : Int32) * nI v = nI (12 * v) := pk_mul 12 v
section MR1
variable {l : Launch} {w : Wd} {S : St} {m0 s0 ah : Nat} {A : Nat → Nat}
theorem c_look {α : Ab} {v n : Nat} (h : MR S m0 s0 ah A α) (hv : v < 4) (hn : α 840 v = nI n) (hn12 : n ≤ 12) : ConV l yX13_look (wsOf yX13_look cX13_look 2 none) rX13_look w S [.ref m0, .int (nI v)] (fun S' => ∃ α', MR S' m0 s0 ah A α' ∧ (∀ F, F ≠ 921 → F ≠ 922 → α' F = α F) ∧ α' 922 0 = nI n ∧ ∀ i, i < n → α' 921 i = α 841 (12 * v + i)) := by
  refine con_V (by decide +kernel) rfl (Nat.le_of_ble_eq_true rfl) (fun p e s m args below meth c B => ?_)
  obtain ⟨a1, a2, a3, a4⟩ := h.ar 840 (by decide)
  obtain ⟨b1, b2, b3, b4⟩ := h.ar 841 (by decide)
  obtain ⟨c1, c2, c3, c4⟩ := h.ar 921 (by decide)
  obtain ⟨⟨g1, g2, g3, g4, g5, g6, g7, g8⟩, -⟩ := id h
  have ev : (nI v).toNatClampNeg = v := nI_clamp (by omega)
  have e1 : rI S (A 840) (nI v).toNatClampNeg = nI n := by rw [a4, ev]; exact hn
  have en : (nI n).toNatClampNeg = n := nI_clamp (by omega)
  have e12 : ((12 : Int32) * nI v).toNatClampNeg = 12 * v := by rw [mul12]; exact nI_clamp (by omega)
  have e0 : (0 : Int32).toNatClampNeg = 0 := rfl
  refine bX13_look_0 B g1 g5 g2 a1 a2 (by rw [a3]; exact vp_in_nI hv (by decide)) g5 g2 b1 c1 b2 c2 (by rw [mul12]; exact nI_nn (by omega)) (by rw [e1]; exact nI_nn (by omega)) (by rw [e12, e1, en, b3]; show _ ≤ 48; omega) (by rw [e1, en, e0, c3]; show _ ≤ 13; omega) ?_
  rw [e1, en, e12, e0]
  have h1 := h.setS (F := 922) (by decide) (nI n)
  have h2 := h1.setA (F := 921) (by decide) (va_cpy (α 841) (α 921) (12 * v) 0 n)
  rw [rI_sI, rI_sI, b4, c4]
  refine ⟨_, h2, fun F f1 f2 => by rw [aset_ne f1, au_neF f2], by rw [aset_ne (by decide), au_same], fun i hi => ?_⟩
  rw [aset_same, pk_cpy_in (by omega) (by omega)]
  congr 1
theorem c_minsert {α : Ab} {p k n : Nat} (h : MR S m0 s0 ah A α) (hn : α 922 0 = nI n) (hn12 : n ≤ 12) (hk : k ≤ n) : ConV l yX13_insert (wsOf yX13_insert cX13_insert 3 none) rX13_insert w S [.ref m0, .int (nI p), .int (nI k)] (fun S' => ∃ α', MR S' m0 s0 ah A α' ∧ (∀ F, F ≠ 921 → F ≠ 922 → α' F = α F) ∧ α' 922 0 = nI (n + 1) ∧ ∀ i, i < n + 1 → α' 921 i = if i < k then α 921 i else if i = k then nI p else α 921 (i - 1)) := by
  refine con_V (by decide +kernel) rfl (Nat.le_of_ble_eq_true rfl) (fun p e s m args below meth c B => ?_)
  obtain ⟨c1, c2, c3, c4⟩ := h.ar 921 (by decide)
  have g1 := h.1.1
  have hln : gI S 922 m0 = nI n := (h.sc 922 (by decide)).trans hn
  have ek : (nI k).toNatClampNeg = k := nI_clamp (by omega)
  have ek1 : (nI k + 1).toNatClampNeg = k + 1 := by rw [nI_1]; exact nI_clamp (by omega)
  have ed : nI n - nI k = nI (n - k) := pk_sub hk
  have edc : (nI (n - k)).toNatClampNeg = n - k := nI_clamp (by omega)
  refine bX13_insert_0 B g1 c1 c1 c2 c2 (nI_nn (by omega)) (by rw [nI_1]; exact nI_nn (by omega)) (by rw [hln, ed]; exact nI_nn (by omega)) (by rw [hln, ed, ek, edc, c3]; show _ ≤ 13; omega) (by rw [hln, ed, ek1, edc, c3]; show _ ≤ 13; omega) c1 c2 (by rw [c3]; exact vp_in_nI (show k < 13 by omega) (by decide)) ?_
  rw [hln, ed, ek, ek1, edc, sRI_sRI, rI_sRI, if_pos rfl, c4]
  have h1 := h.setA (F := 921) (by decide) (va_up (va_cpy (α 921) (α 921) k (k + 1) (n - k)) k (nI p))
  have e2 : gI (sRI S (A 921) (va_up (va_cpy (α 921) (α 921) k (k + 1) (n - k)) k (nI p))) 922 m0 = nI n := (gI_sRI ..).trans hln
  have h2 := h1.setS (F := 922) (by decide) (nI (n + 1))
  refine bX13_insert_28 B g1 ?_
  rw [e2, nI_1]
  refine ⟨_, h2, fun F f1 f2 => by rw [au_neF f2, aset_ne f1], au_same, fun i hi => ?_⟩
  rw [au_neF (by decide), aset_same]
  by_cases q1 : i = k
  · subst q1; rw [va_up_self, if_neg (by omega), if_pos rfl]
  · rw [va_up_ne _ _ q1]
    by_cases q2 : i < k
    · rw [if_pos q2, pk_cpy_out (Or.inl (by omega))]
    · rw [if_neg q2, if_neg q1, pk_cpy_in (by omega) (by omega)]
      congr 1
      omega
theorem c_mremove {α : Ab} {k n : Nat} (h : MR S m0 s0 ah A α) (hn : α 922 0 = nI n) (hn12 : n ≤ 13) (hk : k < n) : ConV l yX13_remove (wsOf yX13_remove cX13_remove 2 none) rX13_remove w S [.ref m0, .int (nI k)] (fun S' => ∃ α', MR S' m0 s0 ah A α' ∧ (∀ F, F ≠ 921 → F ≠ 922 → α' F = α F) ∧ α' 922 0 = nI (n - 1) ∧ ∀ i, i < n - 1 → α' 921 i = if i < k then α 921 i else α 921 (i + 1)) := by
  refine con_V (by decide +kernel) rfl (Nat.le_of_ble_eq_true rfl) (fun p e s m args below meth c B => ?_)
  obtain ⟨c1, c2, c3, c4⟩ := h.ar 921 (by decide)
  have g1 := h.1.1
  have hln : gI S 922 m0 = nI n := (h.sc 922 (by decide)).trans hn
  have ek : (nI k).toNatClampNeg = k := nI_clamp (by omega)
  have ek1 : (nI k + 1).toNatClampNeg = k + 1 := by rw [nI_1]; exact nI_clamp (by omega)
  have e1 : nI n - 1 = nI (n - 1) := nI_s1 (by omega)
  have ed : nI (n - 1) - nI k = nI (n - 1 - k) := pk_sub (by omega)
  have edc : (nI (n - 1 - k)).toNatClampNeg = n - 1 - k := nI_clamp (by omega)
  refine bX13_remove_0 B g1 c1 c1 c2 c2 (by rw [nI_1]; exact nI_nn (by omega)) (nI_nn (by omega)) (by rw [hln, e1, ed]; exact nI_nn (by omega)) (by rw [hln, e1, ed, ek1, edc, c3]; show _ ≤ 13; omega) (by rw [hln, e1, ed, ek, edc, c3]; show _ ≤ 13; omega) ?_
  rw [hln, e1, ed, ek, ek1, edc, rI_sI, c4]
  have h1 := h.setS (F := 922) (by decide) (nI (n - 1))
  have h2 := h1.setA (F := 921) (by decide) (va_cpy (α 921) (α 921) (k + 1) k (n - 1 - k))
  refine ⟨_, h2, fun F f1 f2 => by rw [aset_ne f1, au_neF f2], by rw [aset_ne (by decide), au_same], fun i hi => ?_⟩
  rw [aset_same]
  by_cases q2 : i < k
  · rw [if_pos q2, pk_cpy_out (Or.inl q2)]
  · rw [if_neg q2, pk_cpy_in (by omega) (by omega)]
    congr 1
    omega
theorem c_keep {α : Ab} {v n : Nat} (h : MR S m0 s0 ah A α) (hv : v < 4) (hn : α 922 0 = nI n) (hn12 : n ≤ 12) : ConV l yX13_keep (wsOf yX13_keep cX13_keep 2 none) rX13_keep w S [.ref m0, .int (nI v)] (fun S' => ∃ α', MR S' m0 s0 ah A α' ∧ (∀ F, F ≠ 840 → F ≠ 841 → α' F = α F) ∧ α' 840 = va_up (α 840) v (nI n) ∧ α' 841 = va_cpy (α 921) (α 841) 0 (12 * v) n) := by
  refine con_V (by decide +kernel) rfl (Nat.le_of_ble_eq_true rfl) (fun p e s m args below meth c B => ?_)
  obtain ⟨a1, a2, a3, a4⟩ := h.ar 840 (by decide)
  obtain ⟨b1, b2, b3, b4⟩ := h.ar 841 (by decide)
  obtain ⟨c1, c2, c3, c4⟩ := h.ar 921 (by decide)
  obtain ⟨⟨g1, g2, g3, g4, g5, g6, g7, g8⟩, -⟩ := id h
  have hln : gI S 922 m0 = nI n := (h.sc 922 (by decide)).trans hn
  have ev : (nI v).toNatClampNeg = v := nI_clamp (by omega)
  have en : (nI n).toNatClampNeg = n := nI_clamp (by omega)
  have e12 : ((12 : Int32) * nI v).toNatClampNeg = 12 * v := by rw [mul12]; exact nI_clamp (by omega)
  have e0 : (0 : Int32).toNatClampNeg = 0 := rfl
  have ne : A 840 ≠ A 841 := fun z => absurd (h.2.2.1 840 841 (by decide) (by decide) z) (by decide)
  refine bX13_keep_0 B g1 c1 g5 g2 b1 c2 b2 (by rw [mul12]; exact nI_nn (by omega)) (by rw [hln]; exact nI_nn (by omega)) (by rw [hln, en, e0, c3]; show _ ≤ 13; omega) (by rw [hln, e12, en, b3]; show _ ≤ 48; omega) g5 g2 a1 a2 (by rw [a3]; exact vp_in_nI hv (by decide)) ?_
  rw [hln, en, e12, e0, ev, rI_sRI, if_neg ne, b4, c4, a4]
  have h1 := h.setA (F := 841) (by decide) (va_cpy (α 921) (α 841) 0 (12 * v) n)
  have h2 := h1.setA (F := 840) (by decide) (va_up (α 840) v (nI n))
  exact bX13_keep_36 B ⟨_, h2, fun F f1 f2 => by rw [aset_ne f1, aset_ne f2], aset_same, by rw [aset_ne (by decide), aset_same]⟩
end MR1
