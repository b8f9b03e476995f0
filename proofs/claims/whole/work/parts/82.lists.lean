/-! LISTS: a list's cells, get, add -/
/-- the list at a: its array ea of N places, n elements, the i-th at the address f i, all of the class ci -/
def Ls (w : Wd) (S : St) (a ea N n ci : Nat) (f : Nat → Nat) : Prop := kd S a = 1 ∧ gP S 1 a = some ea ∧ gI S 2 a = nI n ∧ Oa w S ea N ∧ n ≤ N ∧ (N = 0 ∧ ea = wE w ∨ N = 10 ∨ N = 15 ∨ N = 22 ∨ N = 33) ∧ ∀ i, i < n → rP S ea i = some (f i) ∧ kd S (f i) = ci + 1
theorem Ls.oa {w : Wd} {S : St} {a ea N n ci : Nat} {f : Nat → Nat} (h : Ls w S a ea N n ci f) {i : Nat} (hi : i < n) : kd S ea = 23 ∧ ln S ea = N := by
  rcases h.2.2.2.1 with z | z
  · exact z
  · exact absurd (Nat.lt_of_lt_of_le hi h.2.2.2.2.1) (by omega)
theorem Ls.N33 {w : Wd} {S : St} {a ea N n ci : Nat} {f : Nat → Nat} (h : Ls w S a ea N n ci f) : N ≤ 33 := by have := h.2.2.2.2.2.1; omega
/-- what adding to the list a, whose array is ea, leaves as it was -/
def AFr (a ea : Nat) (S S' : St) : Prop := ∀ b, kd S b ≠ 0 → kd S' b = kd S b ∧ ln S' b = ln S b ∧ rI S' b = rI S b ∧ (b ≠ ea → rP S' b = rP S b) ∧ (∀ g, (b = a → g ≠ 0 ∧ g ≠ 2) → gI S' g b = gI S g b) ∧ ∀ g, (b = a → g ≠ 1) → gP S' g b = gP S g b
section LST
variable {l : Launch} {w : Wd} {S : St}
theorem c_lsize {a : Nat} (h : kd S a = 1) : ConI l yJx4a65c_size_8abf5 (wsOf yJx4a65c_size_8abf5 cJx4a65c_size_8abf5 1 (some .int)) rJx4a65c_size_8abf5 w S [.ref a] (fun r S' => S = S' ∧ r = gI S 2 a) := by
  refine con_I (by decide +kernel) rfl (Nat.le_of_ble_eq_true rfl) (fun p e s m args below meth c B => ?_)
  exact bJx4a65c_size_8abf5_0 B h ⟨rfl, rfl⟩
theorem c_chk3 {i n : Nat} (hi : i < n) (hn : n < 1000) : ConI l yJ3_checkIndex_8e157 (wsOf yJ3_checkIndex_8e157 cJ3_checkIndex_8e157 3 (some .int)) rJ3_checkIndex_8e157 w S [.int (nI i), .int (nI n), va_rf none] (fun r S' => S = S' ∧ r = nI i) := by
  refine con_I (by decide +kernel) rfl (Nat.le_of_ble_eq_true rfl) (fun p e s m args below meth c B => ?_)
  exact bJ3_checkIndex_8e157_0 B (fun c => absurd c (nI_pos (by omega))) (fun _ => bJ3_checkIndex_8e157_4 B (fun _ => bJ3_checkIndex_8e157_16 B ⟨rfl, rfl⟩) (fun c => absurd (nI_lt hi (by omega)) c))
theorem c_chk {i n : Nat} (hi : i < n) (hn : n < 1000) : ConI l yJ15_checkIndex_7cf53 (wsOf yJ15_checkIndex_7cf53 cJ15_checkIndex_7cf53 2 (some .int)) rJ15_checkIndex_7cf53 w S [.int (nI i), .int (nI n)] (fun r S' => S = S' ∧ r = nI i) := by
  refine con_I (by decide +kernel) rfl (Nat.le_of_ble_eq_true rfl) (fun p e s m args below meth c B => ?_)
  refine bJ15_checkIndex_7cf53_0 B (c_chk3 hi hn) (fun r S' hq => bJ15_checkIndex_7cf53_6 B hq)
theorem c_elem {a ea v : Nat} {i : Int32} (h : kd S a = 1) (h2 : gP S 1 a = some ea) (h3 : kd S ea = 23) (h4 : vp_in i (ln S ea)) (h5 : rP S ea i.toNatClampNeg = some v) : ConR l yJx4a65c_elementData_915e3 (wsOf yJx4a65c_elementData_915e3 cJx4a65c_elementData_915e3 2 (some (.object "java/lang/Object"))) rJx4a65c_elementData_915e3 w S [.ref a, .int i] (fun x S' => S = S' ∧ x = v) := by
  refine con_R (by decide +kernel) rfl (Nat.le_of_ble_eq_true rfl) (fun p e s m args below meth c B => ?_)
  exact bJx4a65c_elementData_915e3_0 B h h2 h3 h4 h5 ⟨rfl, rfl⟩
theorem c_lget {a ea N n ci i : Nat} {f : Nat → Nat} (h : Ls w S a ea N n ci f) (hi : i < n) : ConR l yJx4a65c_get_915e3 (wsOf yJx4a65c_get_915e3 cJx4a65c_get_915e3 2 (some (.object "java/lang/Object"))) rJx4a65c_get_915e3 w S [.ref a, .int (nI i)] (fun x S' => S = S' ∧ x = f i) := by
  have hN := h.N33
  have ho := h.oa hi
  obtain ⟨h1, h2, h3, h4, h5, h6, h7⟩ := h
  refine con_R (by decide +kernel) rfl (Nat.le_of_ble_eq_true rfl) (fun p e s m args below meth c B => ?_)
  have hc := c_chk (l := l) (w := w) (S := S) hi (show n < 1000 by omega)
  rw [← h3] at hc
  refine bJx4a65c_get_915e3_0 B h1 hc (fun r S' hq => ?_)
  obtain ⟨rfl, rfl⟩ := hq
  refine bJx4a65c_get_915e3_8 B (c_elem h1 h2 ho.1 (by rw [ho.2]; exact vp_in_nI (by omega) (by omega)) (by rw [nI_clamp (by omega)]; exact (h7 i hi).1)) h1 (fun r S' hq => bJx4a65c_get_915e3_14 B hq)
theorem c_newLen {N : Nat} (h1 : 10 ≤ N) (h2 : N ≤ 33) : ConI l yJ8_newLength_cabcc (wsOf yJ8_newLength_cabcc cJ8_newLength_cabcc 4 (some .int)) rJ8_newLength_cabcc w S [.int (nI N), .int (nI (N + 1) - nI N), .int (nI N >>> (1 &&& 31))] (fun r S' => S = S' ∧ r = nI (N + N / 2)) := by
  have e1 : nI (N + 1) - nI N = nI 1 := by rw [pk_sub (by omega), Nat.add_sub_cancel_left]
  have e2 : nI N >>> ((1 : Int32) &&& 31) = nI (N / 2) := by
    have k := pk_shrN (n := N) (by omega) ((1 : Int32) &&& 31) 1 (by decide)
    rw [Nat.pow_one] at k
    exact k
  rw [e1, e2]
  have e3 : nI N + (if nI 1 < nI (N / 2) then nI (N / 2) else nI 1) = nI (N + N / 2) := by
    rw [if_pos (nI_lt (show 1 < N / 2 by omega) (by omega)), nI_add]
  refine con_I (by decide +kernel) rfl (Nat.le_of_ble_eq_true rfl) (fun p e s m args below meth c B => ?_)
  refine bJ8_newLength_cabcc_0 B (fun c => absurd c (by rw [e3]; exact nI_nle (by omega) (by omega))) (fun _ => ?_)
  rw [e3]
  refine bJ8_newLength_cabcc_13 B (fun c => absurd c (nI_nlt (a := 2147483639) (b := N + N / 2) (by omega) (by decide))) (fun _ => bJ8_newLength_cabcc_19 B ⟨rfl, rfl⟩)
theorem c_copy3 {a N M ci : Nat} {rr : vw_C} {f : Nat → Nat} (h : kd S a = 23) (h2 : ln S a = N) (hM : N ≤ M) (hM2 : M ≤ 40) (hc : vwCl[ci]? = some rr) (h15 : ci < 15) (hob : rr.1 ∈ NOb) (hf : ∀ i, i < N → rP S a i = some (f i) ∧ kd S (f i) = ci + 1) :
    ConR l yJ7_copyOf_6403c (wsOf yJ7_copyOf_6403c cJ7_copyOf_6403c 4 (some (.array (.object "java/lang/Object")))) rJ7_copyOf_6403c w S [.ref a, .int (nI M), .ref (wM w)] (fun x S' => kd S x = 0 ∧ S' = sRP (nw S x 23 M) x (va_cpy (rP S a) (fun _ => none) 0 0 N)) := by
  refine con_R (by decide +kernel) rfl (Nat.le_of_ble_eq_true rfl) (fun p e s m args below meth c B => ?_)
  have eM : (nI M).toNatClampNeg = M := nI_clamp (by omega)
  have eN : (nI N).toNatClampNeg = N := nI_clamp (by omega)
  refine bJ7_copyOf_6403c_0 B (fun c => absurd rfl c) (fun _ => bJ7_copyOf_6403c_6 B (nI_pos (by omega)) eM (by omega) (by show 1 ≤ 1; omega) (by show 0 + M ≤ 40; omega) (fun q hq => ?_))
  have hne : a ≠ q := fun z => by rw [z, hq] at h; omega
  have hm : (if nI M < nI (ln (nw S q 23 M) a) then nI M else nI (ln (nw S q 23 M) a)) = nI N := by
    rw [ln_nw, if_neg hne, h2, if_neg (nI_nlt hM (by omega))]
  refine bJ7_copyOf_6403c_10 B (k_wid (k' := 1) (n' := 40) (by omega) (by omega) (bJ7_copyOf_6403c_24 (ci := ci) (rr := rr) B (by rw [kd_nw, if_neg hne]; exact h) (by show 1 ≤ 1; omega) (by show 40 ≤ 40; omega) (by rw [kd_nw, if_pos rfl]) hc h15 hob (fun i hi y hy => ?_) (by rw [hm]; exact nI_pos (by omega)) ?_ ?_ ?_))
  · rw [hm, eN] at hi
    rw [rP_nw, if_neg hne, sb_cl0, Nat.zero_add, (hf i hi).1] at hy
    cases hy
    have := (hf i hi).2
    rw [kd_nw, if_neg (fun z => by rw [z, hq] at this; omega)]
    exact this
  · rw [hm, eN, sb_cl0, ln_nw, if_neg hne, h2]; omega
  · rw [hm, eN, sb_cl0, ln_nw, if_pos rfl]; omega
  · rw [hm, eN, sb_cl0, rP_nw, rP_nw, if_neg hne, if_pos rfl]
    exact ⟨hq, rfl⟩
theorem c_copy2 {a N M ci : Nat} {rr : vw_C} {f : Nat → Nat} (h : kd S a = 23) (h2 : ln S a = N) (hM : N ≤ M) (hM2 : M ≤ 40) (hc : vwCl[ci]? = some rr) (h15 : ci < 15) (hob : rr.1 ∈ NOb) (hf : ∀ i, i < N → rP S a i = some (f i) ∧ kd S (f i) = ci + 1) :
    ConR l yJ7_copyOf_1904c (wsOf yJ7_copyOf_1904c cJ7_copyOf_1904c 2 (some (.array (.object "java/lang/Object")))) rJ7_copyOf_1904c w S [.ref a, .int (nI M)] (fun x S' => kd S x = 0 ∧ S' = sRP (nw S x 23 M) x (va_cpy (rP S a) (fun _ => none) 0 0 N)) := by
  refine con_R (by decide +kernel) rfl (Nat.le_of_ble_eq_true rfl) (fun p e s m args below meth c B => ?_)
  exact bJ7_copyOf_1904c_0 B h (c_copy3 h h2 hM hM2 hc h15 hob hf) (by show 0 + 1 ≤ 1; omega) (by show 0 + 40 ≤ 40; omega) (fun r S' hq => bJ7_copyOf_1904c_9 B hq)
/-- the places that a full array of N grows to -/
def grN (N : Nat) : Nat := if N = 0 then 10 else N + N / 2
theorem c_grow1 {a ea N ci : Nat} {rr : vw_C} {f : Nat → Nat} (h : Ls w S a ea N N ci f) (hN : N < 30) (hc : vwCl[ci]? = some rr) (h15 : ci < 15) (hob : rr.1 ∈ NOb) :
    ConR l yJx4a65c_grow_92f84 (wsOf yJx4a65c_grow_92f84 cJx4a65c_grow_92f84 4 (some (.array (.object "java/lang/Object")))) rJx4a65c_grow_92f84 w S [.ref a, .int (nI (N + 1))] (fun x S' => kd S x = 0 ∧ ∃ g : Nat → Option Nat, (∀ i, i < N → g i = some (f i)) ∧ S' = sP (sRP (nw S x 23 (grN N)) x g) 1 a (some x)) := by
  obtain ⟨h1, h2, h3, h4, h5, h6, h7⟩ := id h
  refine con_R (by decide +kernel) rfl (Nat.le_of_ble_eq_true rfl) (fun p e s m args below meth c B => ?_)
  refine bJx4a65c_grow_92f84_0 B h1 h2 h4 (fun c => ?_) (fun c => ?_)
  · have hN0 : 10 ≤ N := by
      rcases Nat.eq_zero_or_pos N with z | z
      · rw [z] at c; exact absurd c (by decide)
      · omega
    have ho := h.oa (i := 0) (by omega)
    refine bJx4a65c_grow_92f84_20 B (c_newLen hN0 (by omega)) (by show 0 ≤ 1; omega) (by show 0 ≤ 40; omega) (fun r S' hq => ?_)
    obtain ⟨rfl, rfl⟩ := hq
    refine bJx4a65c_grow_92f84_30 B h1 h2 (c_copy2 ho.1 ho.2 (by omega) (by omega) hc h15 hob h7) (by show 0 + 1 ≤ 1; omega) (by show 0 + 40 ≤ 40; omega) (fun r S' hq => ?_)
    obtain ⟨g1, rfl⟩ := hq
    refine bJx4a65c_grow_92f84_40 B (by rw [kd_sRP, kd_nw, if_neg (fun z => by rw [z, g1] at h1; omega)]; exact h1) ⟨g1, _, fun i hi => ?_, by unfold grN; rw [if_neg (by omega)]⟩
    rw [pk_cpy_in (by omega) (by omega), Nat.zero_add, Nat.sub_zero]
    exact (h7 i hi).1
  · have hN0 : N = 0 := by
      rcases Nat.eq_zero_or_pos N with z | z
      · exact z
      · exact absurd (nI_lt (a := 0) (b := N) z (by omega)) c
    subst hN0
    have e10 : (if (10 : Int32) < nI (0 + 1) then nI (0 + 1) else 10) = 10 := by decide
    have z1 : ea = wE w := by rcases h6 with z | z <;> omega
    refine bJx4a65c_grow_92f84_10 B h1 h2 (fun _ => ?_) (fun c2 => absurd (congrArg some z1) c2)
    refine bJx4a65c_grow_92f84_45 (N1 := 10) B (by show 0 ≤ 1; omega) (by show 0 ≤ 40; omega) (by rw [e10]; decide) (by rw [e10]; decide) (by decide) (by show 0 + 1 ≤ 1; omega) (by show 0 + 10 ≤ 40; omega) (fun q hq => k_wid (k' := 1) (n' := 40) (by omega) (by omega) (bJx4a65c_grow_92f84_55 B (by rw [kd_nw, if_neg (fun z => by rw [z, hq] at h1; omega)]; exact h1) ⟨hq, fun _ => none, fun i hi => absurd hi (by omega), ?_⟩))
    refine congrArg (fun z => sP z 1 a (some q)) (st_ext (fun _ => rfl) (fun _ _ => rfl) (fun _ _ => rfl) (fun _ => rfl) (fun _ => rfl) (fun b => ?_))
    rw [rP_sRP, rP_nw]
    by_cases z : b = q
    · simp [z]
    · simp [z, rP_nw]
theorem c_grow0 {a ea N ci : Nat} {rr : vw_C} {f : Nat → Nat} (h : Ls w S a ea N N ci f) (hN : N < 30) (hc : vwCl[ci]? = some rr) (h15 : ci < 15) (hob : rr.1 ∈ NOb) :
    ConR l yJx4a65c_grow_d5877 (wsOf yJx4a65c_grow_d5877 cJx4a65c_grow_d5877 1 (some (.array (.object "java/lang/Object")))) rJx4a65c_grow_d5877 w S [.ref a] (fun x S' => kd S x = 0 ∧ ∃ g : Nat → Option Nat, (∀ i, i < N → g i = some (f i)) ∧ S' = sP (sRP (nw S x 23 (grN N)) x g) 1 a (some x)) := by
  refine con_R (by decide +kernel) rfl (Nat.le_of_ble_eq_true rfl) (fun p e s m args below meth c B => ?_)
  have hg := c_grow1 (l := l) h hN hc h15 hob
  rw [← nI_1, ← h.2.2.1] at hg
  exact bJx4a65c_grow_d5877_0 B h.1 hg (by show 0 + 1 ≤ 1; omega) (by show 0 + 40 ≤ 40; omega) (fun r S' hq => bJx4a65c_grow_d5877_10 B hq)
/-- one element more -/
def adF (f : Nat → Nat) (n v i : Nat) : Nat := if i = n then v else f i
theorem adF_n {f : Nat → Nat} {n v : Nat} : adF f n v n = v := if_pos rfl
theorem adF_lt {f : Nat → Nat} {n v i : Nat} (h : i < n) : adF f n v i = f i := if_neg (by omega)
def LAd (w : Wd) (a ea n ci v : Nat) (f : Nat → Nat) (S S' : St) : Prop := ∃ eb N', Ls w S' a eb N' (n + 1) ci (adF f n v) ∧ (eb = ea ∨ kd S eb = 0 ∧ kd S' eb = 23) ∧ AFr a ea S S'
theorem c_add2 {a ea N n ci v : Nat} {rr : vw_C} {f : Nat → Nat} (h : Ls w S a ea N n ci f) (hn : n < 30) (hc : vwCl[ci]? = some rr) (h15 : ci < 15) (hob : rr.1 ∈ NOb) (hv : kd S v = ci + 1) :
    ConV l yJx4a65c_add_72be8 (wsOf yJx4a65c_add_72be8 cJx4a65c_add_72be8 4 none) rJx4a65c_add_72be8 w S [.ref a, .ref v, .ref ea, .int (nI n)] (LAd w a ea n ci v f S) := by
  have hN := h.N33
  obtain ⟨h1, h2, h3, h4, h5, h6, h7⟩ := id h
  have ec : (nI n).toNatClampNeg = n := nI_clamp (by omega)
  refine con_V (by decide +kernel) rfl (Nat.le_of_ble_eq_true rfl) (fun p e s m args below meth c B => ?_)
  refine bJx4a65c_add_72be8_0 B h4 (fun c => ?_) (fun c => ?_)
  · have hlt : n < N := by
      rcases Nat.lt_or_ge n N with z | z
      · exact z
      · exact absurd (by rw [show n = N by omega]) c
    have ho : kd S ea = 23 ∧ ln S ea = N := by
      rcases h4 with z | z
      · exact z
      · omega
    refine k_wid (k' := 1) (n' := 40) (by omega) (by omega) (bJx4a65c_add_72be8_11 (ci := ci) (rr := rr) B ho.1 hc h15 hob hv (by rw [ho.2]; exact vp_in_nI hlt (by omega)) h1 ⟨ea, N, ⟨h1, h2, ?_, ?_, by omega, h6, fun i hi => ?_⟩, Or.inl rfl, fun b hb => ⟨rfl, rfl, rfl, fun hne => ?_, fun g hg => ?_, fun g hg => rfl⟩⟩)
    · rw [gI_sI, if_pos ⟨rfl, rfl⟩, nI_1]
    · exact Or.inl ho
    · rw [rP_sI, rP_sRP, if_pos rfl, ec]
      by_cases z : i = n
      · subst z; rw [va_up_self, adF_n]; exact ⟨rfl, hv⟩
      · rw [va_up_ne _ _ z, adF_lt (by omega)]; exact h7 i (by omega)
    · rw [rP_sI, rP_sRP, if_neg hne]
    · rw [gI_sI, gI_sRP, if_neg (fun z => (hg z.2).2 z.1)]
  · have hnN : n = N := by
      have := (nI_eq (a := n) (b := N) (by omega) (by omega)).mp c
      exact this
    subst hnN
    refine bJx4a65c_add_72be8_6 B (c_grow0 h hn hc h15 hob) (by show 0 + 1 ≤ 1; omega) (by show 0 + 40 ≤ 40; omega) h1 (fun q S1 hq => ?_)
    obtain ⟨g1, g, g2, g3⟩ := hq
    have na : a ≠ q := fun z => by rw [z, g1] at h1; omega
    have nv : v ≠ q := fun z => by rw [z, g1] at hv; omega
    have k1 : ∀ b, b ≠ q → kd S1 b = kd S b := fun b hb => by rw [g3, kd_sP, kd_sRP, kd_nw, if_neg hb]
    have k2 : kd S1 q = 23 := by rw [g3, kd_sP, kd_sRP, kd_nw, if_pos rfl]
    have k3 : ln S1 q = grN n := by rw [g3, ln_sP, ln_sRP, ln_nw, if_pos rfl]
    have k4 : rP S1 q = g := by rw [g3, rP_sP, rP_sRP, if_pos rfl]
    have hgr : n < grN n ∧ (grN n = 10 ∨ grN n = 15 ∨ grN n = 22 ∨ grN n = 33) := by unfold grN; rcases h6 with z | z | z | z | z <;> (split <;> omega)
    refine bJx4a65c_add_72be8_10 B (bJx4a65c_add_72be8_11 (ci := ci) (rr := rr) B k2 hc h15 hob (by rw [k1 v nv]; exact hv) (by rw [k3]; exact vp_in_nI hgr.1 (by omega)) (by rw [k1 a na]; exact h1) ⟨q, grN n, ⟨?_, ?_, ?_, ?_, by omega, by omega, fun i hi => ?_⟩, Or.inr ⟨g1, k2⟩, fun b hb => ?_⟩)
    · rw [kd_sI, kd_sRP, k1 a na]; exact h1
    · rw [gP_sI, gP_sRP, g3, gP_sP, if_pos ⟨rfl, rfl⟩]
    · rw [gI_sI, if_pos ⟨rfl, rfl⟩, nI_1]
    · exact Or.inl ⟨k2, k3⟩
    · rw [rP_sI, rP_sRP, if_pos rfl, ec, k4]
      by_cases z : i = n
      · subst z; rw [va_up_self, adF_n]; exact ⟨rfl, by rw [kd_sI, kd_sRP, k1 v nv]; exact hv⟩
      · rw [va_up_ne _ _ z, adF_lt (by omega)]
        refine ⟨g2 i (by omega), ?_⟩
        have := (h7 i (by omega)).2
        rw [kd_sI, kd_sRP, k1 _ (fun z => by rw [z, g1] at this; omega)]; exact this
    · have hbq : b ≠ q := fun z => hb (by rw [z]; exact g1)
      refine ⟨k1 b hbq, ?_, ?_, fun _ => ?_, fun g' hg => ?_, fun g' hg => ?_⟩
      · rw [ln_sI, ln_sRP, g3, ln_sP, ln_sRP, ln_nw, if_neg hbq]
      · rw [rI_sI, rI_sRP, g3, rI_sP, rI_sRP, rI_nw, if_neg hbq]
      · rw [rP_sI, rP_sRP, if_neg hbq, g3, rP_sP, rP_sRP, if_neg hbq, rP_nw, if_neg hbq]
      · rw [gI_sI, if_neg (fun z => (hg z.2).2 z.1), gI_sRP, g3, gI_sP, gI_sRP, gI_nw, if_neg hbq]
      · rw [gP_sI, gP_sRP, g3, gP_sP, if_neg (fun z => hg z.2 z.1), gP_sRP, gP_nw, if_neg hbq]
theorem c_ladd {a ea N n ci v : Nat} {rr : vw_C} {f : Nat → Nat} (h : Ls w S a ea N n ci f) (hn : n < 30) (hc : vwCl[ci]? = some rr) (h15 : ci < 15) (hob : rr.1 ∈ NOb) (hv : kd S v = ci + 1) :
    ConI l yJx4a65c_add_9ea2d (wsOf yJx4a65c_add_9ea2d cJx4a65c_add_9ea2d 2 (some .boolean)) rJx4a65c_add_9ea2d w S [.ref a, .ref v] (fun _ S' => LAd w a ea n ci v f S S') := by
  obtain ⟨h1, h2, h3, h4, h5, h6, h7⟩ := id h
  refine con_I (by decide +kernel) rfl (Nat.le_of_ble_eq_true rfl) (fun p e s m args below meth c B => ?_)
  have hL : Ls w (sI S 0 a (gI S 0 a + 1)) a ea N n ci f := ⟨h1, h2, by rw [gI_sI, if_neg (by simp)]; exact h3, h4, h5, h6, h7⟩
  have hA := c_add2 (l := l) (v := v) hL hn hc h15 hob hv
  rw [← h3] at hA
  refine bJx4a65c_add_9ea2d_0 B h1 h2 hA (by show 0 + 1 ≤ 1; omega) (by show 0 + 40 ≤ 40; omega) (fun S' hq => bJx4a65c_add_9ea2d_23 B ?_)
  obtain ⟨eb, N', g1, g2, g3⟩ := hq
  refine ⟨eb, N', g1, g2, fun b hb => ?_⟩
  obtain ⟨a1, a2, a3, a4, a5, a6⟩ := g3 b hb
  exact ⟨a1, a2, a3, a4, fun g hg => (a5 g hg).trans (by rw [gI_sI, if_neg (fun z => (hg z.2).1 z.1)]), a6⟩
end LST
