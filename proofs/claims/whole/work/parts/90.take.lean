/-! WHAT LASTS, behind a row set -/
section AIZ
variable {α : Ab}
theorem nH_row {v n : Nat} {L : Nat → Nat} : nH (setRow α v n L) = nH α := by unfold nH; rw [setRow_ne (by decide) (by decide)]
theorem nL_row {v n : Nat} {L : Nat → Nat} : nL (setRow α v n L) = nL α := by unfold nL; rw [setRow_ne (by decide) (by decide)]
theorem AIz.row (h : AIz α) {v n : Nat} {L : Nat → Nat} (h1 : AI1 (setRow α v n L)) (h2 : ∀ q, On (setRow α v n L) q → α 834 q = 0) : AIz (setRow α v n L) := by
  obtain ⟨⟨-, hw, hl⟩, x1, x2, -, x4, x5, x6, x7, x8⟩ := h
  have s : ∀ F, F ≠ 840 → F ≠ 841 → setRow α v n L F = α F := fun F a b => setRow_ne a b
  refine ⟨⟨h1, hw.D setRow_d, hl.of (s _ (by decide) (by decide)) (s _ (by decide) (by decide)) (s _ (by decide) (by decide))⟩, ?_⟩
  unfold AIx
  rw [nP_setRow, nH_row, nL_row, s 916 (by decide) (by decide), s 904 (by decide) (by decide), s 905 (by decide) (by decide), s 834 (by decide) (by decide), s 838 (by decide) (by decide), s 835 (by decide) (by decide), s 836 (by decide) (by decide)]
  exact ⟨x1, x2, h2, x4, x5, x6, x7, x8⟩
theorem AIz.put (h : AIz α) {q v k : Nat} (hv : v < nV α) (hk : k ≤ mny α v) (hq : q < nP α) (hn : mny α v + 1 ≤ 12) (hL : Loose α q) : AIz (putA α q v k) := by
  have ho := (vof_iff h.1.1 q).mp hL.2
  refine h.row (h.1.1.put hv hk hq hn ho) (fun x hx => ?_)
  rcases (On_putA h.1.1 hv hk (h.1.1.p30 hq) hn x).mp hx with rfl | z
  · exact hL.1
  · exact h.2.2.2.1 x z
theorem AIz.tak (h : AIz α) {q v i : Nat} (ho : OnAt α q v i) : AIz (takA α v i) :=
  h.row (h.1.1.tak ho.1) (fun x hx => h.2.2.2.1 x ((On_takA h.1.1 ho x).mp hx).1)
theorem On_iff {x : Nat} : On α x ↔ ∃ v, OnV α x v := Iff.rfl
theorem rev_ai1 (hA : AI1 α) {v a b : Nat} (hv : v < nV α) (hb : b < mny α v) (hab : a ≤ b) : AI1 (setRow α v (mny α v) (revF (rwf α v) a b)) := by
  have v4 := hA.v4 hv
  have inj : ∀ i j, i < mny α v → j < mny α v → rwf α v i = rwf α v j → i = j := fun i j hi hj e => (hA.2.2.2.2.2 v v i j v4 v4 hi hj e).2
  refine hA.rows hv (hA.m12 v4) (revF_P hb (rw_P hA hv)) (fun i j hi hj e => ?_) (fun v' i j hv' hne hi hj e => ?_)
  · unfold revF at e
    by_cases c1 : a ≤ i ∧ i ≤ b <;> by_cases c2 : a ≤ j ∧ j ≤ b
    · rw [if_pos c1, if_pos c2] at e; have := inj _ _ (by omega) (by omega) e; omega
    · rw [if_pos c1, if_neg c2] at e; have := inj _ _ (by omega) hj e; omega
    · rw [if_neg c1, if_pos c2] at e; have := inj _ _ hi (by omega) e; omega
    · rw [if_neg c1, if_neg c2] at e; exact inj _ _ hi hj e
  · unfold revF at e
    split at e
    · exact hne (hA.2.2.2.2.2 v' v i _ hv' v4 hi (by omega) e).1
    · exact hne (hA.2.2.2.2.2 v' v i j hv' v4 hi hj e).1
theorem AIz.rev (h : AIz α) {v a b : Nat} (hv : v < nV α) (hb : b < mny α v) (hab : a ≤ b) : AIz (setRow α v (mny α v) (revF (rwf α v) a b)) := by
  have h1 := rev_ai1 h.1.1 hv hb hab
  refine h.row h1 (fun x hx => ?_)
  have ev := vof_revA h.1.1 hv hb hab h1 x
  have hn : ¬ vof (setRow α v (mny α v) (revF (rwf α v) a b)) x = -1 := fun z => (vof_iff h1 x).mp z hx
  rw [ev] at hn
  refine h.2.2.2.1 x ?_
  rcases vof_cases h.1.1 x with ⟨v', i, o, -⟩ | ⟨-, z⟩
  · exact ⟨v', i, o⟩
  · exact absurd z hn
end AIZ
section CALLS2
variable {l : Launch} {w : Wd} {S : St} {T : Tb} {α : Ab}
theorem k_take (hf : l.stackTraces = false) (h : CR w S T α) (hA : AIz α) {a : Int32} : ConXI l yX11_take (wsOf yX11_take cX11_take 5 (some .int)) rX11_take w S [.ref (T 0 0), .int a] (CP w (T 0 0) (opTake α a)) (CE w (T 0 0) [nIO, nIS] (opTake α a)) := by
  have n30 := hA.1.1.2.1.2.2.2.2
  refine conX_I (by decide +kernel) rfl (Nat.le_of_ble_eq_true rfl) (fun p e s m args below meth c B ht => ?_)
  refine bX11_take_0 B hf ht h.x.1 h.x.2.2.2.2.2.1 (c_npar h) (Nat.le_of_ble_eq_true rfl) (Nat.le_of_ble_eq_true rfl) (h.k1 7 (by decide)) (fun r S' hq => ?_)
  obtain ⟨rfl, rfl⟩ := hq
  refine bX11_take_8 B hf ht (c_needIx hf (by omega)) (Nat.le_of_ble_eq_true rfl) (Nat.le_of_ble_eq_true rfl) (fun E S' hq => ?_) (fun S' hq => ?_)
  · obtain ⟨rfl, rfl, hn⟩ := hq
    exact CE.mk 0 rfl h (if_neg hn)
  obtain ⟨rfl, h1⟩ := hq
  have eo : opTake α a = if vof α (cl a) = -1 then (2, 0, α) else (0, rc α (cl (vof α (cl a))) - costM α (cl (vof α (cl a))) (mny α (cl (vof α (cl a))) - 1) (remF (rwf α (cl (vof α (cl a)))) (plc α (cl a) (cl (vof α (cl a))))), takA α (cl (vof α (cl a))) (plc α (cl a) (cl (vof α (cl a))))) := if_pos h1
  obtain ⟨q, hq, rfl⟩ := h1.nI
  rw [cl_nI (by omega)] at eo
  refine bX11_take_11 B hf ht h.x.1 h.x.2.2.2.2.2.1 (c_gpar h hq) (Nat.le_of_ble_eq_true rfl) (Nat.le_of_ble_eq_true rfl) (h.k1 7 (by decide)) (fun r S' hq1 => ?_)
  obtain ⟨rfl, rfl⟩ := hq1
  have hvan := (h.pa hq).2.1
  rcases vof_cases hA.1.1 q with ⟨v, i, o, e1, e2⟩ | ⟨o, e1⟩
  · have hv := o.1
    have v4 := hA.1.1.v4 hv
    have m12 := hA.1.1.m12 v4
    rw [vop_on hA.1.1 o] at hvan
    rw [if_neg e2, e1, cl_nI (by omega), plc_at hA.1.1 o] at eo
    refine bX11_take_19 B hf ht (h.kp hq) (fun x _ => ?_) (fun c => by rw [hvan] at c; cases c)
    refine bX11_take_40 B hf ht (h.kp hq) hvan h.x.1 h.x.2.2.2.2.2.2.1 (h.kv hv).1 (h.kv hv).2.1 (c_fol h hA hv (h.rv hA.1.1 hv) m12 (rw_P hA.1.1 hv)) (Nat.le_of_ble_eq_true rfl) (Nat.le_of_ble_eq_true rfl) (h.k1 8 (by decide)) (fun r S1 hq1 => ?_)
    obtain ⟨rfl, fq⟩ := hq1
    have h1 := h.frx (FrX.ofS fq.frs)
    refine bX11_take_57 B hf ht (c_takeOut h1 hA.1.1 hq o) (Nat.le_of_ble_eq_true rfl) (Nat.le_of_ble_eq_true rfl) (fun S2 hq2 => ?_)
    have h2 := hq2.1
    have hA2 := hA.tak o
    have hv2 : v < nV (takA α v i) := by rw [nV_takA]; exact hv
    have hm : mny (takA α v i) v = mny α v - 1 := by unfold takA; rw [mny_setRow (by omega), if_pos rfl]
    have hr : ∀ j, j < mny α v - 1 → rwf (takA α v i) v j = remF (rwf α v) i j := fun j hj => by
      unfold takA
      rw [rwf_setRow (by omega) (by omega) (fun _ => hj) (remF_P (fun j hj => hA.1.1.rw30 v4 hj)), if_pos rfl]
    have hR2 : Rl S2 T (T 28 v) (T 29 v) (mny α v - 1) (remF (rwf α v) i) := by
      have := h2.rv hA2.1.1 hv2
      rw [hm] at this
      obtain ⟨a1, a2, a3, a4, a5, a6, a7⟩ := this
      exact ⟨a1, a2, a3, a4, a5, a6, fun j hj => by have := a7 j hj; simp only [hr j hj] at this; exact this⟩
    refine bX11_take_63 B hf ht h2.x.1 h2.x.2.2.2.2.2.2.1 (h2.kv hv2).1 (h2.kv hv2).2.1 (c_fol h2 hA2 hv2 hR2 (by omega) (fun j hj => by rw [nP_takA]; exact remF_P (rw_P hA.1.1 hv) j hj)) (Nat.le_of_ble_eq_true rfl) (Nat.le_of_ble_eq_true rfl) (h2.k1 8 (by decide)) (fun r S3 hq3 => ?_)
    obtain ⟨rfl, fq3⟩ := hq3
    refine bX11_take_77 B hf ht (Nat.le_of_ble_eq_true rfl) (Nat.le_of_ble_eq_true rfl) (CP.mk (h2.frx (FrX.ofS fq3.frs)) ?_)
    rw [eo, show costM (takA α v i) v (mny α v - 1) (remF (rwf α v) i) = costM α v (mny α v - 1) (remF (rwf α v) i) from costM_D setRow_d ..]
    rfl
  · have e3 : vop T α q = none := by unfold vop; rw [if_pos e1]
    rw [e3] at hvan
    rw [if_pos e1] at eo
    exact bX11_take_19 B hf ht (h.kp hq) (fun x c => by rw [hvan] at c; cases c) (fun _ => bX11_take_30 B hf ht (Nat.le_of_ble_eq_true rfl) (Nat.le_of_ble_eq_true rfl) (CE.mk 1 rfl h eo))
theorem k_cheapest (hf : l.stackTraces = false) (h : CR w S T α) (hA : AIz α) {a : Int32} : ConXI l yX11_cheapest (wsOf yX11_cheapest cX11_cheapest 3 (some .int)) rX11_cheapest w S [.ref (T 0 0), .int a] (CP w (T 0 0) (opCheapest α a)) (CE w (T 0 0) [nIO] (opCheapest α a)) := by
  have n30 := hA.1.1.2.1.2.2.2.2
  refine conX_I (by decide +kernel) rfl (Nat.le_of_ble_eq_true rfl) (fun p e s m args below meth c B ht => ?_)
  refine bX11_cheapest_0 B hf ht h.x.1 h.x.2.2.2.2.2.1 (c_npar h) (Nat.le_of_ble_eq_true rfl) (Nat.le_of_ble_eq_true rfl) (h.k1 7 (by decide)) (fun r S' hq => ?_)
  obtain ⟨rfl, rfl⟩ := hq
  refine bX11_cheapest_8 B hf ht (c_needIx hf (by omega)) (Nat.le_of_ble_eq_true rfl) (Nat.le_of_ble_eq_true rfl) (fun E S' hq => ?_) (fun S' hq => ?_)
  · obtain ⟨rfl, rfl, hn⟩ := hq
    exact CE.mk 0 rfl h (if_neg hn)
  obtain ⟨rfl, h1⟩ := hq
  have eo : opCheapest α a = (0, if Loose α (cl a) then (bst α (cl a)).2 else -1, α) := if_pos h1
  obtain ⟨q, hq, rfl⟩ := h1.nI
  rw [cl_nI (by omega)] at eo
  refine bX11_cheapest_11 B hf ht h.x.1 h.x.2.2.2.2.2.1 (c_gpar h hq) (Nat.le_of_ble_eq_true rfl) (Nat.le_of_ble_eq_true rfl) (h.k1 7 (by decide)) (fun r S' hq1 => ?_)
  obtain ⟨rfl, rfl⟩ := hq1
  refine bX11_cheapest_19 B hf ht (h.kp hq) h.x.1 h.x.2.2.2.2.2.2.2.2.1 (c_forget h) (Nat.le_of_ble_eq_true rfl) (Nat.le_of_ble_eq_true rfl) (h.k1 15 (by decide)) (fun S1 hq1 => ?_)
  have h1 := h.frx hq1.1
  refine bX11_cheapest_30 B hf ht (c_weighPut h1 hA hq hq1.2) (Nat.le_of_ble_eq_true rfl) (Nat.le_of_ble_eq_true rfl) h1.x.1 (fun S2 hq2 => ?_)
  obtain ⟨h2, ho⟩ := hq2
  have es : sc1 α q none = if Loose α q then (if (bst α q).1 < 1000000 then some ((bst α q).1, q, (bst α q).2) else none) else none := by
    unfold sc1
    rw [wgA_bA hA.1.1 (show q < 30 by omega) (show kx none ≤ 1000000 from Int32.le_refl _) _ (Nat.le_refl _)]
    rfl
  have fin : (gP S2 66 (T 15 0) = none ∧ (if Loose α q then (bst α q).2 else -1) = -1) ∨ ∃ y, gP S2 66 (T 15 0) = some y ∧ gI S2 65 (T 15 0) = (if Loose α q then (bst α q).2 else -1) := by
    rw [es] at ho
    by_cases c : Loose α q
    · rw [if_pos c] at ho ⊢
      rcases bst_at α q with z | ⟨v, k, z1, z2, z3, z4⟩
      · rw [z, if_neg (by decide)] at ho
        exact Or.inl ⟨ho, by rw [z]⟩
      · rw [if_pos (by rw [z3]; exact z4)] at ho
        exact Or.inr ⟨_, ho.1, ho.2.2⟩
    · rw [if_neg c] at ho ⊢
      exact Or.inl ⟨ho, rfl⟩
  rcases fin with ⟨f1, f2⟩ | ⟨y, f1, f2⟩
  · refine bX11_cheapest_35 B hf ht h2.x.1 h2.x.2.2.2.2.2.2.2.2.1 (h2.k1 15 (by decide)) (fun y c => by rw [f1] at c; cases c) (fun _ => ?_)
    refine bX11_cheapest_45 B hf ht (bX11_cheapest_56 B hf ht (Nat.le_of_ble_eq_true rfl) (Nat.le_of_ble_eq_true rfl) (CP.mk h2 (by rw [eo, f2])))
  · refine bX11_cheapest_35 B hf ht h2.x.1 h2.x.2.2.2.2.2.2.2.2.1 (h2.k1 15 (by decide)) (fun y c => ?_) (fun c => by rw [f1] at c; cases c)
    refine bX11_cheapest_49 B hf ht h2.x.1 h2.x.2.2.2.2.2.2.2.2.1 (h2.k1 15 (by decide)) (bX11_cheapest_56 B hf ht (Nat.le_of_ble_eq_true rfl) (Nat.le_of_ble_eq_true rfl) (CP.mk h2 (by rw [eo, f2])))
def opRoute (α : Ab) (a b : Int32) : Out := if isIx a (nV α) ∧ isIx b (mny α (cl a)) then (0, α 841 (12 * cl a + cl b), α) else (1, 0, α)
theorem k_route (hf : l.stackTraces = false) (h : CR w S T α) (hA : AIz α) {a b : Int32} : ConXI l yX11_route (wsOf yX11_route cX11_route 3 (some .int)) rX11_route w S [.ref (T 0 0), .int a, .int b] (CP w (T 0 0) (opRoute α a b)) (CE w (T 0 0) [nIO] (opRoute α a b)) := by
  refine conX_I (by decide +kernel) rfl (Nat.le_of_ble_eq_true rfl) (fun p e s m args below meth c B ht => ?_)
  refine bX11_route_0 B hf ht (c_needSt hf h hA.1.1) (Nat.le_of_ble_eq_true rfl) (Nat.le_of_ble_eq_true rfl) h.x.1 (fun E S' hq => ?_) (fun S' hq => ?_)
  · obtain ⟨rfl, rfl, hn⟩ := hq
    exact CE.mk 0 rfl h (if_neg hn)
  obtain ⟨rfl, h1, h2⟩ := hq
  have eo : opRoute α a b = (0, α 841 (12 * cl a + cl b), α) := if_pos ⟨h1, h2⟩
  obtain ⟨v, hv, rfl⟩ := h1.nI
  have v4 := hA.1.1.v4 hv
  have m12 := hA.1.1.m12 v4
  rw [cl_nI (by omega)] at h2
  obtain ⟨k, hk, rfl⟩ := h2.nI
  rw [cl_nI (by omega), cl_nI (by omega)] at eo
  refine bX11_route_6 B hf ht h.x.1 h.x.2.2.2.2.1 (c_gvan h hv) (Nat.le_of_ble_eq_true rfl) (Nat.le_of_ble_eq_true rfl) (h.k1 6 (by decide)) (fun r S' hq1 => ?_)
  obtain ⟨rfl, rfl⟩ := hq1
  refine bX11_route_14 B hf ht (h.kv hv).1 (h.kv hv).2.1 (c_at (h.rv hA.1.1 hv) hk) (Nat.le_of_ble_eq_true rfl) (Nat.le_of_ble_eq_true rfl) (h.kv hv).2.2 (fun r S' hq1 => ?_)
  obtain ⟨rfl, rfl⟩ := hq1
  have hp := rw_P hA.1.1 hv k hk
  refine bX11_route_24 B hf ht (h.kp hp) (Nat.le_of_ble_eq_true rfl) (Nat.le_of_ble_eq_true rfl) (CP.mk h ?_)
  rw [eo, (h.pa hp).1.1, (hA.1.1.2.2.2.2.1 v k v4 hk).1]
theorem c_somebody {i : Nat} (h : CR w S T α) (hi : i < nH α) {t : Int32} : ConI l yX1_isSomebodyIn (wsOf yX1_isSomebodyIn cX1_isSomebodyIn 2 (some .boolean)) rX1_isSomebodyIn w S [.ref (T 20 i), .int t] (fun r S' => S = S' ∧ (r = 1 ∧ (α 903 i >>> (hr t &&& 31)) &&& 1 = 1 ∨ r = 0 ∧ ¬ (α 903 i >>> (hr t &&& 31)) &&& 1 = 1)) := by
  refine con_I (by decide +kernel) rfl (Nat.le_of_ble_eq_true rfl) (fun p e s m args below meth c B => ?_)
  refine bX1_isSomebodyIn_0 B (h.k (cnH (by decide) (by decide) hi)) c_hourOf (fun r S' hq => ?_)
  obtain ⟨rfl, rfl⟩ := hq
  rw [(h.hm hi).2.2.1]
  refine bX1_isSomebodyIn_8 B (fun c => ?_) (fun c => ?_)
  · exact bX1_isSomebodyIn_19 B (bX1_isSomebodyIn_20 B (Or.inl rfl) ⟨rfl, Or.inr ⟨rfl, c⟩⟩)
  · exact bX1_isSomebodyIn_15 B (bX1_isSomebodyIn_20 B (Or.inr rfl) ⟨rfl, Or.inl ⟨rfl, c⟩⟩)
end CALLS2
