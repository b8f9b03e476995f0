/-- planning's scratch in the reference -/
def scr2 (F : Nat) : Bool := scrC F || F == 921 || F == 922
def FrC (α α' : Ab) : Prop := ∀ F, scr2 F = false → α' F = α F
theorem FrC.rf {α : Ab} : FrC α α := fun _ _ => rfl
theorem FrC.tr {α β γ : Ab} (h : FrC α β) (g : FrC β γ) : FrC α γ := fun F hF => (g F hF).trans (h F hF)
/-- all that does not last from one call to another -/
def scrP (F : Nat) : Bool := !((Nat.ble 832 F && Nat.ble F 841 && !(F == 833)) || (Nat.ble 897 F && Nat.ble F 918))
theorem scrP_in {F : Nat} (h : scrP F = false) : (832 ≤ F ∧ F ≤ 841 ∧ F ≠ 833) ∨ (897 ≤ F ∧ F ≤ 918) := by
  unfold scrP at h
  simp only [Bool.not_eq_false', Bool.or_eq_true, Bool.and_eq_true, Nat.ble_eq, Bool.not_eq_true', beq_eq_false_iff_ne] at h
  omega
/-- what lasts is the same -/
def FrM (α α' : Ab) : Prop := ∀ F, scrP F = false → α' F = α F
theorem FrM.rf {α : Ab} : FrM α α := fun _ _ => rfl
theorem FrM.tr {α β γ : Ab} (h : FrM α β) (g : FrM β γ) : FrM α γ := fun F hF => (g F hF).trans (h F hF)
theorem FrM.sym {α β : Ab} (h : FrM α β) : FrM β α := fun F hF => (h F hF).symm
theorem FrC.m {α β : Ab} (h : FrC α β) : FrM α β := fun F hF => h F (by
  have := scrP_in hF
  unfold scr2 scrC
  simp only [Bool.or_eq_false_iff, beq_eq_false_iff_ne]
  omega)
def FrT (α β : Ab) : Prop := FrM α β ∧ β 896 0 = α 896 0
theorem FrT.tr {α β γ : Ab} (h : FrT α β) (g : FrT β γ) : FrT α γ := ⟨h.1.tr g.1, g.2.trans h.2⟩
theorem FrT.rf {α : Ab} : FrT α α := ⟨FrM.rf, rfl⟩
theorem FrC.t {α β : Ab} (h : FrC α β) : FrT α β := ⟨h.m, congrFun (h 896 rfl) 0⟩
theorem scr2_ne {F G : Nat} (hF : scr2 F = false) (hG : scr2 G = true) : F ≠ G := by rintro rfl; rw [hF] at hG; cases hG
theorem pdat_congr {α β : Ab} (h : FrM α β) (p : Nat) : pdat β p = pdat α p := by
  unfold pdat
  rw [h 901 rfl, h 902 rfl, h 916 rfl, h 917 rfl, h 918 rfl, h 914 rfl, h 915 rfl]
theorem Pok_congr {α β : Ab} (h : FrM α β) {p : Nat} (hp : Pok α p) : Pok β p := by
  obtain ⟨h1, hh, h2, h3⟩ := hp
  exact ⟨h1, hh, h2, by rw [h 916 rfl]; exact h3⟩
theorem nI_nn {n : Nat} (h : n < 2 ^ 31) : ¬ nI n < 0 := nI_pos h
theorem mul12 (v : Nat) : (12 : Int32) * nI v = nI (12 * v) := pk_mul 12 v
theorem conI_mono {l : Launch} {y : MethodName} {ws : List Cond} {rm : Room} {w : Wd} {S : St} {av : List Value} {post post' : Int32 → St → Prop} (h : ConI l y ws rm w S av post) (hm : ∀ r S', post r S' → post' r S') : ConI l y ws rm w S av post' := by
  intro p e ha hc hk s m args below hf happ hp hk'
  obtain ⟨n, o, h1, h2, h3, ⟨⟨r, u, q1, q2, q3⟩, h4⟩, h5⟩ := h p e ha hc hk s m args below hf happ hp hk'
  exact ⟨n, o, h1, h2, h3, ⟨⟨r, u, q1, hm _ _ q2, q3⟩, h4⟩, h5⟩
theorem conV_mono {l : Launch} {y : MethodName} {ws : List Cond} {rm : Room} {w : Wd} {S : St} {av : List Value} {post post' : St → Prop} (h : ConV l y ws rm w S av post) (hm : ∀ S', post S' → post' S') : ConV l y ws rm w S av post' := by
  intro p e ha hc hk s m args below hf happ hp hk'
  obtain ⟨n, o, h1, h2, h3, ⟨⟨u, q1, q2, q3⟩, h4⟩, h5⟩ := h p e ha hc hk s m args below hf happ hp hk'
  exact ⟨n, o, h1, h2, h3, ⟨⟨u, q1, hm _ q2, q3⟩, h4⟩, h5⟩
section MR1
variable {l : Launch} {w : Wd} {S : St} {m0 s0 ah : Nat} {A : Nat → Nat}
theorem c_look {α : Ab} {v n : Nat} (h : MR S m0 s0 ah A α) (hv : v < 4) (hn : α 840 v = nI n) (hn12 : n ≤ 12) : ConV l yX13_look (wsOf yX13_look cX13_look 2 none) rX13_look w S [.ref m0, .int (nI v)] (fun S' => ∃ α', MR S' m0 s0 ah A α' ∧ (∀ F, F ≠ 921 → F ≠ 922 → α' F = α F) ∧ α' 922 0 = nI n ∧ ∀ i, i < n → α' 921 i = α 841 (12 * v + i)) := by
  refine con_V (by decide +kernel) rfl (Nat.le_of_ble_eq_true rfl) (fun p e s m args below meth c B => ?_)
  obtain ⟨a1, a2, a3, a4⟩ := h.ar 840 (by decide)
  obtain ⟨b1, b2, b3, b4⟩ := h.ar 841 (by decide)
  obtain ⟨c1, c2, c3, c4⟩ := h.ar 921 (by decide)
  obtain ⟨⟨g1, g2, g3, g4, g5, g6, g7, g8⟩, -⟩ := id h
  have ev : (nI v).toNatClampNeg = v := nI_clamp (by omega)
  have e1 : rI S (A 840) (nI v).toNatClampNeg = nI n := by rw [a4, ev]; exact hn
  have en : (nI n).toNatClampNeg = n := nI_clamp (by omega)
  have e12 : ((12 : Int32) * nI v).toNatClampNeg = 12 * v := by rw [mul12]; exact nI_clamp (by omega)
  have e0 : (0 : Int32).toNatClampNeg = 0 := rfl
  refine bX13_look_0 B g1 g5 g2 a1 a2 (by rw [a3]; exact vp_in_nI hv (by decide)) g5 g2 b1 c1 b2 c2 (by rw [mul12]; exact nI_nn (by omega)) (by rw [e1]; exact nI_nn (by omega)) (by rw [e12, e1, en, b3]; show _ ≤ 48; omega) (by rw [e1, en, e0, c3]; show _ ≤ 13; omega) ?_
  rw [e1, en, e12, e0]
  have h1 := h.setS (F := 922) (by decide) (nI n)
  have h2 := h1.setA (F := 921) (by decide) (va_cpy (α 841) (α 921) (12 * v) 0 n)
  rw [rI_sI, rI_sI, b4, c4]
  refine ⟨_, h2, fun F f1 f2 => by rw [aset_ne f1, au_neF f2], by rw [aset_ne (by decide), au_same], fun i hi => ?_⟩
  rw [aset_same, pk_cpy_in (by omega) (by omega)]
  congr 1
theorem c_minsert {α : Ab} {pp k n : Nat} (h : MR S m0 s0 ah A α) (hn : α 922 0 = nI n) (hn12 : n ≤ 12) (hk : k ≤ n) : ConV l yX13_insert (wsOf yX13_insert cX13_insert 3 none) rX13_insert w S [.ref m0, .int (nI pp), .int (nI k)] (fun S' => ∃ α', MR S' m0 s0 ah A α' ∧ (∀ F, F ≠ 921 → F ≠ 922 → α' F = α F) ∧ α' 922 0 = nI (n + 1) ∧ ∀ i, i < n + 1 → α' 921 i = if i < k then α 921 i else if i = k then nI pp else α 921 (i - 1)) := by
  refine con_V (by decide +kernel) rfl (Nat.le_of_ble_eq_true rfl) (fun p e s m args below meth c B => ?_)
  obtain ⟨c1, c2, c3, c4⟩ := h.ar 921 (by decide)
  have g1 := h.1.1
  have hln : gI S 922 m0 = nI n := (h.sc 922 (by decide)).trans hn
  have ek : (nI k).toNatClampNeg = k := nI_clamp (by omega)
  have ek1 : (nI k + 1).toNatClampNeg = k + 1 := by rw [nI_1]; exact nI_clamp (by omega)
  have ed : nI n - nI k = nI (n - k) := pk_sub hk
  have edc : (nI (n - k)).toNatClampNeg = n - k := nI_clamp (by omega)
  refine bX13_insert_0 B g1 c1 c1 c2 c2 (nI_nn (by omega)) (by rw [nI_1]; exact nI_nn (by omega)) (by rw [hln, ed]; exact nI_nn (by omega)) (by rw [hln, ed, ek, edc, c3]; show _ ≤ 13; omega) (by rw [hln, ed, ek1, edc, c3]; show _ ≤ 13; omega) c1 c2 (by rw [c3]; exact vp_in_nI (show k < 13 by omega) (by decide)) ?_
  rw [hln, ed, ek, ek1, edc, sRI_sRI, rI_sRI, if_pos rfl, c4]
  have h1 := h.setA (F := 921) (by decide) (va_up (va_cpy (α 921) (α 921) k (k + 1) (n - k)) k (nI pp))
  have e2 : gI (sRI S (A 921) (va_up (va_cpy (α 921) (α 921) k (k + 1) (n - k)) k (nI pp))) 922 m0 = nI n := (gI_sRI ..).trans hln
  have h2 := h1.setS (F := 922) (by decide) (nI (n + 1))
  refine bX13_insert_28 B g1 ?_
  rw [e2, nI_1]
  refine ⟨_, h2, fun F f1 f2 => by rw [au_neF f2, aset_ne f1], au_same, fun i hi => ?_⟩
  rw [au_neF (by decide), aset_same]
  by_cases q1 : i = k
  · subst q1; rw [va_up_self, if_neg (by omega), if_pos rfl]
  · rw [va_up_ne _ _ q1]
    by_cases q2 : i < k
    · rw [if_pos q2, pk_cpy_out (Or.inl (by omega))]
    · rw [if_neg q2, if_neg q1, pk_cpy_in (by omega) (by omega)]
      congr 1
      omega
theorem c_mremove {α : Ab} {k n : Nat} (h : MR S m0 s0 ah A α) (hn : α 922 0 = nI n) (hn12 : n ≤ 13) (hk : k < n) : ConV l yX13_remove (wsOf yX13_remove cX13_remove 2 none) rX13_remove w S [.ref m0, .int (nI k)] (fun S' => ∃ α', MR S' m0 s0 ah A α' ∧ (∀ F, F ≠ 921 → F ≠ 922 → α' F = α F) ∧ α' 922 0 = nI (n - 1) ∧ ∀ i, i < n - 1 → α' 921 i = if i < k then α 921 i else α 921 (i + 1)) := by
  refine con_V (by decide +kernel) rfl (Nat.le_of_ble_eq_true rfl) (fun p e s m args below meth c B => ?_)
  obtain ⟨c1, c2, c3, c4⟩ := h.ar 921 (by decide)
  have g1 := h.1.1
  have hln : gI S 922 m0 = nI n := (h.sc 922 (by decide)).trans hn
  have ek : (nI k).toNatClampNeg = k := nI_clamp (by omega)
  have ek1 : (nI k + 1).toNatClampNeg = k + 1 := by rw [nI_1]; exact nI_clamp (by omega)
  have e1 : nI n - 1 = nI (n - 1) := nI_s1 (by omega)
  have ed : nI (n - 1) - nI k = nI (n - 1 - k) := pk_sub (by omega)
  have edc : (nI (n - 1 - k)).toNatClampNeg = n - 1 - k := nI_clamp (by omega)
  refine bX13_remove_0 B g1 c1 c1 c2 c2 (by rw [nI_1]; exact nI_nn (by omega)) (nI_nn (by omega)) (by rw [hln, e1, ed]; exact nI_nn (by omega)) (by rw [hln, e1, ed, ek1, edc, c3]; show _ ≤ 13; omega) (by rw [hln, e1, ed, ek, edc, c3]; show _ ≤ 13; omega) ?_
  rw [hln, e1, ed, ek, ek1, edc, rI_sI, c4]
  have h1 := h.setS (F := 922) (by decide) (nI (n - 1))
  have h2 := h1.setA (F := 921) (by decide) (va_cpy (α 921) (α 921) (k + 1) k (n - 1 - k))
  refine ⟨_, h2, fun F f1 f2 => by rw [aset_ne f1, au_neF f2], by rw [aset_ne (by decide), au_same], fun i hi => ?_⟩
  rw [aset_same]
  by_cases q2 : i < k
  · rw [if_pos q2, pk_cpy_out (Or.inl q2)]
  · rw [if_neg q2, pk_cpy_in (by omega) (by omega)]
    congr 1
    omega
theorem c_keep {α : Ab} {v n : Nat} (h : MR S m0 s0 ah A α) (hv : v < 4) (hn : α 922 0 = nI n) (hn12 : n ≤ 12) : ConV l yX13_keep (wsOf yX13_keep cX13_keep 2 none) rX13_keep w S [.ref m0, .int (nI v)] (fun S' => ∃ α', MR S' m0 s0 ah A α' ∧ (∀ F, F ≠ 840 → F ≠ 841 → α' F = α F) ∧ α' 840 = va_up (α 840) v (nI n) ∧ α' 841 = va_cpy (α 921) (α 841) 0 (12 * v) n) := by
  refine con_V (by decide +kernel) rfl (Nat.le_of_ble_eq_true rfl) (fun p e s m args below meth c B => ?_)
  obtain ⟨a1, a2, a3, a4⟩ := h.ar 840 (by decide)
  obtain ⟨b1, b2, b3, b4⟩ := h.ar 841 (by decide)
  obtain ⟨c1, c2, c3, c4⟩ := h.ar 921 (by decide)
  obtain ⟨⟨g1, g2, g3, g4, g5, g6, g7, g8⟩, -⟩ := id h
  have hln : gI S 922 m0 = nI n := (h.sc 922 (by decide)).trans hn
  have ev : (nI v).toNatClampNeg = v := nI_clamp (by omega)
  have en : (nI n).toNatClampNeg = n := nI_clamp (by omega)
  have e12 : ((12 : Int32) * nI v).toNatClampNeg = 12 * v := by rw [mul12]; exact nI_clamp (by omega)
  have e0 : (0 : Int32).toNatClampNeg = 0 := rfl
  have ne : A 840 ≠ A 841 := fun z => absurd (h.2.2.1 840 841 (by decide) (by decide) z) (by decide)
  refine bX13_keep_0 B g1 c1 g5 g2 b1 c2 b2 (by rw [mul12]; exact nI_nn (by omega)) (by rw [hln]; exact nI_nn (by omega)) (by rw [hln, en, e0, c3]; show _ ≤ 13; omega) (by rw [hln, e12, en, b3]; show _ ≤ 48; omega) g5 g2 a1 a2 (by rw [a3]; exact vp_in_nI hv (by decide)) ?_
  rw [hln, en, e12, e0, ev, rI_sRI, if_neg ne, b4, c4, a4]
  have h1 := h.setA (F := 841) (by decide) (va_cpy (α 921) (α 841) 0 (12 * v) n)
  have h2 := h1.setA (F := 840) (by decide) (va_up (α 840) v (nI n))
  exact bX13_keep_36 B ⟨_, h2, fun F f1 f2 => by rw [aset_ne f1, aset_ne f2], aset_same, by rw [aset_ne (by decide), aset_same]⟩
/-- a van's route in the numbers: n parcels, L i the i-th -/
def RV (α : Ab) (v n : Nat) (L : Nat → Nat) : Prop := v < 4 ∧ α 840 v = nI n ∧ n ≤ 12 ∧ ∀ i, i < n → α 841 (12 * v + i) = nI (L i) ∧ Pok α (L i)
theorem RV.congr {α β : Ab} (h : FrM α β) {v n : Nat} {L : Nat → Nat} (hR : RV α v n L) : RV β v n L :=
  ⟨hR.1, (congrFun (h 840 rfl) _).trans hR.2.1, hR.2.2.1, fun i hi => ⟨(congrFun (h 841 rfl) _).trans (hR.2.2.2 i hi).1, Pok_congr h (hR.2.2.2 i hi).2⟩⟩
/-- the values that cost() leaves, of the row L -/
def CV (α α' : Ab) (L : Nat → Nat) (n v : Nat) : Prop :=
  α' 926 0 = (finW (α 897) (fun i => pdat α (L i)) (α 898 0) (α 899 0) (α 911 v) n).2.2.2.2.1 ∧ α' 927 0 = (wk (α 897) (fun i => pdat α (L i)) (t00 (α 898 0) (α 899 0) (α 911 v)) n).2 ∧ α' 928 0 = (finW (α 897) (fun i => pdat α (L i)) (α 898 0) (α 899 0) (α 911 v) n).2.2.2.1 ∧ α' 929 0 = (finW (α 897) (fun i => pdat α (L i)) (α 898 0) (α 899 0) (α 911 v) n).2.2.2.2.2 ∧ α' 930 0 = glk (kD (fun i => pdat α (L i))) (vD (fun i => pdat α (L i))) (l0L α L n) n ∧
  ∀ j, j < n → α' 923 j = nowW (α 897) (pdat α (L j)) (wk (α 897) (fun i => pdat α (L i)) (t00 (α 898 0) (α 899 0) (α 911 v)) j).1 ∧ α' 924 j = lateW (α 897) (pdat α (L j)) (wk (α 897) (fun i => pdat α (L i)) (t00 (α 898 0) (α 899 0) (α 911 v)) j).1 ∧ α' 925 j = ldk (kD (fun i => pdat α (L i))) (vD (fun i => pdat α (L i))) (l0L α L n) (j + 1)
/-- what a row of parcels costs a van -/
def costM (α : Ab) (v n : Nat) (L : Nat → Nat) : Int32 := costW (α 897) (fun i => pdat α (L i)) (α 898 0) (α 899 0) (α 911 v) (α 912 v) n
/-- its times are small -/
def TokM (α : Ab) (v n : Nat) (L : Nat → Nat) : Prop := Tok (α 897) (fun i => pdat α (L i)) (t00 (α 898 0) (α 899 0) (α 911 v)) (α 898 0) (α 899 0) n ∧ okT (α 912 v)
theorem l0L_congr {α β : Ab} (h : FrM α β) (L : Nat → Nat) (n : Nat) : l0L β L n = l0L α L n := by
  unfold l0L
  rw [h 914 rfl, h 915 rfl]
theorem costM_congr {α β : Ab} (h : FrM α β) (v n : Nat) (L : Nat → Nat) : costM β v n L = costM α v n L := by
  unfold costM
  rw [h 897 rfl, h 898 rfl, h 899 rfl, h 911 rfl, h 912 rfl, show (fun i => pdat β (L i)) = fun i => pdat α (L i) from funext fun i => pdat_congr h _]
theorem TokM_congr {α β : Ab} (h : FrM α β) {v n : Nat} {L : Nat → Nat} (ht : TokM α v n L) : TokM β v n L := by
  unfold TokM
  rw [h 897 rfl, h 898 rfl, h 899 rfl, h 911 rfl, h 912 rfl, show (fun i => pdat β (L i)) = fun i => pdat α (L i) from funext fun i => pdat_congr h _]
  exact ht
theorem CV_congr {α β γ : Ab} (h : FrM α β) {v n : Nat} {L : Nat → Nat} (ht : CV β γ L n v) : CV α γ L n v := by
  unfold CV at ht
  rw [h 897 rfl, h 898 rfl, h 899 rfl, h 911 rfl, l0L_congr h, show (fun i => pdat β (L i)) = fun i => pdat α (L i) from funext fun i => pdat_congr h _] at ht
  obtain ⟨h1, h2, h3, h4, h5, h6⟩ := ht
  refine ⟨h1, h2, h3, h4, h5, fun j hj => ?_⟩
  have := h6 j hj
  rw [pdat_congr h] at this
  exact this
theorem fr_line {α β : Ab} (h : ∀ F, F ≠ 921 → F ≠ 922 → β F = α F) : FrC α β := fun F hF => h F (scr2_ne hF rfl) (scr2_ne hF rfl)
theorem fr_scr {α β : Ab} (h : ∀ F, scrC F = false → β F = α F) : FrC α β := fun F hF => h F (by unfold scr2 at hF; simp only [Bool.or_eq_false_iff] at hF; exact hF.1.1)
/-- cost() of a line, its values over the numbers ahead -/
theorem c_mcostL {α : Ab} {n v : Nat} {L : Nat → Nat} (h : MR S m0 s0 ah A α) (hL : Line α n L) (hv : v < 4) (hT : TokM α v n L) :
    ConI l yX13_cost (wsOf yX13_cost cX13_cost 14 (some .int)) rX13_cost w S [.ref m0, .int (nI v)] (fun r S' => r = costM α v n L ∧ ∃ α', MR S' m0 s0 ah A α' ∧ (∀ F, scrC F = false → α' F = α F) ∧ CV α α' L n v) := by
  refine conI_mono (c_mcost h hL hv hT.1 hT.2) (fun r S' hq => ?_)
  obtain ⟨h1, α', h2, h3⟩ := hq
  exact ⟨h1, α', h2, h3.1, h3.2⟩
theorem c_routeCost {α : Ab} {n v : Nat} {L : Nat → Nat} (h : MR S m0 s0 ah A α) (hR : RV α v n L) (hT : TokM α v n L) :
    ConI l yX13_routeCost (wsOf yX13_routeCost cX13_routeCost 2 (some .int)) rX13_routeCost w S [.ref m0, .int (nI v)] (fun r S' => r = costM α v n L ∧ ∃ α', MR S' m0 s0 ah A α' ∧ FrC α α' ∧ Line α' n L ∧ CV α α' L n v) := by
  refine con_I (by decide +kernel) rfl (Nat.le_of_ble_eq_true rfl) (fun p e s m args below meth c B => ?_)
  obtain ⟨r1, r2, r3, r4⟩ := id hR
  refine bX13_routeCost_0 B (c_look h r1 r2 r3) h.1.1 (fun S' hq => ?_)
  obtain ⟨β, g1, g2, g3, g4⟩ := hq
  have f1 := fr_line g2
  have hL : Line β n L := ⟨g3, by omega, fun i hi => ⟨(g4 i hi).trans (r4 i hi).1, Pok_congr f1.m (r4 i hi).2⟩⟩
  refine bX13_routeCost_5 B (c_mcostL g1 hL r1 (TokM_congr f1.m hT)) g1.1.1 (fun r S2 hq => ?_)
  obtain ⟨k1, γ, k2, k3, k4⟩ := hq
  have f2 := fr_scr k3
  refine bX13_routeCost_10 B ⟨by rw [k1, costM_congr f1.m], γ, k2, f1.tr f2, ⟨(congrFun (k3 922 rfl) 0).trans hL.1, hL.2.1, fun i hi => ⟨(congrFun (k3 921 rfl) i).trans (hL.2.2 i hi).1, Pok_congr f2.m (hL.2.2 i hi).2⟩⟩, CV_congr f1.m k4⟩
/-- a row with one parcel more -/
def insL (L : Nat → Nat) (k pp : Nat) (j : Nat) : Nat := if j < k then L j else if j = k then pp else L (j - 1)
/-- it is possible, and by how much it costs more -/
abbrev fitsM (α : Ab) (v n : Nat) (L : Nat → Nat) : Prop := n ≤ 12 ∧ ¬ α 910 v < glk (kD (fun i => pdat α (L i))) (vD (fun i => pdat α (L i))) (l0L α L n) n
theorem fitsM_congr {α β : Ab} (h : FrM α β) {v n : Nat} {L : Nat → Nat} : fitsM β v n L ↔ fitsM α v n L := by
  unfold fitsM
  rw [h 910 rfl, l0L_congr h, show (fun i => pdat β (L i)) = fun i => pdat α (L i) from funext fun i => pdat_congr h _]
theorem c_more {α : Ab} {n v k pp : Nat} {L : Nat → Nat} (h : MR S m0 s0 ah A α) (hR : RV α v n L) (hp : Pok α pp) (hk : k ≤ n) (hT : TokM α v n L) (hT2 : TokM α v (n + 1) (insL L k pp)) :
    ConI l yX13_more (wsOf yX13_more cX13_more 6 (some .int)) rX13_more w S [.ref m0, .int (nI pp), .int (nI v), .int (nI k)] (fun r S' => (fitsM α v (n + 1) (insL L k pp) ∧ r = costM α v (n + 1) (insL L k pp) - costM α v n L ∨ ¬ fitsM α v (n + 1) (insL L k pp) ∧ r = 1000000) ∧ ∃ α', MR S' m0 s0 ah A α' ∧ FrC α α' ∧ Line α' (n + 1) (insL L k pp)) := by
  refine con_I (by decide +kernel) rfl (Nat.le_of_ble_eq_true rfl) (fun p e s m args below meth c B => ?_)
  obtain ⟨r1, r2, r3, r4⟩ := id hR
  refine bX13_more_0 B (c_routeCost h hR hT) h.1.1 (fun r S1 hq => ?_)
  obtain ⟨k1, β, k2, k3, k4, -⟩ := hq
  refine bX13_more_5 B (c_minsert (pp := pp) (k := k) k2 k4.1 r3 hk) k2.1.1 (fun S2 hq => ?_)
  obtain ⟨γ, g1, g2, g3, g4⟩ := hq
  have f1 := k3.tr (fr_line g2)
  have hL : Line γ (n + 1) (insL L k pp) := by
    refine ⟨g3, by omega, fun i hi => ?_⟩
    rw [g4 i hi]
    unfold insL
    by_cases q1 : i < k
    · rw [if_pos q1, if_pos q1]; exact ⟨(k4.2.2 i (by omega)).1, Pok_congr f1.m (r4 i (by omega)).2⟩
    · rw [if_neg q1, if_neg q1]
      by_cases q2 : i = k
      · rw [if_pos q2, if_pos q2]; exact ⟨rfl, Pok_congr f1.m hp⟩
      · rw [if_neg q2, if_neg q2]; exact ⟨(k4.2.2 (i - 1) (by omega)).1, Pok_congr f1.m (r4 (i - 1) (by omega)).2⟩
  refine bX13_more_13 B (c_mcostL g1 hL r1 (TokM_congr f1.m hT2)) g1.1.1 (fun r2' S3 hq => ?_)
  obtain ⟨e1, δ, e2, e3, e4⟩ := hq
  have f2 := fr_scr e3
  have hL' : Line δ (n + 1) (insL L k pp) := ⟨(congrFun (e3 922 rfl) 0).trans hL.1, hL.2.1, fun i hi => ⟨(congrFun (e3 921 rfl) i).trans (hL.2.2 i hi).1, Pok_congr f2.m (hL.2.2 i hi).2⟩⟩
  have hlen : gI S3 922 m0 = nI (n + 1) := (e2.sc 922 (by decide)).trans hL'.1
  have hfull : gI S3 930 m0 = glk (kD (fun i => pdat α (insL L k pp i))) (vD (fun i => pdat α (insL L k pp i))) (l0L α (insL L k pp) (n + 1)) (n + 1) := (e2.sc 930 (by decide)).trans (CV_congr f1.m e4).2.2.2.2.1
  obtain ⟨a1, a2, a3, a4⟩ := e2.ar 910 (by decide)
  have ev : (nI v).toNatClampNeg = v := nI_clamp (by omega)
  have hroom : rI S3 (A 910) (nI v).toNatClampNeg = α 910 v := by rw [a4, ev, (f1.tr f2) 910 rfl]
  refine bX13_more_18 B e2.1.1 (fun c => ?_) (fun c => ?_)
  · refine bX13_more_42 B (bX13_more_52 B ⟨Or.inr ⟨fun z => ?_, rfl⟩, δ, e2, f1.tr f2, hL'⟩)
    rw [hlen] at c
    exact nI_nlt (a := 12) (b := n + 1) z.1 (by decide) c
  · have hn : n + 1 ≤ 12 := by
      rcases Nat.lt_or_ge 12 (n + 1) with z | z
      · exact absurd (by rw [hlen]; exact nI_lt z (by omega)) c
      · exact z
    refine bX13_more_29 B e2.1.1 a1 a2 (by rw [a3]; exact vp_in_nI r1 (by decide)) (fun c2 => ?_) (fun c2 => ?_)
    · rw [hroom, hfull] at c2
      refine bX13_more_47 B (bX13_more_52 B ⟨Or.inl ⟨⟨hn, Int32.not_lt.mpr c2⟩, ?_⟩, δ, e2, f1.tr f2, hL'⟩)
      rw [e1, k1, costM_congr f1.m]
    · rw [hroom, hfull] at c2
      exact bX13_more_42 B (bX13_more_52 B ⟨Or.inr ⟨fun z => c2 (Int32.not_lt.mp z.2), rfl⟩, δ, e2, f1.tr f2, hL'⟩)
end MR1
