/-! THE LINE: the small steps of the reference over a row of parcels' numbers -/
/-- the numbers of the map and of the things are the same -/
def FrD (α β : Ab) : Prop := ∀ F, 896 < F → F < 919 → β F = α F
theorem FrM.d {α β : Ab} (h : FrM α β) : FrD α β := fun F h1 h2 => h F (by
  have : ∀ F, F < 919 → 896 < F → scrP F = false := by decide +kernel
  exact this F h2 h1)
theorem setRow_d {α : Ab} {v n : Nat} {L : Nat → Nat} : FrD α (setRow α v n L) := fun F h1 h2 => setRow_ne (by omega) (by omega)
theorem pdat_D {α β : Ab} (h : FrD α β) (p : Nat) : pdat β p = pdat α p := by
  unfold pdat
  rw [h 901 (by decide) (by decide), h 902 (by decide) (by decide), h 916 (by decide) (by decide), h 917 (by decide) (by decide), h 918 (by decide) (by decide), h 914 (by decide) (by decide), h 915 (by decide) (by decide)]
theorem Pok_D {α β : Ab} (h : FrD α β) {p : Nat} (hp : Pok α p) : Pok β p := by
  obtain ⟨h1, hh, h2, h3⟩ := hp
  exact ⟨h1, hh, h2, by rw [h 916 (by decide) (by decide)]; exact h3⟩
theorem costM_D {α β : Ab} (h : FrD α β) (v n : Nat) (L : Nat → Nat) : costM β v n L = costM α v n L := by
  unfold costM
  rw [h 897 (by decide) (by decide), h 898 (by decide) (by decide), h 899 (by decide) (by decide), h 911 (by decide) (by decide), h 912 (by decide) (by decide), show (fun i => pdat β (L i)) = fun i => pdat α (L i) from funext fun i => pdat_D h _]
theorem AIr.D {α β : Ab} (h : FrD α β) (g : AIr α) : AIr β := by
  unfold AIr at g ⊢
  rw [h 897 (by decide) (by decide), h 898 (by decide) (by decide), h 899 (by decide) (by decide), h 901 (by decide) (by decide), h 902 (by decide) (by decide), h 911 (by decide) (by decide), h 912 (by decide) (by decide), h 916 (by decide) (by decide), h 917 (by decide) (by decide), h 918 (by decide) (by decide)]; exact g
theorem l0L_D {α β : Ab} (h : FrD α β) (L : Nat → Nat) (n : Nat) : l0L β L n = l0L α L n := by
  unfold l0L
  rw [h 914 (by decide) (by decide), h 915 (by decide) (by decide)]
/-- the greatest load of a row -/
def fullM (α : Ab) (n : Nat) (L : Nat → Nat) : Int32 := glk (kD (fun i => pdat α (L i))) (vD (fun i => pdat α (L i))) (l0L α L n) n
theorem fullM_D {α β : Ab} (h : FrD α β) (n : Nat) (L : Nat → Nat) : fullM β n L = fullM α n L := by
  unfold fullM
  rw [l0L_D h, show (fun i => pdat β (L i)) = fun i => pdat α (L i) from funext fun i => pdat_D h _]
theorem Line.D {α β : Ab} (h : FrD α β) (h1 : β 921 = α 921) (h2 : β 922 = α 922) {n : Nat} {L : Nat → Nat} (hL : Line α n L) : Line β n L :=
  ⟨(congrFun h2 0).trans hL.1, hL.2.1, fun i hi => ⟨(congrFun h1 i).trans (hL.2.2 i hi).1, Pok_D h (hL.2.2 i hi).2⟩⟩
theorem Line.l30 {α : Ab} {n : Nat} {L : Nat → Nat} (h : Line α n L) {i : Nat} (hi : i < n) : L i < 30 := (h.2.2 i hi).2.1
section ML
variable {l : Launch} {w : Wd} {S : St} {m0 s0 ah : Nat} {A : Nat → Nat}
theorem c_lookL {α : Ab} {v : Nat} (h : MR S m0 s0 ah A α) (hA : AI1 α) (hv : v < 4) : ConV l yX13_look (wsOf yX13_look cX13_look 2 none) rX13_look w S [.ref m0, .int (nI v)] (fun S' => ∃ β, MR S' m0 s0 ah A β ∧ FrC α β ∧ Line β (mny α v) (rwf α v)) := by
  have r := hA.rv hv
  refine conV_mono (c_look h hv r.2.1 r.2.2.1) (fun S' hq => ?_)
  obtain ⟨β, g1, g2, g3, g4⟩ := hq
  have f1 := fr_line g2
  exact ⟨β, g1, f1, g3, by have := r.2.2.1; omega, fun i hi => ⟨(g4 i hi).trans (r.2.2.2 i hi).1, Pok_congr f1.m (r.2.2.2 i hi).2⟩⟩
theorem c_insertL {α : Ab} {n k q : Nat} {L : Nat → Nat} (h : MR S m0 s0 ah A α) (hL : Line α n L) (hn : n ≤ 12) (hk : k ≤ n) (hq : Pok α q) : ConV l yX13_insert (wsOf yX13_insert cX13_insert 3 none) rX13_insert w S [.ref m0, .int (nI q), .int (nI k)] (fun S' => ∃ β, MR S' m0 s0 ah A β ∧ FrC α β ∧ Line β (n + 1) (insL L k q)) := by
  refine conV_mono (c_minsert (pp := q) (k := k) h hL.1 hn hk) (fun S' hq1 => ?_)
  obtain ⟨γ, g1, g2, g3, g4⟩ := hq1
  have f1 := fr_line g2
  refine ⟨γ, g1, f1, g3, by omega, fun i hi => ?_⟩
  rw [g4 i hi]
  unfold insL
  by_cases q1 : i < k
  · rw [if_pos q1, if_pos q1]; exact ⟨(hL.2.2 i (by omega)).1, Pok_congr f1.m (hL.2.2 i (by omega)).2⟩
  · rw [if_neg q1, if_neg q1]
    by_cases q2 : i = k
    · rw [if_pos q2, if_pos q2]; exact ⟨rfl, Pok_congr f1.m hq⟩
    · rw [if_neg q2, if_neg q2]; exact ⟨(hL.2.2 (i - 1) (by omega)).1, Pok_congr f1.m (hL.2.2 (i - 1) (by omega)).2⟩
theorem c_removeL {α : Ab} {n k : Nat} {L : Nat → Nat} (h : MR S m0 s0 ah A α) (hL : Line α n L) (hk : k < n) : ConV l yX13_remove (wsOf yX13_remove cX13_remove 2 none) rX13_remove w S [.ref m0, .int (nI k)] (fun S' => ∃ β, MR S' m0 s0 ah A β ∧ FrC α β ∧ Line β (n - 1) (remF L k)) := by
  refine conV_mono (c_mremove (k := k) h hL.1 hL.2.1 hk) (fun S' hq1 => ?_)
  obtain ⟨γ, g1, g2, g3, g4⟩ := hq1
  have f1 := fr_line g2
  refine ⟨γ, g1, f1, g3, by have := hL.2.1; omega, fun i hi => ?_⟩
  rw [g4 i hi]
  unfold remF
  by_cases q1 : i < k
  · rw [if_pos q1, if_pos q1]; exact ⟨(hL.2.2 i (by omega)).1, Pok_congr f1.m (hL.2.2 i (by omega)).2⟩
  · rw [if_neg q1, if_neg q1]; exact ⟨(hL.2.2 (i + 1) (by omega)).1, Pok_congr f1.m (hL.2.2 (i + 1) (by omega)).2⟩
theorem c_costL {α : Ab} {n v : Nat} {L : Nat → Nat} (h : MR S m0 s0 ah A α) (hr : AIr α) (hL : Line α n L) (hv : v < 4) : ConI l yX13_cost (wsOf yX13_cost cX13_cost 14 (some .int)) rX13_cost w S [.ref m0, .int (nI v)] (fun r S' => r = costM α v n L ∧ ∃ β, MR S' m0 s0 ah A β ∧ FrC α β ∧ Line β n L ∧ β 930 0 = fullM α n L) := by
  refine conI_mono (c_mcostL h hL hv (hr.tok hv hL.2.1 (fun i hi => hL.l30 hi))) (fun r S' hq => ?_)
  obtain ⟨h1, β, h2, h3, h4⟩ := hq
  have f := fr_scr h3
  exact ⟨h1, β, h2, f, hL.D f.m.d (h3 921 rfl) (h3 922 rfl), h4.2.2.2.2.1⟩
end ML
section ML2
variable {p : Program} {l : Launch} {e : Env} {s : State} {m : MethodId} {args : Array Value} {below : List Frame} {meth : Method} {c : Code} {w : Wd} {S : St}
theorem l_mturn (B : Bd p s m args meth c cX13_turn 6 (wsOf yX13_turn cX13_turn 6 none) RX13 w none "turn") {Q : State → Prop} {m0 s0 ah a b n : Nat} {α : Ab} {L : Nat → Nat} {A : Nat → Nat} (hb : b < n) (hn : n ≤ 13)
    (hx : ∀ S' β, MR S' m0 s0 ah A β → (∀ F, F ≠ 921 → β F = α F) → (∀ i, i < n → β 921 i = nI (revF L a b i)) → K p l e rX13_turn s m args below meth c 6 w 0 0 Q S' 50 [] []) :
    ∀ d i k, i + k = a + b → k ≤ i + d → a ≤ i → k ≤ b → i ≤ b → ∀ S β, MR S m0 s0 ah A β → (∀ F, F ≠ 921 → β F = α F) → (∀ j, j < n → β 921 j = nI (if (a ≤ j ∧ j < i) ∨ (k < j ∧ j ≤ b) then L (a + b - j) else L j)) → K p l e rX13_turn s m args below meth c 6 w 0 0 Q S 5 [(0, .ref m0), (3, .int (nI i)), (4, .int (nI k))] [] := by
  have fin : ∀ (i k : Nat) (g : Nat → Int32), i + k = a + b → k ≤ i → a ≤ i → k ≤ b → i ≤ b → (∀ j, j < n → g j = nI (if (a ≤ j ∧ j < i) ∨ (k < j ∧ j ≤ b) then L (a + b - j) else L j)) → ∀ j, j < n → g j = nI (revF L a b j) := by
    intro i k g e1 e2 e3 e4 e5 hg j hj
    rw [hg j hj]
    unfold revF
    congr 1
    by_cases c : a ≤ j ∧ j ≤ b
    · rw [if_pos c]
      by_cases c2 : (a ≤ j ∧ j < i) ∨ (k < j ∧ j ≤ b)
      · rw [if_pos c2]
      · rw [if_neg c2, show a + b - j = j by omega]
    · rw [if_neg c, if_neg (by omega)]
  intro d
  induction d with
  | zero =>
    intro i k e1 e2 e3 e4 e5 S β h hF hg
    refine bX13_turn_5 B (fun _ => hx S β h hF (fin i k _ e1 (by omega) e3 e4 e5 hg)) (fun c => absurd (nI_le (by omega) (by omega)) c)
  | succ d ih =>
    intro i k e1 e2 e3 e4 e5 S β h hF hg
    rcases Nat.lt_or_ge i k with hik | hik
    · have ei : (nI i).toNatClampNeg = i := nI_clamp (by omega)
      have ek : (nI k).toNatClampNeg = k := nI_clamp (by omega)
      obtain ⟨l1, l2, l3, l4⟩ := h.ar 921 (by decide)
      have v1 : vp_in (nI i) (ln S (A 921)) := by rw [l3]; exact vp_in_nI (show i < 13 by omega) (by decide)
      have v2 : vp_in (nI k) (ln S (A 921)) := by rw [l3]; exact vp_in_nI (show k < 13 by omega) (by decide)
      refine bX13_turn_5 B (fun c => absurd c (nI_ge hik (by omega))) (fun _ => ?_)
      refine bX13_turn_11 B h.1.1 l1 l2 v1 l1 l1 l2 v2 l2 v1 ?_
      rw [l4, ei, ek]
      have h1 := h.setA (F := 921) (by decide) (va_up (β 921) i (β 921 k))
      obtain ⟨p1, p2, p3, p4⟩ := h1.ar 921 (by decide)
      refine bX13_turn_32 B h1.1.1 p1 p2 (by rw [p3]; exact vp_in_nI (show k < 13 by omega) (by decide)) (bX13_turn_41 B ?_)
      rw [p4, aset_same, ek, nI_1, nI_m1 (by omega)]
      have h2 := h1.setA (F := 921) (by decide) (va_up (va_up (β 921) i (β 921 k)) k (β 921 i))
      refine ih (i + 1) (k - 1) (by omega) (by omega) (by omega) (by omega) (by omega) _ _ h2 (fun F f => by rw [aset_ne f, aset_ne f]; exact hF F f) (fun j hj => ?_)
      rw [aset_same]
      by_cases cj : j = k
      · subst cj
        rw [va_up_self, hg i (by omega), if_neg (by omega), if_pos (by omega), show a + b - j = i by omega]
      · rw [va_up_ne _ _ cj]
        by_cases ci : j = i
        · subst ci
          rw [va_up_self, hg k (by omega), if_neg (by omega), if_pos (by omega), show a + b - j = k by omega]
        · rw [va_up_ne _ _ ci, hg j hj]
          by_cases c2 : (a ≤ j ∧ j < i) ∨ (k < j ∧ j ≤ b)
          · rw [if_pos c2, if_pos (by omega)]
          · rw [if_neg c2, if_neg (by omega)]
    · refine bX13_turn_5 B (fun _ => hx S β h hF (fin i k _ e1 hik e3 e4 e5 hg)) (fun c => absurd (nI_le hik (by omega)) c)
end ML2
theorem revF_mem {L : Nat → Nat} {a b j n : Nat} (hb : b < n) (hj : j < n) : ∃ i, i < n ∧ revF L a b j = L i := by
  unfold revF
  split
  · exact ⟨a + b - j, by omega, rfl⟩
  · exact ⟨j, hj, rfl⟩
section ML3
variable {l : Launch} {w : Wd} {S : St} {m0 s0 ah : Nat} {A : Nat → Nat}
theorem c_turnL {α : Ab} {n a b : Nat} {L : Nat → Nat} (h : MR S m0 s0 ah A α) (hL : Line α n L) (hb : b < n) (hab : a ≤ b) : ConV l yX13_turn (wsOf yX13_turn cX13_turn 6 none) rX13_turn w S [.ref m0, .int (nI a), .int (nI b)] (fun S' => ∃ β, MR S' m0 s0 ah A β ∧ FrC α β ∧ Line β n (revF L a b)) := by
  refine con_V (by decide +kernel) rfl (Nat.le_of_ble_eq_true rfl) (fun p e s m args below meth c B => ?_)
  refine bX13_turn_0 B (l_mturn (a := a) (b := b) (L := L) (α := α) B hb hL.2.1 (fun S' β h' hF hg => bX13_turn_50 B ?_) b a b rfl (by omega) (Nat.le_refl _) (Nat.le_refl _) hab S α h (fun _ _ => rfl) (fun j hj => by rw [if_neg (by omega)]; exact (hL.2.2 j hj).1))
  have f : FrC α β := fun F hf => hF F (scr2_ne hf rfl)
  refine ⟨β, h', f, (congrFun (hF 922 (by decide)) 0).trans hL.1, hL.2.1, fun i hi => ⟨hg i hi, ?_⟩⟩
  obtain ⟨j, hj, e⟩ := revF_mem (L := L) (a := a) hb hi
  rw [e]
  exact Pok_congr f.m (hL.2.2 j hj).2
theorem c_placeOf {α : Ab} {q v i : Nat} (h : MR S m0 s0 ah A α) (hA : AI1 α) (ho : OnAt α q v i) : ConI l yX13_placeOf (wsOf yX13_placeOf cX13_placeOf 4 (some .int)) rX13_placeOf w S [.ref m0, .int (nI q), .int (nI v)] (fun r S' => S = S' ∧ r = nI i) := by
  refine con_I (by decide +kernel) rfl (Nat.le_of_ble_eq_true rfl) (fun p e s m args below meth c B => ?_)
  obtain ⟨o1, o2, o3⟩ := id ho
  have v4 := hA.v4 o1
  have m12 := hA.m12 v4
  have q30 : q < 30 := by rw [← o3]; exact hA.rw30 v4 o2
  obtain ⟨⟨g1, g2, g3, g4, g5, g6, g7, g8⟩, -⟩ := id h
  obtain ⟨b1, b2, b3, b4⟩ := h.ar 841 (by decide)
  refine bX13_placeOf_0 B ?_
  have loop : ∀ d j, j + d = i → K p l e rX13_placeOf s m args below meth c 4 w 0 0 (MQ below (va_Qi (fun r S' => S = S' ∧ r = nI i) (fun S' t => Hd w S' t.heap) (wA w)) args s rX13_placeOf.cells rX13_placeOf.slots (wA w)) S 2 [(0, .ref m0), (1, .int (nI q)), (2, .int (nI v)), (3, .int (nI j))] [] := by
    intro d
    induction d with
    | zero =>
      intro j hj
      have hj : j = i := by omega
      subst hj
      have ei : ((12 : Int32) * nI v + nI j).toNatClampNeg = 12 * v + j := by rw [mul12, nI_add]; exact nI_clamp (by omega)
      have er : rI S (A 841) ((12 : Int32) * nI v + nI j).toNatClampNeg = nI q := by rw [ei, b4, ← o3]; exact (hA.2.2.2.2.1 v j v4 o2).1
      exact bX13_placeOf_2 B g1 g5 g2 b1 b2 (by rw [b3, mul12, nI_add]; exact vp_in_nI (show 12 * v + j < 48 by omega) (by decide)) (fun _ => bX13_placeOf_26 B ⟨rfl, rfl⟩) (fun c => absurd er c)
    | succ d ih =>
      intro j hj
      have ei : ((12 : Int32) * nI v + nI j).toNatClampNeg = 12 * v + j := by rw [mul12, nI_add]; exact nI_clamp (by omega)
      have hjm : j < mny α v := by omega
      have er : rI S (A 841) ((12 : Int32) * nI v + nI j).toNatClampNeg = nI (rwf α v j) := by rw [ei, b4]; exact (hA.2.2.2.2.1 v j v4 hjm).1
      have r30 := hA.rw30 v4 hjm
      refine bX13_placeOf_2 B g1 g5 g2 b1 b2 (by rw [b3, mul12, nI_add]; exact vp_in_nI (show 12 * v + j < 48 by omega) (by decide)) (fun c => ?_) (fun _ => bX13_placeOf_20 B (by rw [nI_1]; exact ih (j + 1) (by omega)))
      rw [er, nI_eq (by omega) (by omega)] at c
      have := (hA.on_uniq (show OnAt α q v j from ⟨o1, hjm, c⟩) ho).2
      omega
  exact loop i 0 (by omega)
end ML3
