/-! ROWS SET: the picture behind a putting in, a taking out, a turning -/
/-- a parcel is in a van's row -/
def OnV (α : Ab) (x v : Nat) : Prop := ∃ i, OnAt α x v i
theorem onv_row {α : Ab} (hA : AI1 α) {v n : Nat} {L : Nat → Nat} (hn : n ≤ 12) (hL : ∀ i, i < n → L i < 30) (x v' : Nat) : OnV (setRow α v n L) x v' ↔ if v' = v then v < nV α ∧ ∃ i, i < n ∧ L i = x else OnV α x v' := by
  unfold OnV OnAt
  by_cases c : v' = v
  · subst c
    rw [if_pos rfl]
    constructor
    · rintro ⟨i, a, b, e⟩
      rw [nV_setRow] at a
      rw [mny_setRow hn, if_pos rfl] at b
      rw [rwf_setRow hn (by omega) (fun _ => b) hL, if_pos rfl] at e
      exact ⟨a, i, b, e⟩
    · rintro ⟨a, i, b, e⟩
      refine ⟨i, by rw [nV_setRow]; exact a, by rw [mny_setRow hn, if_pos rfl]; exact b, ?_⟩
      rw [rwf_setRow hn (by omega) (fun _ => b) hL, if_pos rfl]; exact e
  · rw [if_neg c]
    constructor
    · rintro ⟨i, a, b, e⟩
      rw [nV_setRow] at a
      rw [mny_setRow hn, if_neg c] at b
      have m12 := hA.m12 (hA.v4 a)
      rw [rwf_setRow hn (by omega) (fun z => absurd z c) hL, if_neg c] at e
      exact ⟨i, a, b, e⟩
    · rintro ⟨i, a, b, e⟩
      have m12 := hA.m12 (hA.v4 a)
      refine ⟨i, by rw [nV_setRow]; exact a, by rw [mny_setRow hn, if_neg c]; exact b, ?_⟩
      rw [rwf_setRow hn (by omega) (fun z => absurd z c) hL, if_neg c]; exact e
theorem vof_v {α : Ab} (hA : AI1 α) {x v : Nat} (h : OnV α x v) : vof α x = nI v := by obtain ⟨i, o⟩ := h; exact vof_on hA o
theorem vof_n {α : Ab} {x : Nat} (h : ∀ v, ¬ OnV α x v) : vof α x = -1 := vof_off (fun ⟨v, i, o⟩ => h v ⟨i, o⟩)
theorem vof_same {α β : Ab} (hA : AI1 α) (hB : AI1 β) {x : Nat} (h : ∀ v, OnV α x v ↔ OnV β x v) : vof β x = vof α x := by
  by_cases c : ∃ v, OnV α x v
  · obtain ⟨v, o⟩ := c
    rw [vof_v hA o, vof_v hB ((h v).mp o)]
  · rw [vof_n (fun v o => c ⟨v, o⟩), vof_n (fun v o => c ⟨v, (h v).mpr o⟩)]
theorem vof_putA {α : Ab} (hA : AI1 α) {q v k : Nat} (hv : v < nV α) (hk : k ≤ mny α v) (hq : q < nP α) (hn : mny α v + 1 ≤ 12) (ho : ¬ On α q) (x : Nat) : vof (putA α q v k) x = if x = q then nI v else vof α x := by
  have hB := hA.put hv hk hq hn ho
  have v4 := hA.v4 hv
  have hL30 := insL30 hA v4 hk (hA.p30 hq)
  have key := onv_row hA (v := v) hn hL30
  by_cases c : x = q
  · subst c
    rw [if_pos rfl]
    exact vof_v hB ((key x v).mpr (by rw [if_pos rfl]; exact ⟨hv, k, by omega, insL_eq⟩))
  · rw [if_neg c]
    refine vof_same hA hB (fun v' => ?_)
    show _ ↔ OnV (setRow _ _ _ _) _ _
    rw [key]
    by_cases d : v' = v
    · subst d
      rw [if_pos rfl]
      constructor
      · rintro ⟨i, a, b, e⟩
        refine ⟨hv, ?_⟩
        rcases Nat.lt_or_ge i k with z | z
        · exact ⟨i, by omega, by rw [insL_lt z]; exact e⟩
        · exact ⟨i + 1, by omega, by rw [insL_gt (by omega)]; exact e⟩
      · rintro ⟨-, i, b, e⟩
        rcases insL_mem (L := rwf α v') (q := q) hk b with z | ⟨j, hj, z⟩
        · exact absurd (e.symm.trans z) c
        · exact ⟨j, hv, hj, z.symm.trans e⟩
    · rw [if_neg d]
theorem vof_takA {α : Ab} (hA : AI1 α) {q v i : Nat} (ho : OnAt α q v i) (x : Nat) : vof (takA α v i) x = if x = q then -1 else vof α x := by
  have hB := hA.tak (i := i) ho.1
  have v4 := hA.v4 ho.1
  have m12 := hA.m12 v4
  have hL30 : ∀ j, j < mny α v - 1 → remF (rwf α v) i j < 30 := remF_P (fun j hj => hA.rw30 v4 hj)
  have key := onv_row hA (v := v) (show mny α v - 1 ≤ 12 by omega) hL30
  have mem : ∀ x, (∃ j, j < mny α v - 1 ∧ remF (rwf α v) i j = x) ↔ ∃ j, j < mny α v ∧ j ≠ i ∧ rwf α v j = x := by
    intro x
    constructor
    · rintro ⟨j, hj, e⟩
      obtain ⟨y, hy, hne, e2⟩ := remF_mem (f := rwf α v) (k := i) hj
      exact ⟨y, hy, hne, e2.symm.trans e⟩
    · rintro ⟨j, hj, hne, e⟩
      rcases Nat.lt_or_ge j i with z | z
      · exact ⟨j, by have := ho.2.1; omega, by rw [remF_lt z]; exact e⟩
      · exact ⟨j - 1, by omega, by rw [remF_ge (by omega), show j - 1 + 1 = j by omega]; exact e⟩
  by_cases c : x = q
  · subst c
    rw [if_pos rfl]
    refine vof_n (fun v' => ?_)
    show ¬ OnV (setRow _ _ _ _) _ _
    rw [key]
    by_cases d : v' = v
    · subst d
      rw [if_pos rfl, mem]
      rintro ⟨-, j, hj, hne, e⟩
      exact hne (hA.on_uniq (show OnAt α x v' j from ⟨ho.1, hj, e⟩) ho).2
    · rw [if_neg d]
      rintro ⟨j, o⟩
      exact d (hA.on_uniq o ho).1
  · rw [if_neg c]
    refine vof_same hA hB (fun v' => ?_)
    show _ ↔ OnV (setRow _ _ _ _) _ _
    rw [key]
    by_cases d : v' = v
    · subst d
      rw [if_pos rfl, mem]
      constructor
      · rintro ⟨j, a, b, e⟩
        exact ⟨a, j, b, fun z => c (by rw [← e, z, ho.2.2]), e⟩
      · rintro ⟨a, j, b, -, e⟩
        exact ⟨j, a, b, e⟩
    · rw [if_neg d]
theorem vof_revA {α : Ab} (hA : AI1 α) {v a b : Nat} (hv : v < nV α) (hb : b < mny α v) (hab : a ≤ b) (hB : AI1 (setRow α v (mny α v) (revF (rwf α v) a b))) (x : Nat) : vof (setRow α v (mny α v) (revF (rwf α v) a b)) x = vof α x := by
  have v4 := hA.v4 hv
  have m12 := hA.m12 v4
  have key := onv_row hA (v := v) m12 (revF_P (a := a) hb (fun j hj => hA.rw30 v4 hj))
  refine vof_same hA hB (fun v' => ?_)
  rw [key]
  by_cases d : v' = v
  · subst d
    rw [if_pos rfl]
    constructor
    · rintro ⟨j, p1, p2, e⟩
      refine ⟨hv, ?_⟩
      by_cases z : a ≤ j ∧ j ≤ b
      · exact ⟨a + b - j, by omega, by unfold revF; rw [if_pos (by omega), show a + b - (a + b - j) = j by omega]; exact e⟩
      · exact ⟨j, p2, by unfold revF; rw [if_neg z]; exact e⟩
    · rintro ⟨-, j, p2, e⟩
      unfold revF at e
      by_cases z : a ≤ j ∧ j ≤ b
      · rw [if_pos z] at e; exact ⟨a + b - j, hv, by omega, e⟩
      · rw [if_neg z] at e; exact ⟨j, hv, p2, e⟩
  · rw [if_neg d]
section ROW
variable {w : Wd} {S S2 : St} {T : Tb} {α : Ab}
theorem cnt_row {v n : Nat} {L : Nat → Nat} (c : Nat) : cCnt (setRow α v n L) c = cCnt α c := by
  unfold cCnt
  rw [nV_setRow, nP_setRow, show nH (setRow α v n L) = nH α by unfold nH; rw [setRow_ne (by decide) (by decide)], show nL (setRow α v n L) = nL α by unfold nL; rw [setRow_ne (by decide) (by decide)]]
/-- a van's row is set, the parcels' vans with it -/
theorem CR.row (h : CR w S T α) (hA : AI1 α) {v n : Nat} {L : Nat → Nat} {g : Nat → Option Nat} (hv : v < nV α) (hn : n ≤ 12) (hL : ∀ i, i < n → L i < nP α) (hg : ∀ i, i < n → g i = some (T 30 (L i)))
    (k1 : ∀ a, kd S2 a = kd S a) (k2 : ∀ a, ln S2 a = ln S a) (k3 : ∀ f a, gI S2 f a = if f = 449 ∧ a = T 28 v then nI n else gI S f a) (k4 : ∀ f a, f ≠ 263 → gP S2 f a = gP S f a) (k5 : ∀ a, rI S2 a = rI S a) (k6 : ∀ a, rP S2 a = if a = T 29 v then g else rP S a)
    (k7 : ∀ q, q < nP α → gP S2 263 (T 30 q) = vop T (setRow α v n L) q) : CR w S2 T (setRow α v n L) := by
  have hh := h
  have hL30 : ∀ i, i < n → L i < 30 := fun i hi => hA.p30 (hL i hi)
  obtain ⟨h1, h2, h3, h4, h5, h6, h7, h8, h9⟩ := h
  have gi : ∀ f a, f ≠ 449 → gI S2 f a = gI S f a := fun f a hf => by rw [k3, if_neg (fun z => hf z.1)]
  have eH : nH (setRow α v n L) = nH α := by unfold nH; rw [setRow_ne (by decide) (by decide)]
  have eL : nL (setRow α v n L) = nL α := by unfold nL; rw [setRow_ne (by decide) (by decide)]
  have c28 : v < cCnt α 28 := cnV (by decide) (by decide) hv
  have c29 : v < cCnt α 29 := cnV (by decide) (by decide) hv
  refine ⟨fun c i hi => ?_, fun c i c' i' hi hi' => h2 c i c' i' (by rw [cnt_row] at hi; exact hi) (by rw [cnt_row] at hi'; exact hi'), fun t ht i hi => ?_, ⟨fun j hj => ?_, fun j j' hj hj' z => h4.2 j j' hj hj' ((k1 _).symm.trans z)⟩, ?_, fun i hi => ?_, fun i hi => ?_, fun i hi => ?_, fun i hi => ?_⟩
  · rw [cnt_row] at hi
    exact ⟨(k1 _).trans (h1 c i hi).1, fun z => (k2 _).trans ((h1 c i hi).2 z)⟩
  · rw [cnt_row] at hi
    exact (k4 _ _ (LK_ok t ht).2.2.1).trans (h3 t ht i hi)
  · obtain ⟨N, a1, a2, a3, a4, a5, a6, a7⟩ := h4.1 j hj
    rw [cnt_row]
    refine ⟨N, (k1 _).trans a1, (k4 _ _ (by decide)).trans a2, (gi _ _ (by decide)).trans a3, ?_, a5, a6, fun i hi => ?_⟩
    · rcases a4 with ⟨z1, z2⟩ | z
      · exact Or.inl ⟨(k1 _).trans z1, (k2 _).trans z2⟩
      · exact Or.inr z
    · have ho := Ls.oa (show Ls w S _ _ N _ _ _ from ⟨a1, a2, a3, a4, a5, a6, a7⟩) hi
      have k29 := hh.k c29
      rw [k6, if_neg (fun z => by rw [z, k29] at ho; exact absurd ho.1 (by decide))]
      exact ⟨(a7 i hi).1, (k1 _).trans (a7 i hi).2⟩
  · unfold To
    rw [setRow_ne (show (897 : Nat) ≠ 840 by decide) (by decide), setRow_ne (show (898 : Nat) ≠ 840 by decide) (by decide), setRow_ne (show (899 : Nat) ≠ 840 by decide) (by decide), setRow_ne (show (832 : Nat) ≠ 840 by decide) (by decide)]
    exact ⟨(k5 _).trans h5.1, (gi _ _ (by decide)).trans h5.2.1, (gi _ _ (by decide)).trans h5.2.2.1, (gi _ _ (by decide)).trans h5.2.2.2⟩
  · rw [eH] at hi
    obtain ⟨b1, b2, b3, b4, b5⟩ := h6 i hi
    unfold Hm
    rw [setRow_ne (show (901 : Nat) ≠ 840 by decide) (by decide), setRow_ne (show (902 : Nat) ≠ 840 by decide) (by decide), setRow_ne (show (903 : Nat) ≠ 840 by decide) (by decide), setRow_ne (show (904 : Nat) ≠ 840 by decide) (by decide), setRow_ne (show (905 : Nat) ≠ 840 by decide) (by decide), k5]
    exact ⟨(gi _ _ (by decide)).trans b1, (gi _ _ (by decide)).trans b2, (gi _ _ (by decide)).trans b3, (gi _ _ (by decide)).trans b4, b5⟩
  · rw [eL] at hi
    obtain ⟨b1, b2, b3⟩ := h7 i hi
    unfold Lo
    rw [setRow_ne (show (907 : Nat) ≠ 840 by decide) (by decide), setRow_ne (show (908 : Nat) ≠ 840 by decide) (by decide), setRow_ne (show (839 : Nat) ≠ 840 by decide) (by decide), k5]
    exact ⟨(gi _ _ (by decide)).trans b1, (gi _ _ (by decide)).trans b2, b3⟩
  · rw [nV_setRow] at hi
    obtain ⟨b1, b2, b3, b4, b5, b6⟩ := h8 i hi
    have i4 := hA.v4 hi
    unfold Va
    rw [setRow_ne (show (910 : Nat) ≠ 840 by decide) (by decide), setRow_ne (show (911 : Nat) ≠ 840 by decide) (by decide), setRow_ne (show (912 : Nat) ≠ 840 by decide) (by decide), mny_setRow hn]
    refine ⟨(gi _ _ (by decide)).trans b1, (gi _ _ (by decide)).trans b2, (gi _ _ (by decide)).trans b3, (gi _ _ (by decide)).trans b4, ?_, fun k hk => ?_⟩
    · by_cases c : i = v
      · subst c; rw [k3, if_pos ⟨rfl, rfl⟩, if_pos rfl]
      · rw [k3, if_neg (fun z => c (h2 28 i 28 v (cnV (by decide) (by decide) hi) c28 z.2).2), if_neg c]; exact b5
    · by_cases c : i = v
      · subst c
        rw [if_pos rfl] at hk
        rw [k6, if_pos rfl, rwf_setRow hn (by omega) (fun _ => hk) hL30, if_pos rfl]
        exact hg k hk
      · rw [if_neg c] at hk
        have m12 := hA.m12 i4
        rw [k6, if_neg (fun z => c (h2 29 i 29 v (cnV (by decide) (by decide) hi) c29 z).2), rwf_setRow hn (by omega) (fun z => absurd z c) hL30, if_neg c]
        exact b6 k hk
  · rw [nP_setRow] at hi
    obtain ⟨⟨b1, b2, b3, b4, b5, b6, b7⟩, d1, d2, d3, d4, d5, d6⟩ := h9 i hi
    unfold Pa
    rw [setRow_ne (show (914 : Nat) ≠ 840 by decide) (by decide), setRow_ne (show (915 : Nat) ≠ 840 by decide) (by decide), setRow_ne (show (916 : Nat) ≠ 840 by decide) (by decide), setRow_ne (show (917 : Nat) ≠ 840 by decide) (by decide), setRow_ne (show (918 : Nat) ≠ 840 by decide) (by decide), setRow_ne (show (834 : Nat) ≠ 840 by decide) (by decide), setRow_ne (show (835 : Nat) ≠ 840 by decide) (by decide), setRow_ne (show (836 : Nat) ≠ 840 by decide) (by decide), setRow_ne (show (837 : Nat) ≠ 840 by decide) (by decide), setRow_ne (show (838 : Nat) ≠ 840 by decide) (by decide)]
    exact ⟨⟨(gi _ _ (by decide)).trans b1, (gi _ _ (by decide)).trans b2, (gi _ _ (by decide)).trans b3, (gi _ _ (by decide)).trans b4, (k4 _ _ (by decide)).trans b5, (gi _ _ (by decide)).trans b6, (gi _ _ (by decide)).trans b7⟩, k7 i hi, (gi _ _ (by decide)).trans d2, (gi _ _ (by decide)).trans d3, (gi _ _ (by decide)).trans d4, fun z => (gi _ _ (by decide)).trans (d5 z), (gi _ _ (by decide)).trans d6⟩
end ROW
section PUT
variable {l : Launch} {w : Wd} {S : St} {T : Tb} {α : Ab}
theorem c_putIn {q v k : Nat} (h : CR w S T α) (hA : AI1 α) (hv : v < nV α) (hk : k ≤ mny α v) (hq : q < nP α) (hn : mny α v + 1 ≤ 12) (ho : ¬ On α q) : ConV l yX11_putIn (wsOf yX11_putIn cX11_putIn 3 none) rX11_putIn w S [.ref (T 30 q), .ref (T 27 v), .int (nI k)] (fun S' => CR w S' T (putA α q v k) ∧ ∀ o, ChO S T o → ChO S' T o) := by
  have m12 := hA.m12 (hA.v4 hv)
  have hR := h.rv hA hv
  refine con_V (by decide +kernel) rfl (Nat.le_of_ble_eq_true rfl) (fun p e s m args below meth c B => ?_)
  refine bX11_putIn_0 B (h.kv hv).1 (h.kv hv).2.1 (c_insert hR m12 hk (h.kp hq)) (h.kv hv).2.2 (fun S1 hq1 => ?_)
  obtain ⟨g, rfl, g2⟩ := hq1
  refine bX11_putIn_9 B (h.kp hq) (And.intro ?_ (fun o ho => ho.of (by rw [gP_sP, if_neg (fun z => absurd z.1 (by decide))]; rfl) (by rw [gI_sP, gI_sI, if_neg (fun z => absurd z.1 (by decide)), gI_sRP]) (by rw [gI_sP, gI_sI, if_neg (fun z => absurd z.1 (by decide)), gI_sRP])))
  refine (h.row hA (g := g) hv hn (insL_P hk (fun j hj => (hA.2.2.2.2.1 v j (hA.v4 hv) hj).2) hq) (fun i hi => (g2 i hi).trans (congrArg some insF_L)) (fun _ => rfl) (fun _ => rfl) (fun f a => by rw [gI_sP, gI_sI, gI_sRP]) (fun f a hf => by rw [gP_sP, if_neg (fun z => hf z.1)]; rfl) (fun _ => rfl) (fun a => by rw [rP_sP, rP_sI, rP_sRP]) (fun x hx => ?_))
  have ev := vof_putA hA hv hk hq hn ho x
  have e1 : vop T (setRow α v (mny α v + 1) (insL (rwf α v) k q)) x = if x = q then some (T 27 v) else vop T α x := by
    unfold vop
    rw [show vof (setRow α v (mny α v + 1) (insL (rwf α v) k q)) x = vof (putA α q v k) x from rfl, ev]
    by_cases c : x = q
    · rw [if_pos c, if_pos c, if_neg (nI_nm1 (by have := hA.v4 hv; omega)), cl_nI (by have := hA.v4 hv; omega)]
    · rw [if_neg c, if_neg c]
  rw [e1, gP_sP]
  by_cases c : x = q
  · rw [if_pos ⟨rfl, congrArg _ c⟩, if_pos c]
  · rw [if_neg (fun z => c (h.2.1 30 x 30 q (cnP (by decide) (by decide) hx) (cnP (by decide) (by decide) hq) z.2).2), if_neg c]
    exact (h.pa hx).2.1
theorem vop_on {q v i : Nat} (hA : AI1 α) (ho : OnAt α q v i) : vop T α q = some (T 27 v) := by
  have v4 := hA.v4 ho.1
  unfold vop
  rw [vof_on hA ho, if_neg (nI_nm1 (by omega)), cl_nI (by omega)]
theorem c_takeOut {q v i : Nat} (h : CR w S T α) (hA : AI1 α) (hq : q < nP α) (ho : OnAt α q v i) : ConV l yX11_takeOut (wsOf yX11_takeOut cX11_takeOut 1 none) rX11_takeOut w S [.ref (T 30 q)] (fun S' => CR w S' T (takA α v i) ∧ ∀ o, ChO S T o → ChO S' T o) := by
  have hv := ho.1
  have m12 := hA.m12 (hA.v4 hv)
  have hR := h.rv hA hv
  have hu : ∀ j, j < mny α v → rwf α v j = q → j = i := fun j hj e => (hA.on_uniq (show OnAt α q v j from ⟨hv, hj, e⟩) ho).2
  have hrP : ∀ j, j < mny α v → rwf α v j < nP α := fun j hj => (hA.2.2.2.2.1 v j (hA.v4 hv) hj).2
  refine con_V (by decide +kernel) rfl (Nat.le_of_ble_eq_true rfl) (fun p e s m args below meth c B => ?_)
  refine bX11_takeOut_0 B (h.kp hq) ((h.pa hq).2.1.trans (vop_on hA ho)) (h.kv hv).1 (h.kv hv).2.1 (c_remove hR ho.2.1 (congrArg (T 30) ho.2.2) (fun j hj e => hu j hj ((h.2.1 30 _ 30 q (cnP (by decide) (by decide) (hrP j hj)) (cnP (by decide) (by decide) hq) e).2))) (h.kv hv).2.2 (fun S1 hq1 => ?_)
  obtain ⟨g, rfl, g2⟩ := hq1
  refine bX11_takeOut_11 B (h.kp hq) (And.intro ?_ (fun o ho => ho.of (by rw [gP_sP, if_neg (fun z => absurd z.1 (by decide))]; rfl) (by rw [gI_sP, gI_sI, if_neg (fun z => absurd z.1 (by decide)), gI_sRP]) (by rw [gI_sP, gI_sI, if_neg (fun z => absurd z.1 (by decide)), gI_sRP])))
  refine (h.row hA (g := g) hv (by omega) (remF_P hrP) (fun i hi => (g2 i hi).trans (congrArg some remF_L)) (fun _ => rfl) (fun _ => rfl) (fun f a => by rw [gI_sP, gI_sI, gI_sRP]) (fun f a hf => by rw [gP_sP, if_neg (fun z => hf z.1)]; rfl) (fun _ => rfl) (fun a => by rw [rP_sP, rP_sI, rP_sRP]) (fun x hx => ?_))
  have ev := vof_takA hA ho x
  have e1 : vop T (setRow α v (mny α v - 1) (remF (rwf α v) i)) x = if x = q then none else vop T α x := by
    unfold vop
    rw [show vof (setRow α v (mny α v - 1) (remF (rwf α v) i)) x = vof (takA α v i) x from rfl, ev]
    by_cases c : x = q
    · rw [if_pos c, if_pos c, if_pos rfl]
    · rw [if_neg c, if_neg c]
  rw [e1, gP_sP]
  by_cases c : x = q
  · rw [if_pos ⟨rfl, congrArg _ c⟩, if_pos c]
  · rw [if_neg (fun z => c (h.2.1 30 x 30 q (cnP (by decide) (by decide) hx) (cnP (by decide) (by decide) hq) z.2).2), if_neg c]
    exact (h.pa hx).2.1
theorem c_putSpot {q v k : Nat} (h : CR w S T α) (hA : AI1 α) (hv : v < nV α) (hk : k ≤ mny α v) (hq : q < nP α) (hn : mny α v + 1 ≤ 12) (ho : ¬ On α q) : ConV l yX11_putInAtSpot (wsOf yX11_putInAtSpot cX11_putInAtSpot 3 none) rX11_putInAtSpot w S [.ref (T 0 0), .ref (T 30 q), .int (nI (16 * v + k))] (fun S' => CR w S' T (putA α q v k) ∧ ∀ o, ChO S T o → ChO S' T o) := by
  have v4 := hA.v4 hv
  have e1 : nI (16 * v + k) / 16 = nI v := by rw [show (16 : Int32) = nI 16 from rfl, pk_div (by omega) (by decide) (by decide), show (16 * v + k) / 16 = v by omega]
  have e2 : nI (16 * v + k) - nI (16 * v + k) / 16 * 16 = nI k := by rw [show (16 : Int32) = nI 16 from rfl, pk_rem (by omega) (by decide) (by decide), show (16 * v + k) % 16 = k by omega]
  have hg := c_gvan (l := l) h hv
  rw [← e1] at hg
  have hp := c_putIn (l := l) h hA hv hk hq hn ho
  rw [← e2] at hp
  refine con_V (by decide +kernel) rfl (Nat.le_of_ble_eq_true rfl) (fun p e s m args below meth c B => ?_)
  refine bX11_putInAtSpot_0 B h.x.1 h.x.2.2.2.2.1 hg (h.k1 6 (by decide)) (fun r S1 hq1 => ?_)
  obtain ⟨rfl, rfl⟩ := hq1
  exact bX11_putInAtSpot_12 B (h.kv hv).1 hp (fun S2 hq2 => bX11_putInAtSpot_22 B hq2)
end PUT
