/-! MOVING: the class's choice against the reference's -/
def svd (α : Ab) (v i : Nat) : Int32 := rc α v - costM α v (mny α v - 1) (remF (rwf α v) i)
def nBs (α : Ab) (v t : Nat) : Nat := if t = v then mny α v - 1 else mny α t
def LBs (α : Ab) (v i t : Nat) : Nat → Nat := if t = v then remF (rwf α v) i else rwf α t
def wgM (α : Ab) (q v i : Nat) (o : Cho) : Nat → Cho
  | 0 => o
  | t + 1 => wK α q t (nBs α v t) (LBs α v i t) (svd α v i) (wgM α q v i o t) (nBs α v t + 1)
def mc1 (α : Ab) (q : Nat) (o : Cho) : Cho := if vof α q = -1 then o else wgM α q (cl (vof α q)) (plc α q (cl (vof α q))) o (nV α)
def scM (α : Ab) : Nat → Cho
  | 0 => none
  | q + 1 => mc1 α q (scM α q)
def RM (N : Nat) (o : Cho) (b : Int32 × Int32 × Int32) : Prop := (b = (0, -1, -1) ∧ ∀ c, o = some c → 0 ≤ c.1) ∨ ∃ x q sp, b = (x, nI q, sp) ∧ 0 < x ∧ isN x 900000000 ∧ q < N ∧ o = some (-x, q, sp)
theorem neg_i {x : Int32} (h : isN x 900000000) : (-x).toInt = -x.toInt := by
  obtain ⟨h1, h2⟩ := h
  rw [Int32.toInt_neg, Int.bmod_eq_of_le (by omega) (by omega)]
theorem RM.pos {N : Nat} {o : Cho} {b : Int32 × Int32 × Int32} (h : RM N o b) : 0 ≤ b.1 := by
  rcases h with ⟨rfl, -⟩ | ⟨x, q, sp, rfl, h, -⟩
  · exact Int32.le_refl _
  · exact Int32.le_of_lt h
/-- one way is weighed: change c on one side, less d on the other -/
theorem RM.step {N q : Nat} {o : Cho} {b : Int32 × Int32 × Int32} (h : RM N o b) (hq : q < N) {ch d sp : Int32} (hd : d.toInt = -ch.toInt) (h1 : -900000000 ≤ ch.toInt) (h2 : ch.toInt ≤ 900000000) : RM N (wgh o ch q sp) (if b.1 < d then (d, nI q, sp) else b) := by
  have e0 : (0 : Int32).toInt = 0 := by decide
  have ed : 0 < d → isN d 900000000 ∧ ch = -d ∧ ch.toInt < 0 := fun z => by
    have z := Int32.lt_iff_toInt_lt.mp z
    have hn : isN d 900000000 := ⟨by omega, by omega⟩
    exact ⟨hn, Int32.toInt_inj.mp (by rw [neg_i hn]; omega), by omega⟩
  rcases h with ⟨rfl, ho⟩ | ⟨x, q', sp', rfl, hx, hx2, hq', rfl⟩
  · by_cases c : (0 : Int32) < d
    · obtain ⟨n1, n2, n3⟩ := ed c
      rw [if_pos (show ((0 : Int32), (-1 : Int32), (-1 : Int32)).1 < d from c)]
      refine Or.inr ⟨d, q, sp, rfl, c, n1, hq, ?_⟩
      cases o with
      | none => rw [← n2]; rfl
      | some y =>
        have hy := Int32.le_iff_toInt_le.mp (ho y rfl)
        unfold wgh
        simp only
        rw [if_neg (fun z => by have := Int32.le_iff_toInt_le.mp z; omega), n2]
    · rw [if_neg (show ¬ ((0 : Int32), (-1 : Int32), (-1 : Int32)).1 < d from c)]
      refine Or.inl ⟨rfl, fun y hy => ?_⟩
      have hc : 0 ≤ ch := by
        rw [Int32.le_iff_toInt_le, e0]
        have := Int32.le_iff_toInt_le.mp (Int32.not_lt.mp c)
        omega
      cases o with
      | none => cases hy; exact hc
      | some z =>
        unfold wgh at hy
        simp only at hy
        split at hy
        · cases hy; exact ho _ rfl
        · cases hy; exact hc
  · have en := neg_i hx2
    by_cases c : x < d
    · obtain ⟨n1, n2, n3⟩ := ed (Int32.lt_trans hx c)
      rw [if_pos (show (x, nI q', sp').1 < d from c)]
      refine Or.inr ⟨d, q, sp, rfl, Int32.lt_trans hx c, n1, hq, ?_⟩
      have c := Int32.lt_iff_toInt_lt.mp c
      unfold wgh
      simp only
      rw [if_neg (fun z => by have := Int32.le_iff_toInt_le.mp z; omega), n2]
    · rw [if_neg (show ¬ (x, nI q', sp').1 < d from c)]
      refine Or.inr ⟨x, q', sp', rfl, hx, hx2, hq', ?_⟩
      have c := Int32.le_iff_toInt_le.mp (Int32.not_lt.mp c)
      unfold wgh
      simp only
      rw [if_pos (Int32.le_iff_toInt_le.mpr (by omega))]
section MVP
variable {α : Ab}
theorem nBs_pl {q v i t : Nat} (ho : OnAt α q v i) : nBs α v t + 1 = nPl α v t := by
  unfold nBs nPl
  by_cases c : t = v
  · subst c; rw [if_pos rfl, if_pos rfl]; have := ho.2.1; omega
  · rw [if_neg c, if_neg c]
theorem LBs_P (hA : AI1 α) {v i t : Nat} (hv : v < nV α) (ht : t < nV α) : ∀ j, j < nBs α v t → LBs α v i t j < nP α := by
  unfold nBs LBs
  by_cases c : t = v
  · subst c; rw [if_pos rfl, if_pos rfl]; exact remF_P (rw_P hA hv)
  · rw [if_neg c, if_neg c]; exact rw_P hA ht
theorem nBs_12 (hA : AI1 α) {v t : Nat} (hv : v < nV α) (ht : t < nV α) : nBs α v t ≤ 12 := by
  unfold nBs
  split
  · have := hA.m12 (hA.v4 hv); omega
  · exact hA.m12 (hA.v4 ht)
theorem mv_step (hA : AI1 α) {q v i t k : Nat} (hq : q < nP α) (ho : OnAt α q v i) (ht : t < nV α) (hk : k < nPl α v t) : (fitsM α t (nBs α v t + 1) (insL (LBs α v i t) k q) ∧ (mvd α q v i t k).toInt = -(costM α t (nBs α v t + 1) (insL (LBs α v i t) k q) - costM α t (nBs α v t) (LBs α v i t) - svd α v i).toInt ∧ -900000000 ≤ (costM α t (nBs α v t + 1) (insL (LBs α v i t) k q) - costM α t (nBs α v t) (LBs α v i t) - svd α v i).toInt ∧ (costM α t (nBs α v t + 1) (insL (LBs α v i t) k q) - costM α t (nBs α v t) (LBs α v i t) - svd α v i).toInt ≤ 900000000) ∨ ¬ fitsM α t (nBs α v t + 1) (insL (LBs α v i t) k q) ∧ mvd α q v i t k = -1 := by
  have v4 := hA.v4 ho.1
  have t4 := hA.v4 ht
  have m12 := hA.m12 v4
  have mt12 := hA.m12 t4
  have q30 := hA.p30 hq
  have n12 := nBs_12 hA ho.1 ht
  rw [← nBs_pl ho] at hk
  have hLP := LBs_P (i := i) hA ho.1 ht
  have hL30 : ∀ j, j < nBs α v t → LBs α v i t j < 30 := fun j hj => hA.p30 (hLP j hj)
  have b1 := costM_ok hA.1 t4 (n := nBs α v t + 1) (L := insL (LBs α v i t) k q) (by omega) (insL_P (show k ≤ nBs α v t by omega) hL30 q30)
  have b2 := costM_ok hA.1 t4 (n := nBs α v t) (L := LBs α v i t) (by omega) hL30
  have b3 : isN (rc α v) 400000 := costM_ok hA.1 v4 (by omega) (fun j hj => hA.rw30 v4 hj)
  have b4 := costM_ok hA.1 v4 (n := mny α v - 1) (L := remF (rwf α v) i) (by omega) (remF_P (fun j hj => hA.rw30 v4 hj))
  have d1 := (diff_lt b1 b2)
  have d2 := (diff_lt b3 b4)
  have e : (costM α t (nBs α v t + 1) (insL (LBs α v i t) k q) - costM α t (nBs α v t) (LBs α v i t) - svd α v i).toInt = (costM α t (nBs α v t + 1) (insL (LBs α v i t) k q)).toInt - (costM α t (nBs α v t) (LBs α v i t)).toInt - ((rc α v).toInt - (costM α v (mny α v - 1) (remF (rwf α v) i)).toInt) := by
    unfold svd
    obtain ⟨p1, p2⟩ := b1
    obtain ⟨p3, p4⟩ := b2
    obtain ⟨p5, p6⟩ := b3
    obtain ⟨p7, p8⟩ := b4
    rw [sub_i (by omega) (by omega), d1.2.2, d2.2.2]
  by_cases hf : fitsM α t (nBs α v t + 1) (insL (LBs α v i t) k q)
  · refine Or.inl ⟨hf, ?_⟩
    rw [e]
    have key : (mvd α q v i t k).toInt = (rc α v).toInt - (costM α v (mny α v - 1) (remF (rwf α v) i)).toInt - ((costM α t (nBs α v t + 1) (insL (LBs α v i t) k q)).toInt - (costM α t (nBs α v t) (LBs α v i t)).toInt) := by
      unfold mvd
      by_cases c : t = v
      · subst c
        have e1 : nBs α t t + 1 = mny α t := by have := nBs_pl (t := t) ho; unfold nPl at this; rw [if_pos rfl] at this; exact this
        have e2 : LBs α t i t = remF (rwf α t) i := if_pos rfl
        have e3 : nBs α t t = mny α t - 1 := if_pos rfl
        rw [e1, e2] at hf b1 ⊢
        rw [e3]
        rw [if_pos rfl, if_neg (show ¬ α 910 t < fullM α (mny α t) (insL (remF (rwf α t) i) k q) from hf.2)]
        have := (diff_lt b3 b1).2.2
        rw [this]; omega
      · have e2 : LBs α v i t = rwf α t := if_neg c
        have e3 : nBs α v t = mny α t := if_neg c
        rw [e2, e3] at hf b1 b2 d1 ⊢
        have em : mv α q t k = costM α t (mny α t + 1) (insL (rwf α t) k q) - rc α t := if_pos hf
        rw [if_neg c, em, if_neg (show ¬ costM α t (mny α t + 1) (insL (rwf α t) k q) - rc α t = 1000000 from d1.2.1)]
        obtain ⟨p1, p2⟩ := b1
        obtain ⟨p3, p4⟩ := b2
        obtain ⟨p5, p6⟩ := b3
        obtain ⟨p7, p8⟩ := b4
        have d3 : (costM α t (mny α t + 1) (insL (rwf α t) k q) - rc α t).toInt = (costM α t (mny α t + 1) (insL (rwf α t) k q)).toInt - (costM α t (mny α t) (rwf α t)).toInt := d1.2.2
        have d4 := d2.2.2
        rw [sub_i (by omega) (by omega), d4, d3]
    obtain ⟨p1, p2⟩ := b1
    obtain ⟨p3, p4⟩ := b2
    obtain ⟨p5, p6⟩ := b3
    obtain ⟨p7, p8⟩ := b4
    rw [key]
    refine ⟨by omega, by omega, by omega⟩
  · refine Or.inr ⟨hf, ?_⟩
    unfold mvd
    by_cases c : t = v
    · subst c
      have e1 : nBs α t t + 1 = mny α t := by have := nBs_pl (t := t) ho; unfold nPl at this; rw [if_pos rfl] at this; exact this
      have e2 : LBs α t i t = remF (rwf α t) i := if_pos rfl
      rw [e1, e2] at hf
      rw [if_pos rfl]
      by_cases z : α 910 t < fullM α (mny α t) (insL (remF (rwf α t) i) k q)
      · rw [if_pos z]
      · exact absurd ⟨m12, z⟩ hf
    · have e2 : LBs α v i t = rwf α t := if_neg c
      have e3 : nBs α v t = mny α t := if_neg c
      rw [e2, e3] at hf
      have em : mv α q t k = 1000000 := if_neg hf
      rw [if_neg c, em, if_pos rfl]
theorem wK_mvK (hA : AI1 α) {q v i t : Nat} (hq : q < nP α) (ho : OnAt α q v i) (ht : t < nV α) {o : Cho} {b : Int32 × Int32 × Int32} (h : RM (nP α) o b) : ∀ k, k ≤ nPl α v t → RM (nP α) (wK α q t (nBs α v t) (LBs α v i t) (svd α v i) o k) (mvK α q v i t b k) := by
  intro k
  induction k with
  | zero => exact fun _ => h
  | succ k ih =>
    intro hk
    have ih := ih (by omega)
    unfold wK mvK
    rcases mv_step hA hq ho ht (show k < nPl α v t by omega) with ⟨hf, e1, e2, e3⟩ | ⟨hf, e⟩
    · rw [if_pos hf]
      exact ih.step hq e1 e2 e3
    · rw [if_neg hf, e, if_neg (Int32.not_lt.mpr (Int32.le_trans (by decide) ih.pos))]
      exact ih
theorem wgM_mvT (hA : AI1 α) {q v i : Nat} (hq : q < nP α) (ho : OnAt α q v i) {o : Cho} {b : Int32 × Int32 × Int32} (h : RM (nP α) o b) : ∀ t, t ≤ nV α → RM (nP α) (wgM α q v i o t) (mvT α q v i b t) := by
  intro t
  induction t with
  | zero => exact fun _ => h
  | succ t ih =>
    intro ht
    unfold wgM mvT
    rw [nBs_pl ho]
    exact wK_mvK hA hq ho (by omega) (ih (by omega)) _ (Nat.le_refl _)
theorem scM_mvQ (hA : AI1 α) : ∀ n, n ≤ nP α → RM (nP α) (scM α n) (mvQ α n) := by
  intro n
  induction n with
  | zero => exact fun _ => Or.inl ⟨rfl, fun c z => by cases z⟩
  | succ n ih =>
    intro hn
    unfold scM mvQ mc1
    rcases vof_cases hA n with ⟨v, i, o, e1, e2⟩ | ⟨o, e⟩
    · rw [if_neg e2, if_neg e2, e1, cl_nI (by have := hA.v4 o.1; omega), plc_at hA o]
      exact wgM_mvT hA (by omega) o (ih (by omega)) _ (Nat.le_refl _)
    · rw [if_pos e, if_pos e]; exact ih (by omega)
end MVP
section WMV
variable {p : Program} {l : Launch} {e : Env} {s : State} {m : MethodId} {args : Array Value} {below : List Frame} {meth : Method} {c : Code} {w : Wd} {S : St}
variable {T : Tb}
theorem l_weighMov (B : Bd p s m args meth c cX11_weighMoving 6 (wsOf yX11_weighMoving cX11_weighMoving 6 none) RX11 w none "weighMoving") {Q : State → Prop} {α : Ab} {q v i : Nat} {o : Cho} (hA : AIz α) (hq : q < nP α) (hon : OnAt α q v i)
    (hx : ∀ S', CR w S' T α → ChO S' T (wgM α q v i o (nV α)) → K p l e rX11_weighMoving s m args below meth c 6 w 0 0 Q S' 119 [] []) :
    ∀ d t, t + d = nV α → ∀ S, CR w S T α → Rl S T (T 18 0) (T 19 0) (mny α v - 1) (remF (rwf α v) i) → ChO S T (wgM α q v i o t) → K p l e rX11_weighMoving s m args below meth c 6 w 0 0 Q S 61 [(0, .ref (T 0 0)), (1, .ref (T 30 q)), (2, .ref (T 27 v)), (3, .int (svd α v i)), (4, .int (nI t))] [] := by
  have n4 := hA.1.1.2.1.2.2.1.2
  have hv := hon.1
  intro d
  induction d with
  | zero =>
    intro t ht S h hR ho
    have ht : t = nV α := by omega
    subst ht
    refine bX11_weighMoving_61 B h.x.1 h.x.2.2.2.2.1 (c_nvan h) (h.k1 6 (by decide)) (fun r S1 hq1 => ?_)
    obtain ⟨rfl, rfl⟩ := hq1
    exact bX11_weighMoving_70 B (fun _ => hx S h ho) (fun c => absurd (Int32.le_refl _) c)
  | succ d ih =>
    intro t ht S h hR ho
    have htv : t < nV α := by omega
    have n12 := nBs_12 hA.1.1 hv htv
    have hLP := LBs_P (i := i) hA.1.1 hv htv
    have ap := h.apart htv (Or.inl rfl : (16 : Nat) = 16 ∨ (16 : Nat) = 18)
    have ap2 := h.apart htv (Or.inr rfl : (18 : Nat) = 16 ∨ (18 : Nat) = 18)
    refine bX11_weighMoving_61 B h.x.1 h.x.2.2.2.2.1 (c_nvan h) (h.k1 6 (by decide)) (fun r S1 hq1 => ?_)
    obtain ⟨rfl, rfl⟩ := hq1
    refine bX11_weighMoving_70 B (fun c => absurd c (nI_ge htv (by omega))) (fun _ => ?_)
    refine bX11_weighMoving_73 B h.x.1 h.x.2.2.2.2.1 (c_gvan h htv) (h.k1 6 (by decide)) (fun r S1 hq1 => ?_)
    obtain ⟨rfl, rfl⟩ := hq1
    refine bX11_weighMoving_82 B (h.kv htv).1 (fun c => ?_) (fun c => ?_)
    · have hne : t ≠ v := fun z => c (by rw [z])
      have e2 : LBs α v i t = rwf α t := if_neg hne
      have e3 : nBs α v t = mny α t := if_neg hne
      refine bX11_weighMoving_104 B (h.kv htv).1 (h.kv htv).2.1 ?_
      have hRt := h.rv hA.1.1 htv
      rw [← e2, ← e3] at hRt
      refine bX11_weighMoving_109 B (c_weighPlaces (sv := svd α v i) h hA htv hq hRt n12 hLP ap.1 ap.2 ho) h.x.1 (fun S1 hq1 => bX11_weighMoving_113 B ?_)
      obtain ⟨g1, -, g3, g4⟩ := hq1
      rw [nI_1]
      exact ih (t + 1) (by omega) S1 g1 (g4 _ _ _ _ (h.ne (cn1 (by decide)) (cn1 (by decide)) (Or.inl (by decide))) (h.ne (cn1 (by decide)) (cn1 (by decide)) (Or.inl (by decide))) hR) g3
    · have htv' : t = v := (h.2.1 27 t 27 v (cnV (by decide) (by decide) htv) (cnV (by decide) (by decide) hv) (Option.some.inj c)).2
      subst htv'
      have e2 : LBs α t i t = remF (rwf α t) i := if_pos rfl
      have e3 : nBs α t t = mny α t - 1 := if_pos rfl
      refine bX11_weighMoving_97 B h.x.1 h.x.2.2.2.2.2.2.2.2.2.2 ?_
      have hRt := hR
      rw [← e2, ← e3] at hRt
      refine bX11_weighMoving_109 B (c_weighPlaces (sv := svd α t i) h hA htv hq hRt n12 hLP (h.ne (cn1 (by decide)) (cn1 (by decide)) (Or.inl (by decide))) (h.ne (cn1 (by decide)) (cn1 (by decide)) (Or.inl (by decide))) ho) h.x.1 (fun S1 hq1 => bX11_weighMoving_113 B ?_)
      obtain ⟨g1, g2, g3, g4⟩ := hq1
      rw [e2, e3] at g2
      rw [nI_1]
      exact ih (t + 1) (by omega) S1 g1 g2 g3
end WMV
section WMV2
variable {l : Launch} {w : Wd} {S : St} {T : Tb} {α : Ab}
theorem c_weighMov {q : Nat} {o : Cho} (h : CR w S T α) (hA : AIz α) (hq : q < nP α) (ho : ChO S T o) : ConV l yX11_weighMoving (wsOf yX11_weighMoving cX11_weighMoving 6 none) rX11_weighMoving w S [.ref (T 0 0), .ref (T 30 q)] (fun S' => CR w S' T α ∧ ChO S' T (mc1 α q o)) := by
  have hA1 := hA.1.1
  have hvan := (h.pa hq).2.1
  refine con_V (by decide +kernel) rfl (Nat.le_of_ble_eq_true rfl) (fun p e s m args below meth c B => ?_)
  unfold mc1
  rcases vof_cases hA1 q with ⟨v, i, on, e1, e2⟩ | ⟨on, e1⟩
  · have hv := on.1
    have v4 := hA1.v4 hv
    have m12 := hA1.m12 v4
    have hRv := h.rv hA1 hv
    have hL := rw_P hA1 hv
    have ap := h.apart hv (Or.inr rfl : (18 : Nat) = 16 ∨ (18 : Nat) = 18)
    rw [vop_on hA1 on] at hvan
    rw [if_neg e2, e1, cl_nI (by omega), plc_at hA1 on]
    refine bX11_weighMoving_0 B (h.kp hq) (fun x _ => ?_) (fun c => by rw [hvan] at c; cases c)
    refine bX11_weighMoving_8 B (h.kp hq) hvan h.x.1 h.x.2.2.2.2.2.2.2.2.2.2 (h.kv hv).1 (h.kv hv).2.1 (c_copyX h (Or.inr rfl) hRv hL ap.1 ap.2) (h.k1 18 (by decide)) (fun S1 hq1 => ?_)
    obtain ⟨f1, m1⟩ := hq1
    have h1 := h.frx (f1.frx (Or.inr rfl))
    refine bX11_weighMoving_24 B h1.x.1 h1.x.2.2.2.2.2.2.2.2.2.2 (c_remX h1 (Or.inr rfl) m1 on.2.1 hL on.2.2 (fun j hj e => (hA1.on_uniq (show OnAt α q v j from ⟨hv, hj, e⟩) on).2)) (h1.k1 18 (by decide)) (fun S2 hq2 => ?_)
    obtain ⟨f2, m2⟩ := hq2
    have h2 := h1.frx (f2.frx (Or.inr rfl))
    refine bX11_weighMoving_32 B h2.x.1 h2.x.2.2.2.2.2.2.1 (h2.kv hv).1 (h2.kv hv).2.1 (c_fol h2 hA hv (h2.rv hA1 hv) m12 hL) (h2.k1 8 (by decide)) (fun r S3 hq3 => ?_)
    obtain ⟨rfl, fq3⟩ := hq3
    have h3 := h2.frx (FrX.ofS fq3.frs)
    have m3 : Rl S3 T (T 18 0) (T 19 0) (mny α v - 1) (remF (rwf α v) i) := m2.fr fq3.frs
    refine bX11_weighMoving_44 B h3.x.1 h3.x.2.2.2.2.2.2.1 h3.x.2.2.2.2.2.2.2.2.2.2 (c_fol h3 hA hv m3 (by omega) (remF_P hL)) (h3.k1 8 (by decide)) (fun r S4 hq4 => ?_)
    obtain ⟨rfl, fq4⟩ := hq4
    have h4 := h3.frx (FrX.ofS fq4.frs)
    exact bX11_weighMoving_56 B (l_weighMov B hA hq on (fun S' a b => bX11_weighMoving_119 B ⟨a, b⟩) (nV α) 0 (by omega) S4 h4 (m3.fr fq4.frs) ((((ho.scr f1).scr f2).frs fq3.frs).frs fq4.frs))
  · have e3 : vop T α q = none := by unfold vop; rw [if_pos e1]
    rw [e3] at hvan
    rw [if_pos e1]
    exact bX11_weighMoving_0 B (h.kp hq) (fun x c => by rw [hvan] at c; cases c) (fun _ => bX11_weighMoving_7 B ⟨h, ho⟩)
end WMV2
section MVC
variable {p : Program} {l : Launch} {e : Env} {s : State} {m : MethodId} {args : Array Value} {below : List Frame} {meth : Method} {c : Code} {w : Wd} {S : St}
variable {T : Tb}
theorem l_mvc (B : Bd p s m args meth c cX11_move 2 (wsOf yX11_move cX11_move 2 (some .int)) RX11 w (some .int) "move") {Q : State → Prop} {α : Ab} (hA : AIz α)
    (hx : ∀ S', CR w S' T α → ChO S' T (scM α (nP α)) → K p l e rX11_move s m args below meth c 2 w 0 0 Q S' 41 [(0, .ref (T 0 0))] []) :
    ∀ d i, i + d = nP α → ∀ S, CR w S T α → ChO S T (scM α i) → K p l e rX11_move s m args below meth c 2 w 0 0 Q S 9 [(0, .ref (T 0 0)), (1, .int (nI i))] [] := by
  have n30 := hA.1.1.2.1.2.2.2.2
  intro d
  induction d with
  | zero =>
    intro i hi S h ho
    have hi : i = nP α := by omega
    subst hi
    refine bX11_move_9 B h.x.1 h.x.2.2.2.2.2.1 (c_npar h) (h.k1 7 (by decide)) (fun r S1 hq1 => ?_)
    obtain ⟨rfl, rfl⟩ := hq1
    exact bX11_move_17 B (fun _ => hx S h ho) (fun c => absurd (Int32.le_refl _) c)
  | succ d ih =>
    intro i hi S h ho
    have hip : i < nP α := by omega
    refine bX11_move_9 B h.x.1 h.x.2.2.2.2.2.1 (c_npar h) (h.k1 7 (by decide)) (fun r S1 hq1 => ?_)
    obtain ⟨rfl, rfl⟩ := hq1
    refine bX11_move_17 B (fun c => absurd c (nI_ge hip (by omega))) (fun _ => ?_)
    refine bX11_move_20 B h.x.1 h.x.2.2.2.2.2.1 (c_gpar h hip) (h.k1 7 (by decide)) (fun r S1 hq1 => ?_)
    obtain ⟨rfl, rfl⟩ := hq1
    refine bX11_move_29 B (h.kp hip) (c_weighMov h hA hip ho) h.x.1 (fun S1 hq1 => bX11_move_35 B ?_)
    rw [nI_1]
    exact ih (i + 1) (by omega) S1 hq1.1 hq1.2
end MVC
section MVC2
variable {l : Launch} {w : Wd} {S : St} {T : Tb} {α : Ab}
theorem k_move (h : CR w S T α) (hA : AIz α) : ConI l yX11_move (wsOf yX11_move cX11_move 2 (some .int)) rX11_move w S [.ref (T 0 0)] (CP w (T 0 0) (opMove α)) := by
  have hA1 := hA.1.1
  refine con_I (by decide +kernel) rfl (Nat.le_of_ble_eq_true rfl) (fun p e s m args below meth c B => ?_)
  refine bX11_move_0 B h.x.1 h.x.2.2.2.2.2.2.2.2.1 (c_forget h) (h.k1 15 (by decide)) (fun S1 hq1 => ?_)
  refine bX11_move_7 B (l_mvc B hA (fun S2 h2 ho => ?_) (nP α) 0 (by omega) S1 (h.frx hq1.1) hq1.2)
  have hx2 := h2.x
  have k15 := h2.k1 15 (by decide)
  have hrm := scM_mvQ hA1 (nP α) (Nat.le_refl _)
  rcases hrm with ⟨e1, e2⟩ | ⟨x, q, sp, e1, e2, e3, e4, e5⟩
  · have eo : opMove α = (0, 0, α) := by unfold opMove; rw [e1]; rfl
    have fin : K p l e rX11_move s m args below meth c 2 w 0 0 (MQ below (va_Qi (CP w (T 0 0) (opMove α)) (fun S' t => Hd w S' t.heap) (wA w)) args s rX11_move.cells rX11_move.slots (wA w)) S2 61 [] [] := bX11_move_61 B (CP.mk h2 eo)
    refine bX11_move_41 B hx2.1 hx2.2.2.2.2.2.2.2.2.1 k15 (fun _ => fin) (fun y c => ?_)
    refine bX11_move_51 B hx2.1 hx2.2.2.2.2.2.2.2.2.1 k15 (fun c2 => ?_) (fun _ => fin)
    cases hs : scM α (nP α) with
    | none => rw [hs] at ho; rw [show gP S2 66 (T 15 0) = none from ho] at c; cases c
    | some z =>
      rw [hs] at ho
      rw [ho.2.1] at c2
      exact absurd c2 (Int32.not_lt.mpr (e2 z hs))
  · rw [e5] at ho
    have hok := mvQ_ok hA1 (nP α) (Nat.le_refl _)
    rcases hok with z | ⟨q2, v, i, t, k, i1, on, i3, i4, i5, i6⟩
    · rw [e1] at z
      have : x = 0 := congrArg Prod.fst z
      rw [this] at e2; exact absurd e2 (by decide)
    · rw [e1] at i5
      have q30 := hA1.p30 i1
      have hq30 := hA1.p30 e4
      have f0 : x = mvd α q2 v i t k := congrArg Prod.fst i5
      have f1 : nI q = nI q2 := congrArg (fun z : Int32 × Int32 × Int32 => z.2.1) i5
      have f2 : sp = nI (16 * t + k) := congrArg (fun z : Int32 × Int32 × Int32 => z.2.2) i5
      have f3 := (nI_i q q2 (by omega) (by omega)).mp f1
      subst f3
      subst f2
      have v4 := hA1.v4 on.1
      have t4 := hA1.v4 i3
      have m12 := hA1.m12 v4
      have mt12 := hA1.m12 t4
      have hk13 : k ≤ mny (takA α v i) t ∧ mny (takA α v i) t + 1 ≤ 12 ∧ k < 13 := by
        rw [mny_takA hA1 v4]
        unfold nPl at i4
        by_cases c : t = v
        · subst c; rw [if_pos rfl] at i4 ⊢; omega
        · rw [if_neg c] at i4 ⊢; have := mvd_fit i6 c; omega
      have eo : opMove α = (0, x, putA (takA α v i) q t k) := by
        unfold opMove
        rw [e1]
        show (if nI q = -1 then _ else _) = _
        rw [if_neg (nI_nm1 (by omega))]
        show (0, x, putA (takA α (cl (vof α (cl (nI q)))) (plc α (cl (nI q)) (cl (vof α (cl (nI q)))))) (cl (nI q)) (cl (nI (16 * t + k)) / 16) (cl (nI (16 * t + k)) % 16)) = _
        rw [cl_nI (k := q) (by omega), vof_on hA1 on, cl_nI (k := v) (by omega), plc_at hA1 on, cl_nI (k := 16 * t + k) (by omega), show (16 * t + k) / 16 = t by omega, show (16 * t + k) % 16 = k by omega]
      have hA2 := hA.tak on
      have hoff : ¬ On (takA α v i) q := fun z => ((On_takA hA1 on q).mp z).2 rfl
      refine bX11_move_41 B hx2.1 hx2.2.2.2.2.2.2.2.2.1 k15 (fun c => by rw [ho.1] at c; cases c) (fun y _ => ?_)
      refine bX11_move_51 B hx2.1 hx2.2.2.2.2.2.2.2.2.1 k15 (fun _ => ?_) (fun c => ?_)
      · refine bX11_move_63 B hx2.1 hx2.2.2.2.2.2.2.2.2.1 k15 ho.1 (c_takeOut h2 hA1 i1 on) (fun S3 hq3 => ?_)
        obtain ⟨h3, g3⟩ := hq3
        have ho3 := g3 _ ho
        have hp := c_putSpot (l := l) (q := q) (v := t) (k := k) h3 hA2.1.1 (by rw [nV_takA]; exact i3) hk13.1 (by rw [nP_takA]; exact i1) hk13.2.1 hoff
        rw [show nI (16 * t + k) = gI S3 65 (T 15 0) from ho3.2.2.symm] at hp
        have k15' := h3.k1 15 (by decide)
        have hx3 := h3.x
        refine bX11_move_73 B hx3.1 hx3.2.2.2.2.2.2.2.2.1 k15' ho3.1 hx3.2.2.2.2.2.2.2.2.1 k15' hp (fun S4 hq4 => ?_)
        have h4 := hq4.1
        refine bX11_move_91 B h4.x.1 h4.x.2.2.2.2.2.2.2.2.1 (h4.k1 15 (by decide)) (CP.mk h4 ?_)
        rw [eo, (hq4.2 _ ho3).2.1]
        show _ = (_, - -x, _)
        rw [Int32.neg_neg]
      · rw [ho.2.1] at c
        have hneg : -x < 0 := by
          have e0 : (0 : Int32).toInt = 0 := by decide
          have hp := Int32.lt_iff_toInt_lt.mp e2
          rw [Int32.lt_iff_toInt_lt, neg_i e3, e0]
          omega
        exact absurd hneg c
end MVC2
