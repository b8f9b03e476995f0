theorem tryD_D {D : Ab} {q h k : Nat} : FrD D (tryD D q h k).2 := fun F h1 _ => tryD_st (by omega)
theorem plcD_D {q h : Nat} : ∀ d k (D : Ab), FrD D (plcD q h d k D).2 := by
  intro d
  induction d with
  | zero => exact fun k D F _ _ => rfl
  | succ d ih =>
    intro k D F h1 h2
    have e : plcD q h (d + 1) k D = if (tryD D q h k).1 = true then tryD D q h k else plcD q h d (k + 1) (tryD D q h k).2 := rfl
    rw [e]
    split
    · exact tryD_D F h1 h2
    · rw [ih (k + 1) _ F h1 h2]; exact tryD_D F h1 h2
theorem plcD_time {q h : Nat} (hh : h < 16) {n : Nat} : ∀ d k (D : Ab), AIw D → cl (D 904 h) = n → k + d = n → trOk (trD D) (3000 + 362 * k) → trOk (trD (plcD q h d k D).2) 4086 := by
  intro d
  induction d with
  | zero => exact fun k D hA hn hk ht => ht.up (by have := (hA.2.2 h hh).2.1; omega)
  | succ d ih =>
    intro k D hA hn hk ht
    have n3 := (hA.2.2 h hh).2.1
    have e : plcD q h (d + 1) k D = if (tryD D q h k).1 = true then tryD D q h k else plcD q h d (k + 1) (tryD D q h k).2 := rfl
    have tt := tryD_time (q := q) (k := k) hA hh (by omega) ht (by omega)
    rw [e]
    split
    · exact tt.up (by omega)
    · exact ih (k + 1) _ (hA.D tryD_D) (by rw [tryD_D 904 (by decide) (by decide)]; exact hn) (by omega) (tt.up (by omega))
def plF (D : Ab) (q : Nat) : Bool × Ab := plcD q (cl (D 916 q)) (cl (D 904 (cl (D 916 q)))) 0 D
def waitD (D : Ab) (q : Nat) : Ab := au (wkD D (D 901 (cl (D 916 q))) (D 902 (cl (D 916 q)))) 842 0 (if (wkD D (D 901 (cl (D 916 q))) (D 902 (cl (D 916 q)))) 842 0 < D 917 q then D 917 q else (wkD D (D 901 (cl (D 916 q))) (D 902 (cl (D 916 q)))) 842 0)
def stayD (D : Ab) (q : Nat) : Ab := au (waitD D q) 842 0 ((waitD D q) 842 0 + 4)
def tryA (D : Ab) (q : Nat) : Ab := aset (stayD D q) 835 (va_up ((stayD D q) 835) q ((stayD D q) 835 q + 1))
def lostD (D : Ab) (q : Nat) : Ab := if D 835 q = 3 then aset D 834 (va_up (D 834) q 4) else D
def homeB (D : Ab) (h : Nat) : Bool := decide (((D 903 h) >>> (hr (D 842 0) &&& 31)) &&& 1 = 1)
/-- a stop for a parcel -/
def doneD (D : Ab) (q : Nat) : Bool × Ab :=
  if homeB (waitD D q) (cl (D 916 q)) = true then (true, aset (stayD D q) 834 (va_up ((stayD D q) 834) q 1))
  else if D 914 q = 2 then (false, lostD (tryA D q) q)
  else if (plF (tryA D q) q).1 = true then (true, (plF (tryA D q) q).2) else (false, lostD (plF (tryA D q) q).2 q)
theorem wkD_hi {D : Ab} {gx gy : Int32} {F : Nat} (h : F < 842 ∨ 845 < F) : wkD D gx gy F = D F := by
  unfold wkD goD
  split
  · rw [au_neF (by omega), au_neF (by omega), au_neF (by omega)]
  · rw [au_neF (by omega), au_neF (by omega), au_neF (by omega), au_neF (by omega), au_neF (by omega)]
theorem waitD_hi {D : Ab} {q F : Nat} (h : F < 842 ∨ 845 < F) : waitD D q F = D F := by
  unfold waitD; rw [au_neF (by omega), wkD_hi h]
theorem stayD_hi {D : Ab} {q F : Nat} (h : F < 842 ∨ 845 < F) : stayD D q F = D F := by
  unfold stayD; rw [au_neF (by omega), waitD_hi h]
theorem tryA_hi {D : Ab} {q F : Nat} (h : F < 842 ∨ 845 < F) (h2 : F ≠ 835) : tryA D q F = D F := by
  unfold tryA; rw [aset_ne h2, stayD_hi h]
theorem tryA_D {D : Ab} {q : Nat} : FrD D (tryA D q) := fun F h1 h2 => tryA_hi (by omega) (by omega)
theorem lostD_hi {D : Ab} {q F : Nat} (h : F ≠ 834) : lostD D q F = D F := by
  unfold lostD; split
  · rw [aset_ne h]
  · rfl
theorem lostD_tr {D : Ab} {q : Nat} : trD (lostD D q) = trD D := by
  unfold trD; rw [lostD_hi (by decide), lostD_hi (by decide), lostD_hi (by decide), lostD_hi (by decide)]
theorem stayD_time {D : Ab} {q : Nat} (hA : AIw D) (hq : q < 30) (ht : trOk (trD D) 1500) : trOk (trD (waitD D q)) 1890 ∧ trOk (trD (stayD D q)) 1894 := by
  obtain ⟨e, hb⟩ := (hA.1.2.2.2.2.2 q hq).1.nI
  have h16 : cl (D 916 q) < 16 := by show (D 916 q).toNatClampNeg < 16; omega
  have g := wkD_ok hA.1.1 ht (by omega) (hA.1.2.2.2.1 _ h16).1 (hA.1.2.2.2.1 _ h16).2
  have hf := (hA.1.2.2.2.2.2 q hq).2.1
  have g2 : trOk (trD (waitD D q)) 1890 := by
    obtain ⟨g1, g2, g3⟩ := g
    refine ⟨g1, g2, ?_⟩
    show isN (if _ then _ else _) _
    split
    · exact ⟨hf.1, by have := hf.2; omega⟩
    · have g3' : isN ((wkD D (D 901 (cl (D 916 q))) (D 902 (cl (D 916 q)))) 842 0) (1500 + 390) := g3
      exact ⟨g3'.1, by have := g3'.2; omega⟩
  refine ⟨g2, ?_⟩
  obtain ⟨g1, g2, g3, g4⟩ := g2
  refine ⟨g1, g2, ?_⟩
  show isN ((waitD D q) 842 0 + 4) _
  have g3' : 0 ≤ ((waitD D q) 842 0).toInt := g3
  have g4' : ((waitD D q) 842 0).toInt ≤ 1890 := g4
  have e4 : (4 : Int32).toInt = 4 := by decide
  unfold isN
  rw [add_i (by omega) (by omega)]
  omega
theorem tryA_tr {D : Ab} {q : Nat} : trD (tryA D q) = trD (stayD D q) := rfl
theorem doneD_time {D : Ab} {q : Nat} (hA : AIw D) (hq : q < 30) (ht : trOk (trD D) 1500) : trOk (trD (doneD D q).2) 4086 := by
  have h := (stayD_time hA hq ht).2
  have hl : trOk (trD (lostD (tryA D q) q)) 4086 := by rw [lostD_tr, tryA_tr]; exact h.up (by omega)
  obtain ⟨e, hb⟩ := (hA.1.2.2.2.2.2 q hq).1.nI
  have h16 : cl (D 916 q) < 16 := by show (D 916 q).toNatClampNeg < 16; omega
  have hp : trOk (trD (plF (tryA D q) q).2) 4086 := by
    have e1 : cl (tryA D q 916 q) = cl (D 916 q) := by rw [tryA_D 916 (by decide) (by decide)]
    unfold plF
    rw [e1]
    exact plcD_time h16 _ 0 _ (hA.D tryA_D) rfl (by omega) (by rw [tryA_tr]; exact h.up (by omega))
  unfold doneD
  split
  · exact (show trOk (trD (stayD D q)) 4086 from h.up (by omega))
  · split
    · exact hl
    · split
      · exact hp
      · show trOk (trD (lostD (plF (tryA D q) q).2 q)) 4086
        rw [lostD_tr]; exact hp
def bI (b : Bool) : Int32 := if b = true then 1 else 0
section MDN
variable {l : Launch} {w : Wd} {S : St} {m0 s0 ah off x : Nat} {A : Nat → Nat} {α D : Ab}
theorem c_isPlacedD {q : Nat} (h : MD m0 s0 ah A α off x D S) (hA : AIw α) (hq : q < 30) (ht : trOk (trD D) 3000) : ConI l yX12_isPlaced (wsOf yX12_isPlaced cX12_isPlaced 6 (some .boolean)) rX12_isPlaced w S [.ref x, .int (nI q)] (fun r S' => r = bI (plF D q).1 ∧ MD m0 s0 ah A α off x (plF D q).2 S') := by
  refine con_I (by decide +kernel) rfl (Nat.le_of_ble_eq_true rfl) (fun p e s m args below meth c B => ?_)
  obtain ⟨k1, k2, k3⟩ := h.knd
  obtain ⟨a1, a2, a3, a4⟩ := h.st 916 (by decide) (by decide) (by decide)
  have hAD := hA.D h.2.2
  obtain ⟨e0, hb⟩ := (hAD.1.2.2.2.2.2 q hq).1.nI
  have h16 : cl (D 916 q) < 16 := by show (D 916 q).toNatClampNeg < 16; omega
  refine bX12_isPlaced_0 B k1 k2 k3 a1 a2 (by rw [a3]; exact vp_in_nI hq (by decide)) ?_
  have er : rI S (A 916) (nI q).toNatClampNeg = nI (cl (D 916 q)) := by rw [a4, nI_clamp (by omega)]; exact e0
  rw [er]
  have e904 : cl (α 904 (cl (D 916 q))) = cl (D 904 (cl (D 916 q))) := by rw [h.2.2 904 (by decide) (by decide)]
  refine l_place (D0 := D) B hA hq h16 (fun S' D' h' hp pc hpc => ?_) (fun S' D' h' hp => ?_) (cl (α 904 (cl (D 916 q)))) 0 (by omega) S D h (ht.up (by omega)) rfl
  · rw [e904] at hp
    have hp : plF D q = (true, D') := hp
    rw [hp]
    rcases hpc with rfl | rfl
    · exact bX12_isPlaced_219 B ⟨rfl, h'⟩
    · exact bX12_isPlaced_331 B ⟨rfl, h'⟩
  · rw [e904] at hp
    have hp : plF D q = (false, D') := hp
    rw [hp]
    exact bX12_isPlaced_339 B ⟨rfl, h'⟩
theorem c_isDoneD {q : Nat} (h : MD m0 s0 ah A α off x D S) (hA : AIw α) (hq : q < 30) (ht : trOk (trD D) 1500) : ConI l yX12_isDone (wsOf yX12_isDone cX12_isDone 4 (some .boolean)) rX12_isDone w S [.ref x, .int (nI q)] (fun r S' => r = bI (doneD D q).1 ∧ MD m0 s0 ah A α off x (doneD D q).2 S') := by
  refine con_I (by decide +kernel) rfl (Nat.le_of_ble_eq_true rfl) (fun p e s m args below meth c B => ?_)
  obtain ⟨k1, k2, k3⟩ := h.knd
  have hAD := hA.D h.2.2
  obtain ⟨e0, hb⟩ := (hAD.1.2.2.2.2.2 q hq).1.nI
  have h16 : cl (D 916 q) < 16 := by show (D 916 q).toNatClampNeg < 16; omega
  obtain ⟨a1, a2, a3, a4⟩ := h.st 916 (by decide) (by decide) (by decide)
  obtain ⟨b1, b2, b3, b4⟩ := h.st 901 (by decide) (by decide) (by decide)
  obtain ⟨c1, c2, c3, c4⟩ := h.st 902 (by decide) (by decide) (by decide)
  have eq : (nI q).toNatClampNeg = q := nI_clamp (by omega)
  have inq : ∀ {N}, N = 30 → vp_in (nI q) N := fun e => by rw [e]; exact vp_in_nI hq (by decide)
  have er : rI S (A 916) (nI q).toNatClampNeg = nI (cl (D 916 q)) := by rw [a4, eq]; exact e0
  have eh : (nI (cl (D 916 q))).toNatClampNeg = cl (D 916 q) := nI_clamp (by omega)
  have ex : rI S (A 901) (rI S (A 916) (nI q).toNatClampNeg).toNatClampNeg = D 901 (cl (D 916 q)) := by rw [er, eh, b4]
  have ey : rI S (A 902) (rI S (A 916) (nI q).toNatClampNeg).toNatClampNeg = D 902 (cl (D 916 q)) := by rw [er, eh, c4]
  have hw := c_workD (l := l) (w := w) (gx := D 901 (cl (D 916 q))) (gy := D 902 (cl (D 916 q))) h (hr_in ht.2.2.1 rfl) ((ht.2.2.okT (by omega)).h2 rfl)
  rw [← ex, ← ey] at hw
  refine bX12_isDone_0 B k1 k2 k3 a1 a2 (inq a3) k2 k3 b1 b2 (by rw [er, b3]; exact vp_in_nI h16 (by decide)) k2 k3 c1 c2 (by rw [er, c3]; exact vp_in_nI h16 (by decide)) hw (fun S1 h1 => ?_)
  rw [ex, ey] at h1
  rw [er]
  obtain ⟨d1, d2, d3, d4⟩ := h1.st 917 (by decide) (by decide) (by decide)
  have e917 : rI S1 (A 917) (nI q).toNatClampNeg = D 917 q := by rw [d4, eq, wkD_hi (by omega)]
  have e842 := h1.sc 842 (by decide) (by decide) rfl
  have h2 := h1.setS (F := 842) (by decide) (by decide) rfl (if (wkD D (D 901 (cl (D 916 q))) (D 902 (cl (D 916 q)))) 842 0 < D 917 q then D 917 q else (wkD D (D 901 (cl (D 916 q))) (D 902 (cl (D 916 q)))) 842 0)
  have h2 : MD m0 s0 ah A α off x (waitD D q) _ := h2
  have hih := c_isHomeD (l := l) (w := w) h2 h16
  rw [← e842, ← e917] at hih
  refine bX12_isDone_32 B h1.knd.1 h1.knd.2.1 h1.knd.2.2 d1 d2 (inq d3) hih (fun r S' hq1 => ?_)
  obtain ⟨rfl, hq1⟩ := hq1
  rw [e842, e917]
  have h3 : MD m0 s0 ah A α off x (stayD D q) _ := h2.setS (F := 842) (by decide) (by decide) rfl ((waitD D q) 842 0 + 4)
  have e842' := h2.sc 842 (by decide) (by decide) rfl
  unfold doneD
  rcases hq1 with ⟨rfl, hH⟩ | ⟨rfl, hH⟩
  · rw [if_pos (show homeB (waitD D q) (cl (D 916 q)) = true from decide_eq_true hH)]
    refine bX12_isDone_57 B h2.knd.1 (fun c => absurd c ne1) (fun _ => ?_)
    rw [e842']
    obtain ⟨u1, u2, u3, u4⟩ := h3.ar 834 (by decide) (by decide) (by decide)
    refine bX12_isDone_72 B h3.knd.1 u1 u2 (inq u3) (bX12_isDone_79 B ⟨rfl, ?_⟩)
    rw [u4, eq]
    exact h3.setA (F := 834) (by decide) (by decide) (by decide) _
  · rw [if_neg (show ¬ homeB (waitD D q) (cl (D 916 q)) = true from fun z => hH (by unfold homeB at z; unfold homeD; exact of_decide_eq_true z))]
    refine bX12_isDone_57 B h2.knd.1 (fun _ => ?_) (fun c => absurd rfl c)
    rw [e842']
    obtain ⟨u1, u2, u3, u4⟩ := h3.ar 835 (by decide) (by decide) (by decide)
    refine bX12_isDone_81 B h3.knd.1 u1 u2 (inq u3) ?_
    rw [u4, eq]
    have h4 : MD m0 s0 ah A α off x (tryA D q) _ := h3.setA (F := 835) (by decide) (by decide) (by decide) (va_up ((stayD D q) 835) q ((stayD D q) 835 q + 1))
    -- the end: whether it is given up
    have last : ∀ S5 D5, MD m0 s0 ah A α off x D5 S5 → K p l e rX12_isDone s m args below meth c 4 w 0 0 (MQ below (va_Qi (fun r S' => r = bI (false, lostD D5 q).1 ∧ MD m0 s0 ah A α off x (false, lostD D5 q).2 S') (fun S' t => Hd w S' t.heap) (wA w)) args s rX12_isDone.cells rX12_isDone.slots (wA w)) S5 114 [(0, .ref x), (1, .int (nI q))] [] := by
      intro S5 D5 h5
      obtain ⟨u1, u2, u3, u4⟩ := h5.ar 835 (by decide) (by decide) (by decide)
      refine bX12_isDone_114 B h5.knd.1 u1 u2 (inq u3) (fun cc => ?_) (fun cc => ?_)
      · rw [u4, eq] at cc
        exact bX12_isDone_131 B ⟨rfl, by show MD _ _ _ _ _ _ _ (lostD D5 q) _; unfold lostD; rw [if_neg cc]; exact h5⟩
      · rw [u4, eq] at cc
        obtain ⟨v1, v2, v3, v4⟩ := h5.ar 834 (by decide) (by decide) (by decide)
        refine bX12_isDone_124 B h5.knd.1 v1 v2 (inq v3) (bX12_isDone_131 B ⟨rfl, ?_⟩)
        show MD _ _ _ _ _ _ _ (lostD D5 q) _
        unfold lostD
        rw [if_pos cc, v4, eq]
        exact h5.setA (F := 834) (by decide) (by decide) (by decide) _
    obtain ⟨v1, v2, v3, v4⟩ := h4.st 914 (by decide) (by decide) (by decide)
    have e914 : rI (sRI (sI (sI S1 842 x (if (wkD D (D 901 (cl (D 916 q))) (D 902 (cl (D 916 q)))) 842 0 < D 917 q then D 917 q else (wkD D (D 901 (cl (D 916 q))) (D 902 (cl (D 916 q)))) 842 0)) 842 x ((waitD D q) 842 0 + 4)) (A (835 + off)) (va_up ((stayD D q) 835) q ((stayD D q) 835 q + 1))) (A 914) (nI q).toNatClampNeg = D 914 q := by rw [v4, eq, tryA_hi (by omega) (by decide)]
    refine bX12_isDone_91 B h4.knd.1 h4.knd.2.1 h4.knd.2.2 v1 v2 (inq v3) (fun cc => ?_) (fun cc => ?_)
    · rw [e914] at cc
      rw [if_pos cc]
      exact last _ _ h4
    · rw [e914] at cc
      rw [if_neg cc]
      refine bX12_isDone_104 B (c_isPlacedD h4 hA hq (by rw [tryA_tr]; exact (stayD_time hAD hq ht).2.up (by omega))) h4.knd.1 (fun r S5 hq5 => ?_)
      obtain ⟨rfl, h5⟩ := hq5
      by_cases hb : (plF (tryA D q) q).1 = true
      · rw [if_pos hb, hb]
        exact bX12_isDone_109 B (fun c => absurd c ne1) (fun _ => bX12_isDone_112 B ⟨rfl, h5⟩)
      · rw [if_neg hb]
        refine bX12_isDone_109 B (fun _ => last _ _ h5) (fun c => absurd (show bI _ = 0 by unfold bI; rw [if_neg hb]) c)
end MDN
