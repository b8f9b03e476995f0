/-- how many hours from j on, one after the other, somebody is in -/
def hrN (x : Int32) : Nat → Nat → Nat
  | 0, _ => 0
  | d + 1, j => if (x >>> (nI j &&& 31)) &&& 1 = 1 then hrN x d (j + 1) + 1 else 0
theorem hrN_le (x : Int32) : ∀ d j, hrN x d j ≤ d := by
  intro d
  induction d with
  | zero => exact fun _ => Nat.le_refl _
  | succ d ih =>
    intro j
    unfold hrN
    split
    · have := ih (j + 1); omega
    · omega
def hrB (x : Int32) : Nat → Int32 × Int32
  | 0 => (-1, 0)
  | j + 1 => if (hrB x j).2 < nI (hrN x (24 - j) j) then (nI j, nI (hrN x (24 - j) j)) else hrB x j
def opHour (α : Ab) (a : Int32) : Out := if isIx a (nH α) then (0, (hrB (α 903 (cl a)) 24).1, α) else (1, 0, α)
section MHR
variable {p : Program} {l : Launch} {e : Env} {s : State} {m : MethodId} {args : Array Value} {below : List Frame} {meth : Method} {c : Code} {w : Wd} {S : St}
theorem l_hourIn (B : Bd p s m args meth c cX13_hour 6 (wsOf yX13_hour cX13_hour 6 (some .int)) RX13 w (some .int) "hour") {Q : State → Prop} {m0 s0 ah hm j N : Nat} {v2 v3 : Int32} {A : Nat → Nat} {α : Ab} (h : MR S m0 s0 ah A α) (hh : hm < 16) (hj : j < 24)
    (hx : K p l e rX13_hour s m args below meth c 6 w 0 0 Q S 70 [(0, .ref m0), (1, .int (nI hm)), (2, .int v2), (3, .int v3), (4, .int (nI j)), (5, .int (nI N))] []) :
    ∀ d i, j + i + d = 24 → N = i + hrN (α 903 hm) d (j + i) → K p l e rX13_hour s m args below meth c 6 w 0 0 Q S 36 [(0, .ref m0), (1, .int (nI hm)), (2, .int v2), (3, .int v3), (4, .int (nI j)), (5, .int (nI i))] [] := by
  obtain ⟨a1, a2, a3, a4⟩ := h.ar 903 (by decide)
  intro d
  induction d with
  | zero =>
    intro i hi hN
    have hN : N = i := hN
    subst hN
    refine bX13_hour_36 B (fun _ => hx) (fun c => absurd ?_ c)
    rw [nI_add, show (24 : Int32) = nI 24 from rfl]
    exact nI_le (by omega) (by omega)
  | succ d ih =>
    intro i hi hN
    refine bX13_hour_36 B (fun c => absurd c ?_) (fun _ => ?_)
    · rw [nI_add, show (24 : Int32) = nI 24 from rfl]
      exact nI_ge (by omega) (by omega)
    · have e1 : (rI S (A 903) (nI hm).toNatClampNeg >>> ((nI j + nI i) &&& 31)) &&& 1 = (α 903 hm >>> (nI (j + i) &&& 31)) &&& 1 := by rw [a4, nI_clamp (by omega), nI_add]
      unfold hrN at hN
      refine bX13_hour_46 B h.1.1 a1 a2 (by rw [a3]; exact vp_in_nI hh (by decide)) (fun c => ?_) (fun c => ?_)
      · rw [e1] at c
        rw [if_neg c] at hN
        have hN : N = i := hN
        subst hN
        exact hx
      · rw [e1] at c
        rw [if_pos c] at hN
        refine bX13_hour_64 B ?_
        rw [nI_1]
        exact ih (i + 1) (by omega) (by rw [hN, show j + (i + 1) = j + i + 1 by omega]; omega)
theorem l_hour (B : Bd p s m args meth c cX13_hour 6 (wsOf yX13_hour cX13_hour 6 (some .int)) RX13 w (some .int) "hour") {Q : State → Prop} {m0 s0 ah hm : Nat} {A : Nat → Nat} {α : Ab} (h : MR S m0 s0 ah A α) (hh : hm < 16)
    (hx : K p l e rX13_hour s m args below meth c 6 w 0 0 Q S 91 [(2, .int (hrB (α 903 hm) 24).1)] []) : ∀ d j, j + d = 24 → K p l e rX13_hour s m args below meth c 6 w 0 0 Q S 26 [(0, .ref m0), (1, .int (nI hm)), (2, .int (hrB (α 903 hm) j).1), (3, .int (hrB (α 903 hm) j).2), (4, .int (nI j))] [] := by
  intro d
  induction d with
  | zero =>
    intro j hj
    have hj : j = 24 := by omega
    subst hj
    exact bX13_hour_26 B (fun _ => hx) (fun c => absurd (by decide) c)
  | succ d ih =>
    intro j hj
    have go := ih (j + 1) (by omega)
    have es : hrB (α 903 hm) (j + 1) = if (hrB (α 903 hm) j).2 < nI (hrN (α 903 hm) (24 - j) j) then (nI j, nI (hrN (α 903 hm) (24 - j) j)) else hrB (α 903 hm) j := rfl
    refine bX13_hour_26 B (fun c => absurd c (by rw [show (24 : Int32) = nI 24 from rfl]; exact nI_ge (by omega) (by omega))) (fun _ => bX13_hour_33 B ?_)
    refine l_hourIn (N := hrN (α 903 hm) (24 - j) j) B h hh (by omega) ?_ (24 - j) 0 (by omega) (by rw [Nat.add_zero]; omega)
    refine bX13_hour_70 B (fun c => ?_) (fun c => ?_)
    · rw [es, if_pos c] at go
      exact bX13_hour_79 B (bX13_hour_85 B (by rw [nI_1]; exact go))
    · rw [es, if_neg c] at go
      exact bX13_hour_76 B (bX13_hour_85 B (by rw [nI_1]; exact go))
end MHR
section MHS
variable {l : Launch} {w : Wd} {S : St} {m0 s0 ah : Nat} {A : Nat → Nat}
theorem c_hour {α : Ab} {ia : Int32} (h : MR S m0 s0 ah A α) (hC : AIc α) : ConI l yX13_hour (wsOf yX13_hour cX13_hour 6 (some .int)) rX13_hour w S [.ref m0, .int ia] (PM m0 s0 ah A (opHour α ia)) := by
  refine con_I (by decide +kernel) rfl (Nat.le_of_ble_eq_true rfl) (fun p e s m args below meth c B => ?_)
  have h1 : MR (sI S 896 m0 0) m0 s0 ah A (au α 896 0 0) := h.setS (F := 896) (by decide) 0
  have f1 : FrM α (au α 896 0 0) := FrM.th
  unfold opHour
  refine bX13_hour_0 B h.1.1 (c_isHomeNumber h1 (hC.congr f1)) (fun r S' hq => ?_)
  obtain ⟨rfl, hq⟩ := hq
  rw [nH_congr f1] at hq
  rcases hq with ⟨rfl, ha⟩ | ⟨rfl, ha⟩
  rotate_left
  · rw [if_neg ha]
    exact bX13_hour_10 B (fun z => absurd rfl z) (fun _ => bX13_hour_13 B (c_no h1) h1.1.1 (fun r S' hq => bX13_hour_18 B (hq.back f1)))
  rw [if_pos ha]
  have n16 := hC.1.2
  obtain ⟨k, hk, rfl⟩ := ha.nI
  rw [cl_nI (show k < 1000 by omega)]
  refine bX13_hour_10 B (fun _ => bX13_hour_19 B ?_) (fun z => absurd z ne1)
  exact l_hour B h1 (show k < 16 by omega) (bX13_hour_91 B (PM.rf h1 au_same f1 (by rw [f1 903 rfl]))) 24 0 rfl
end MHS
