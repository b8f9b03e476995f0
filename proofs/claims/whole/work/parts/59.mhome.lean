def waN (α : Ab) (k : Nat) : Nat → Int32
  | 0 => 0
  | q + 1 => waN α k q + (if α 916 q = nI k ∧ α 834 q = 0 then 1 else 0)
theorem waN_congr {α β : Ab} (f : FrM α β) (k n : Nat) : waN β k n = waN α k n := by
  induction n with
  | zero => rfl
  | succ n ih => unfold waN; rw [ih, f 834 rfl, f 916 rfl]
def homV (α : Ab) (k what : Nat) : Int32 := if what = 0 then α 901 k else if what = 1 then α 902 k else if what = 2 then α 903 k else if what = 3 then α 904 k else if what = 4 then waN α k (nP α) else lyN α 3 k (nP α)
theorem homV_congr {α β : Ab} (f : FrM α β) (k what : Nat) : homV β k what = homV α k what := by
  unfold homV; rw [lyN_congr f, waN_congr f, nP_congr f, f 901 rfl, f 902 rfl, f 903 rfl, f 904 rfl]
def opTellH (α : Ab) (a b : Int32) : Out := if isIx a (nH α) ∧ isIx b 6 then (0, homV α (cl a) (cl b), α) else (1, 0, α)
section MHO
variable {l : Launch} {w : Wd} {S : St} {m0 s0 ah : Nat} {A : Nat → Nat}
theorem c_locker {α : Ab} {ia ib : Int32} (h : MR S m0 s0 ah A α) (hC : AIc α) : ConI l yX13_locker (wsOf yX13_locker cX13_locker 3 (some .int)) rX13_locker w S [.ref m0, .int ia, .int ib] (PM m0 s0 ah A (opTellL α ia ib)) := by
  refine con_I (by decide +kernel) rfl (Nat.le_of_ble_eq_true rfl) (fun p e s m args below meth c B => ?_)
  have h1 : MR (sI S 896 m0 0) m0 s0 ah A (au α 896 0 0) := h.setS (F := 896) (by decide) 0
  have f1 : FrM α (au α 896 0 0) := FrM.th
  have bad : ¬ (isIx ia (nL α) ∧ isIx ib 6) → K p l e rX13_locker s m args below meth c 3 w 0 0 (MQ below (va_Qi (PM m0 s0 ah A (opTellL α ia ib)) (fun S' t => Hd w S' t.heap) (wA w)) args s rX13_locker.cells rX13_locker.slots (wA w)) (sI S 896 m0 0) 31 [(0, .ref m0)] [] := by
    intro hn
    refine bX13_locker_31 B (c_no h1) h1.1.1 (fun r S' hq => bX13_locker_36 B ?_)
    unfold opTellL
    rw [if_neg hn]
    exact hq.back f1
  refine bX13_locker_0 B h.1.1 (c_isLocker h1 (hC.congr f1)) (fun r S' hq => ?_)
  obtain ⟨rfl, hq⟩ := hq
  rw [nL_congr f1] at hq
  rcases hq with ⟨rfl, ha⟩ | ⟨rfl, ha⟩
  rotate_left
  · exact bX13_locker_10 B (fun _ => bad (fun z => ha z.1)) (fun z => absurd rfl z)
  refine bX13_locker_10 B (fun z => absurd z ne1) (fun _ => bX13_locker_13 B c_isIn (fun r S' hq => ?_))
  obtain ⟨rfl, hq⟩ := hq
  rw [show (5 : Int32) = nI 5 from rfl, isIn_ix (n := 5) (by omega)] at hq
  rcases hq with ⟨rfl, hb⟩ | ⟨rfl, hb⟩
  rotate_left
  · exact bX13_locker_19 B (fun _ => bad (fun z => hb z.2)) (fun z => absurd rfl z)
  refine bX13_locker_19 B (fun z => absurd z ne1) (fun _ => ?_)
  unfold opTellL
  rw [if_pos ⟨ha, hb⟩]
  have n4 := hC.2.1.2
  obtain ⟨k, hk, rfl⟩ := ha.nI
  obtain ⟨u, hu, rfl⟩ := hb.nI
  rw [cl_nI (show k < 1000 by omega), cl_nI (show u < 1000 by omega)]
  refine bX13_locker_22 B (c_lockerTold h1 (hC.congr f1) (by omega) (by omega)) h1.1.1 (fun r S' hq => bX13_locker_28 B (bX13_locker_36 B ?_))
  obtain ⟨rfl, rfl⟩ := hq
  exact PM.rf h1 au_same f1 (locV_congr f1 ..)
end MHO
section MHT
variable {p : Program} {l : Launch} {e : Env} {s : State} {m : MethodId} {args : Array Value} {below : List Frame} {meth : Method} {c : Code} {w : Wd} {S : St}
theorem l_homeTold (B : Bd p s m args meth c cX13_homeTold 6 (wsOf yX13_homeTold cX13_homeTold 6 (some .int)) RX13 w (some .int) "homeTold") {Q : State → Prop} {m0 s0 ah hm : Nat} {v2 : Int32} {A : Nat → Nat} {α : Ab} (h : MR S m0 s0 ah A α) (hC : AIc α)
    (hx : K p l e rX13_homeTold s m args below meth c 6 w 0 0 Q S 93 [(0, .ref m0), (1, .int (nI hm)), (2, .int v2), (3, .int (waN α hm (nP α))), (4, .int (lyN α 3 hm (nP α)))] []) : ∀ d q, q + d = nP α → K p l e rX13_homeTold s m args below meth c 6 w 0 0 Q S 8 [(0, .ref m0), (1, .int (nI hm)), (2, .int v2), (3, .int (waN α hm q)), (4, .int (lyN α 3 hm q)), (5, .int (nI q))] [] := by
  have n30 := hC.2.2.2.2
  have e9 : gI S 913 m0 = nI (nP α) := (h.sc 913 (by decide)).trans hC.2.2.2.1
  obtain ⟨⟨g1, g2, g3, g4, g5, g6, g7, g8⟩, -⟩ := id h
  obtain ⟨a1, a2, a3, a4⟩ := h.ar 834 (by decide)
  obtain ⟨b1, b2, b3, b4⟩ := h.ar 836 (by decide)
  obtain ⟨d1, d2, d3, d4⟩ := h.ar 916 (by decide)
  intro d
  induction d with
  | zero =>
    intro q hq
    have hq : q = nP α := by omega
    subst hq
    exact bX13_homeTold_8 B g1 (fun _ => hx) (fun c => absurd (by rw [e9]; exact Int32.le_refl _) c)
  | succ d ih =>
    intro q hq
    have hql : q < nP α := by omega
    have go := ih (q + 1) (by omega)
    have es : lyN α 3 hm (q + 1) = lyN α 3 hm q + (if α 834 q = 3 ∧ α 836 q = nI hm then 1 else 0) := rfl
    have et : waN α hm (q + 1) = waN α hm q + (if α 916 q = nI hm ∧ α 834 q = 0 then 1 else 0) := rfl
    rw [es, et] at go
    have hin : ∀ {N}, N = 30 → vp_in (nI q) N := fun e0 => by rw [e0]; exact vp_in_nI (show q < 30 by omega) (by decide)
    have ev : rI S (A 834) (nI q).toNatClampNeg = α 834 q := by rw [a4, nI_clamp (by omega)]
    have ew : rI S (A 836) (nI q).toNatClampNeg = α 836 q := by rw [b4, nI_clamp (by omega)]
    have ey : rI S (A 916) (nI q).toNatClampNeg = α 916 q := by rw [d4, nI_clamp (by omega)]
    have half : ∀ x : Int32, x = (if α 916 q = nI hm ∧ α 834 q = 0 then 1 else 0) → K p l e rX13_homeTold s m args below meth c 6 w 0 0 Q S 47 [(0, .ref m0), (1, .int (nI hm)), (2, .int v2), (4, .int (lyN α 3 hm q)), (5, .int (nI q))] [.int x, .int (waN α hm q)] := by
      intro x hxx
      subst hxx
      refine bX13_homeTold_47 B g1 g5 g2 a1 a2 (hin a3) (fun c => ?_) (fun c => ?_)
      · rw [ev] at c
        rw [if_neg (show ¬ (α 834 q = 3 ∧ α 836 q = nI hm) from fun z => c z.1)] at go
        exact bX13_homeTold_83 B (bX13_homeTold_84 B (by rw [nI_1]; exact go))
      · rw [ev] at c
        refine bX13_homeTold_65 B g1 g5 g2 b1 b2 (hin b3) (fun c2 => ?_) (fun c2 => ?_)
        · rw [ew] at c2
          rw [if_neg (show ¬ (α 834 q = 3 ∧ α 836 q = nI hm) from fun z => c2 z.2)] at go
          exact bX13_homeTold_83 B (bX13_homeTold_84 B (by rw [nI_1]; exact go))
        · rw [ew] at c2
          rw [if_pos (show α 834 q = 3 ∧ α 836 q = nI hm from ⟨c, c2⟩)] at go
          exact bX13_homeTold_79 B (bX13_homeTold_84 B (by rw [nI_1]; exact go))
    refine bX13_homeTold_8 B g1 (fun c => absurd c (by rw [e9]; exact nI_ge hql (by omega))) (fun _ => ?_)
    refine bX13_homeTold_17 B g1 d1 d2 (hin d3) (fun c => ?_) (fun c => ?_)
    · rw [ey] at c
      exact bX13_homeTold_46 B (half 0 (by rw [if_neg (fun z => c z.1)]))
    · rw [ey] at c
      refine bX13_homeTold_29 B g1 g5 g2 a1 a2 (hin a3) (fun c2 => ?_) (fun c2 => ?_)
      · rw [ev] at c2
        exact bX13_homeTold_46 B (half 0 (by rw [if_neg (fun z => c2 z.2)]))
      · rw [ev] at c2
        exact bX13_homeTold_42 B (half 1 (by rw [if_pos ⟨c, c2⟩]))
end MHT
