/-! THE CLASS'S ORDERS: one after the other -/
theorem AIy.ordL {D0 D : Ab} (h : AIy D0) (f : FrD D0 D) {i : Nat} (hi : i < nH D0) : OrdL D i := by
  have := h.1.2.2.1 i hi
  unfold OrdL
  rw [f 904 (by decide) (by decide), f 905 (by decide) (by decide), f.n.1, f.n.2.1]
  exact this
theorem tryD_nb {D : Ab} {q h k wh : Nat} (e1 : D 905 (3 * h + k) = nI (200 + wh)) (hw : wh < 100) : (tryD D q h k).2 = tnD D q wh h := by
  have e2 : (200 : Int32) ≤ D 905 (3 * h + k) := by rw [e1]; exact Int32.not_lt.mp (nI_nlt (a := 200 + wh) (b := 200) (by omega) (by omega))
  have e3 : whD D h k = wh := whD_eq e1 (by decide) (by decide) hw
  unfold tryD tnD
  rw [if_pos e2, e3]
  split
  · split
    · rfl
    · rfl
  · rfl
theorem tryD_lk {D : Ab} {q h k wh : Nat} (e1 : D 905 (3 * h + k) = nI (100 + wh)) (hw : wh < 100) : (tryD D q h k).2 = tlD D q wh h := by
  have e2 : ¬ (200 : Int32) ≤ D 905 (3 * h + k) := by rw [e1]; exact Int32.not_le.mpr (nI_lt (a := 100 + wh) (b := 200) (by omega) (by omega))
  have e3 : whD D h k = wh := whD_eq e1 (by decide) (by decide) hw
  unfold tryD tlD
  rw [if_neg e2, e3]
  split
  · rfl
  · rfl
section DORD
variable {p : Program} {l : Launch} {e : Env} {s : State} {m : MethodId} {args : Array Value} {below : List Frame} {meth : Method} {c : Code} {w : Wd}
theorem l_dord (B : Bd p s m args meth c cX5_tryOrders 5 (wsOf yX5_tryOrders cX5_tryOrders 5 none) RX5 w none "tryOrders") {Q : State → Prop} {T : Tb} {D0 : Ab} {R : Ke} {cn : Int32} {q hm n : Nat} {Z : Ab} (hA : AIy D0) (hq : q < nP D0) (hx : ∀ S', DC w S' T D0 R Z cn → K p l e rX5_tryOrders s m args below meth c 5 w 0 0 Q S' 68 [] []) :
    ∀ d k S D, k + d = n → n = cl (D 904 hm) → hm = cl (D 916 q) → DC w S T D0 R D cn → Gp D q → D 834 q = 0 → trOk (trD D) (3000 + 362 * k) → (plcD q hm d k D).2 = Z →
      K p l e rX5_tryOrders s m args below meth c 5 w 0 0 Q S 7 [(0, .ref (T 13 0)), (1, .ref (T 30 q)), (2, .ref (T 20 hm)), (3, .int (nI k))] [] := by
  intro d
  induction d with
  | zero =>
    intro k S D hk hn hh h g z ht hZ
    obtain ⟨⟨a1, a2, a3⟩, -, -⟩ := h.par hA hq
    rw [← hh] at a2 a3
    have h3 := (h.hom a3).1
    have n3 := ((hA.1.1.2.1.D h.f).2.2 hm (by have := hA.1.1.1.2.1.1.2; omega))
    have e4 : gI S 131 (T 20 hm) = D 904 hm := by
      have := (h.c.hm (i := hm) (by rw [(dE_n h.f).1]; exact a3)).2.2.2.1
      rw [dE_F (by decide)] at this; exact this
    refine bX5_tryOrders_7 B h3 (fun _ => ?_) (fun cc => absurd ?_ cc)
    · unfold plcD at hZ
      exact hx S (by rw [← hZ]; exact h)
    · rw [e4, n3.1]
      have := n3.2.1
      exact Int32.not_lt.mp (nI_nlt (by omega) (by omega))
  | succ d ih =>
    intro k S D hk hn hh h g z ht hZ
    obtain ⟨⟨a1, a2, a3⟩, -, p1, p2, -⟩ := h.par hA hq
    rw [← hh] at a2 a3
    have h3 := (h.hom a3).1
    have nH16 := hA.1.1.1.2.1.1.2
    have nL4 := hA.1.1.1.2.1.2.1.2
    have hw := hA.1.1.2.1.D h.f
    have h16 : hm < 16 := by omega
    obtain ⟨o1, o2, -⟩ := hw.2.2 hm h16
    have k3 : k < 3 := by omega
    have kn : k < cl (D 904 hm) := by omega
    have hm' : hm < nH (dE D0 D) := by rw [(dE_n h.f).1]; exact a3
    obtain ⟨-, -, -, b4, b5⟩ := h.c.hm hm'
    rw [dE_F (by decide)] at b4
    rw [dE_F (by decide), dE_F (by decide)] at b5
    have e5 := b5 k k3 kn
    have ec : (nI k).toNatClampNeg = k := nI_clamp (by omega)
    have c22 : hm < cCnt (dE D0 D) 22 := cnH (by decide) (by decide) hm'
    have ol := hA.ordL h.f a3
    -- what comes behind one order
    have nL_D := h.f.n.2.1
    have nH_D := h.f.n.1
    have hg2 : Gp (tryD D q hm k).2 q := g.try z ol kn (by omega) (by omega)
    have behind : ∀ S', DC w S' T D0 R (tryD D q hm k).2 cn → K p l e rX5_tryOrders s m args below meth c 5 w 0 0 Q S' 62 [(0, .ref (T 13 0)), (1, .ref (T 30 q)), (2, .ref (T 20 hm)), (3, .int (nI k))] [] := by
      intro S' h'
      refine bX5_tryOrders_62 B ?_
      rw [nI_1]
      unfold plcD at hZ
      by_cases hb : (tryD D q hm k).1 = true
      · rw [if_pos hb] at hZ
        have h'' : DC w S' T D0 R Z cn := by rw [← hZ]; exact h'
        refine bX5_tryOrders_7 B (h'.hom a3).1 (fun _ => hx S' h'') (fun _ => ?_)
        obtain ⟨⟨a1', -, -⟩, -, -, p2', -⟩ := h'.par hA hq
        refine bX5_tryOrders_15 B a1' (fun _ => hx S' h'') (fun c1 => ?_)
        rw [p2'] at c1
        rcases tryD_yes hb with y | ⟨y, -⟩
        · rw [y] at c1; exact absurd c1 (by decide)
        · rw [y] at c1; exact absurd c1 (by decide)
      · rw [if_neg hb] at hZ
        have hb' : (tryD D q hm k).1 = false := by simpa using hb
        have ht' := tryD_time (q := q) hw h16 kn ht (by omega)
        have e9 : (3000 + 362 * (k : Int) + 362) = 3000 + 362 * ((k + 1 : Nat) : Int) := by omega
        exact ih (k + 1) S' _ (by omega) (by rw [tryD_st (by decide)]; exact hn) (by rw [tryD_st (by decide)]; exact hh) h' hg2 (by rw [tryD_no hb' (by decide)]; exact z) (by rw [← e9]; exact ht') hZ
    refine bX5_tryOrders_7 B h3 (fun cc => absurd cc ?_) (fun _ => ?_)
    · rw [b4, o1]
      exact Int32.not_le.mpr (nI_lt kn (by omega))
    refine bX5_tryOrders_15 B a1 (fun cc => absurd (p2.trans z) cc) (fun _ => ?_)
    refine bX5_tryOrders_22 B h3 (h.c.lk (20, 130, 22) (by decide) (cnH (by decide) (by decide) hm')) (h.c.k c22) (by rw [h.c.lnn c22 (by decide)]; exact vp_in_nI k3 (by decide)) (fun cc => ?_) (fun cc => ?_)
    · rw [ec, e5] at cc
      rw [ec, e5]
      obtain ⟨wh, (⟨e1, hwh⟩ | ⟨e1, hwh⟩)⟩ := ol k kn
      · rw [e1]
        have hl := c_dlock (l := l) h hA (q := q) (k := wh) (b := 3000 + 362 * (k : Int)) hq (by omega) (by rw [h.f 915 (by decide) (by decide)]; exact hA.2.1 q hq) (g.2.1 z) ht (by omega)
        rw [← hh, ← tryD_lk e1 (by omega)] at hl
        refine bX5_tryOrders_52 B (post := fun S' => DC w S' T D0 R (tryD D q hm k).2 cn) ?_ h.rn.1 behind
        rw [show nI (100 + wh) - 100 = nI wh from by rw [show (100 : Int32) = nI 100 from rfl, pk_sub (by omega), Nat.add_sub_cancel_left]]
        exact hl
      · rw [e1] at cc
        exact absurd cc (nI_nlt (a := 200 + wh) (b := 200) (by omega) (by omega))
    · rw [ec, e5] at cc
      rw [ec, e5]
      obtain ⟨wh, (⟨e1, hwh⟩ | ⟨e1, hwh⟩)⟩ := ol k kn
      · rw [e1] at cc
        exact absurd (nI_lt (a := 100 + wh) (b := 200) (by omega) (by omega)) cc
      · rw [e1]
        have hl := c_dnb (l := l) h hA (q := q) (i := wh) (b := 3000 + 362 * (k : Int)) hq (by omega) ht (by omega)
        rw [← hh, ← tryD_nb e1 (by omega)] at hl
        refine bX5_tryOrders_38 B (post := fun S' => DC w S' T D0 R (tryD D q hm k).2 cn) ?_ h.rn.1 (fun S' h' => bX5_tryOrders_49 B (behind S' h'))
        rw [show nI (200 + wh) - 200 = nI wh from by rw [show (200 : Int32) = nI 200 from rfl, pk_sub (by omega), Nat.add_sub_cancel_left]]
        exact hl
end DORD
section DORD2
variable {l : Launch} {w : Wd} {S : St} {T : Tb} {D0 D : Ab} {R : Ke} {cn : Int32}
theorem c_dorders (h : DC w S T D0 R D cn) (hA : AIy D0) {q : Nat} (hq : q < nP D0) (g : Gp D q) (z : D 834 q = 0) (ht : trOk (trD D) 3000) : ConV l yX5_tryOrders (wsOf yX5_tryOrders cX5_tryOrders 5 none) rX5_tryOrders w S [.ref (T 13 0), .ref (T 30 q)] (fun S' => DC w S' T D0 R (plF D q).2 cn) := by
  obtain ⟨⟨a1, a2, a3⟩, -, -⟩ := h.par hA hq
  refine con_V (by decide +kernel) rfl (Nat.le_of_ble_eq_true rfl) (fun p e s m args below meth c B => ?_)
  refine bX5_tryOrders_0 B a1 a2 ?_
  exact l_dord B hA hq (fun S' h' => bX5_tryOrders_68 B h') (cl (D 904 (cl (D 916 q)))) 0 S D (by omega) rfl rfl h g z ht rfl
end DORD2
