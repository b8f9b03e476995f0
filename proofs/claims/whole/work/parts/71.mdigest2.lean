section MDG2
variable {p : Program} {l : Launch} {e : Env} {s : State} {m : MethodId} {args : Array Value} {below : List Frame} {meth : Method} {c : Code} {w : Wd} {S : St}
theorem l_dgHome (B : Bd p s m args meth c cX13_digest 5 (wsOf yX13_digest cX13_digest 5 (some .long)) RX13 w (some .long) "digest") {Q : State → Prop} {m0 s0 ah ka na hm : Nat} {d0 : Int64} {A : Nat → Nat} {α : Ab} (hA : AI1 α) (hh : hm < 16) (hka : ka + 6 ≤ 108) (hna : na + 36 ≤ 720)
    (hx : ∀ S' β, MR S' m0 s0 ah A β → FrH 0 α β → K p l e rX13_digest s m args below meth c 5 w (ka + 6) (na + 36) Q S' 126 [(0, .ref m0), (1, .long (dgN (homV α hm) d0 6)), (3, .int (nI hm))] []) :
    ∀ d j, j + d = 6 → ∀ S β, MR S m0 s0 ah A β → FrH 0 α β → K p l e rX13_digest s m args below meth c 5 w (ka + j) (na + 6 * j) Q S 99 [(0, .ref m0), (1, .long (dgN (homV α hm) d0 j)), (3, .int (nI hm)), (4, .int (nI j))] [] := by
  intro d
  induction d with
  | zero =>
    intro j hj S β h f
    have hj : j = 6 := by omega
    subst hj
    exact bX13_digest_99 B (fun _ => hx S β h f) (fun c => absurd (by decide) c)
  | succ d ih =>
    intro j hj S β h f
    have go := ih (j + 1) (by omega)
    refine bX13_digest_99 B (fun c => absurd c (by rw [show (5 : Int32) = nI 5 from rfl]; exact nI_nlt (by omega) (by omega))) (fun _ => ?_)
    refine bX13_digest_105 B (c_homeTold h (hA.congr f.1).2.1 hh (by omega)) (Nat.le_trans (show ka + j + 1 ≤ 108 by omega) (Nat.le_of_ble_eq_true rfl)) (Nat.le_trans (show na + 6 * j + 6 ≤ 720 by omega) (Nat.le_of_ble_eq_true rfl)) h.1.1 (fun r S2 hq2 => ?_)
    obtain ⟨rfl, k2⟩ := hq2
    refine bX13_digest_117 B ?_
    rw [nI_1, homV_congr f.1]
    exact go S2 β k2 f
theorem l_dgOrd (B : Bd p s m args meth c cX13_digest 5 (wsOf yX13_digest cX13_digest 5 (some .long)) RX13 w (some .long) "digest") {Q : State → Prop} {m0 s0 ah ka na hm : Nat} {d0 : Int64} {A : Nat → Nat} {α β : Ab} (h : MR S m0 s0 ah A β) (f : FrM α β) (hW : AIw α) (hh : hm < 16)
    (hx : K p l e rX13_digest s m args below meth c 5 w ka na Q S 165 [(0, .ref m0), (1, .long (dgN (fun k => α 905 (3 * hm + k)) d0 (cl (α 904 hm)))), (3, .int (nI hm))] []) :
    ∀ d j, j + d = cl (α 904 hm) → K p l e rX13_digest s m args below meth c 5 w ka na Q S 129 [(0, .ref m0), (1, .long (dgN (fun k => α 905 (3 * hm + k)) d0 j)), (3, .int (nI hm)), (4, .int (nI j))] [] := by
  obtain ⟨a1, a2, a3, a4⟩ := h.ar 904 (by decide)
  obtain ⟨b1, b2, b3, b4⟩ := h.ar 905 (by decide)
  have ho := hW.2.2 hm hh
  have n3 := ho.2.1
  have eh : (nI hm).toNatClampNeg = hm := nI_clamp (by omega)
  have en : rI S (A 904) (nI hm).toNatClampNeg = nI (cl (α 904 hm)) := by rw [a4, eh, f 904 rfl]; exact ho.1
  have hin : vp_in (nI hm) (ln S (A 904)) := by rw [a3]; exact vp_in_nI hh (by decide)
  intro d
  induction d with
  | zero =>
    intro j hj
    have hj : j = cl (α 904 hm) := by omega
    subst hj
    exact bX13_digest_129 B h.1.1 a1 a2 hin (fun _ => hx) (fun c => absurd (by rw [en]; exact Int32.le_refl _) c)
  | succ d ih =>
    intro j hj
    have go := ih (j + 1) (by omega)
    have ei : ((3 : Int32) * nI hm + nI j) = nI (3 * hm + j) := by rw [show (3 : Int32) * nI hm = nI (3 * hm) from pk_mul 3 hm, nI_add]
    refine bX13_digest_129 B h.1.1 a1 a2 hin (fun c => absurd c (by rw [en]; exact nI_ge (by omega) (by omega))) (fun _ => ?_)
    refine bX13_digest_140 B h.1.1 b1 b2 (by rw [ei, b3]; exact vp_in_nI (show 3 * hm + j < 48 by omega) (by decide)) ?_
    rw [ei, nI_clamp (by omega), b4, f 905 rfl, nI_1]
    exact go
theorem l_dgH (B : Bd p s m args meth c cX13_digest 5 (wsOf yX13_digest cX13_digest 5 (some .long)) RX13 w (some .long) "digest") {Q : State → Prop} {m0 s0 ah : Nat} {d0 : Int64} {A : Nat → Nat} {α : Ab} (hA : AI1 α) (hW : AIw α)
    (hx : ∀ S' β, MR S' m0 s0 ah A β → FrH 0 α β → K p l e rX13_digest s m args below meth c 5 w 108 720 Q S' 171 [(0, .ref m0), (1, .long (dgH α d0 (nH α)))] []) :
    ∀ d j, j + d = nH α → ∀ S β, MR S m0 s0 ah A β → FrH 0 α β → K p l e rX13_digest s m args below meth c 5 w (12 + 6 * j) (144 + 36 * j) Q S 88 [(0, .ref m0), (1, .long (dgH α d0 j)), (3, .int (nI j))] [] := by
  have n16 := hA.2.1.1.2
  intro d
  induction d with
  | zero =>
    intro j hj S β h f
    have hj : j = nH α := by omega
    subst hj
    have e9 : gI S 900 m0 = nI (nH α) := (h.sc 900 (by decide)).trans ((congrFun (f.1 900 rfl) 0).trans hA.2.1.1.1)
    exact bX13_digest_88 B h.1.1 (fun _ => k_wid (by omega) (by omega) (hx S β h f)) (fun c => absurd (by rw [e9]; exact Int32.le_refl _) c)
  | succ d ih =>
    intro j hj S β h f
    have go := ih (j + 1) (by omega)
    have e9 : gI S 900 m0 = nI (nH α) := (h.sc 900 (by decide)).trans ((congrFun (f.1 900 rfl) 0).trans hA.2.1.1.1)
    refine bX13_digest_88 B h.1.1 (fun c => absurd c (by rw [e9]; exact nI_ge (by omega) (by omega))) (fun _ => bX13_digest_96 B ?_)
    refine l_dgHome (ka := 12 + 6 * j) (na := 144 + 36 * j) (d0 := dgH α d0 j) B hA (show j < 16 by omega) (by omega) (by omega) (fun S2 γ h2 f2 => bX13_digest_126 B ?_) 6 0 rfl S β h f
    refine l_dgOrd B h2 f2.1 hW (show j < 16 by omega) (bX13_digest_165 B ?_) (cl (α 904 j)) 0 (by omega)
    rw [nI_1]
    exact go S2 γ h2 f2
end MDG2
