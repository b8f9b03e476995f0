section MDG3
variable {p : Program} {l : Launch} {e : Env} {s : State} {m : MethodId} {args : Array Value} {below : List Frame} {meth : Method} {c : Code} {w : Wd} {S : St}
theorem l_dgLock (B : Bd p s m args meth c cX13_digest 5 (wsOf yX13_digest cX13_digest 5 (some .long)) RX13 w (some .long) "digest") {Q : State → Prop} {m0 s0 ah ka na k : Nat} {d0 : Int64} {A : Nat → Nat} {α β : Ab} (h : MR S m0 s0 ah A β) (f : FrM α β) (hC : AIc α) (hk : k < 4) (hka : ka ≤ 108) (hna : na ≤ 720)
    (hx : K p l e rX13_digest s m args below meth c 5 w ka na Q S 211 [(0, .ref m0), (1, .long (dgN (locV α k) d0 6)), (3, .int (nI k))] []) :
    ∀ d j, j + d = 6 → K p l e rX13_digest s m args below meth c 5 w ka na Q S 184 [(0, .ref m0), (1, .long (dgN (locV α k) d0 j)), (3, .int (nI k)), (4, .int (nI j))] [] := by
  intro d
  induction d with
  | zero =>
    intro j hj
    have hj : j = 6 := by omega
    subst hj
    exact bX13_digest_184 B (fun _ => hx) (fun c => absurd (by decide) c)
  | succ d ih =>
    intro j hj
    have go := ih (j + 1) (by omega)
    refine bX13_digest_184 B (fun c => absurd c (by rw [show (5 : Int32) = nI 5 from rfl]; exact nI_nlt (by omega) (by omega))) (fun _ => ?_)
    refine bX13_digest_190 B (c_lockerTold h (hC.congr f) hk (by omega)) (Nat.le_trans (show ka + 0 ≤ 108 by omega) (Nat.le_of_ble_eq_true rfl)) (Nat.le_trans (show na + 0 ≤ 720 by omega) (Nat.le_of_ble_eq_true rfl)) h.1.1 (fun r S2 hq2 => ?_)
    obtain ⟨rfl, rfl⟩ := hq2
    refine bX13_digest_202 B ?_
    rw [nI_1, locV_congr f]
    exact go
theorem l_dgL (B : Bd p s m args meth c cX13_digest 5 (wsOf yX13_digest cX13_digest 5 (some .long)) RX13 w (some .long) "digest") {Q : State → Prop} {m0 s0 ah ka na : Nat} {d0 : Int64} {A : Nat → Nat} {α β : Ab} (h : MR S m0 s0 ah A β) (f : FrM α β) (hC : AIc α) (hka : ka ≤ 108) (hna : na ≤ 720)
    (hx : K p l e rX13_digest s m args below meth c 5 w ka na Q S 217 [(0, .ref m0), (1, .long (dgL α d0 (nL α)))] []) :
    ∀ d j, j + d = nL α → K p l e rX13_digest s m args below meth c 5 w ka na Q S 173 [(0, .ref m0), (1, .long (dgL α d0 j)), (3, .int (nI j))] [] := by
  have n4 := hC.2.1.2
  have e9 : gI S 906 m0 = nI (nL α) := (h.sc 906 (by decide)).trans ((congrFun (f 906 rfl) 0).trans hC.2.1.1)
  intro d
  induction d with
  | zero =>
    intro j hj
    have hj : j = nL α := by omega
    subst hj
    exact bX13_digest_173 B h.1.1 (fun _ => hx) (fun c => absurd (by rw [e9]; exact Int32.le_refl _) c)
  | succ d ih =>
    intro j hj
    have go := ih (j + 1) (by omega)
    refine bX13_digest_173 B h.1.1 (fun c => absurd c (by rw [e9]; exact nI_ge (by omega) (by omega))) (fun _ => bX13_digest_181 B ?_)
    refine l_dgLock (d0 := dgL α d0 j) B h f hC (show j < 4 by omega) hka hna (bX13_digest_211 B ?_) 6 0 rfl
    rw [nI_1]
    exact go
theorem l_dgPar (B : Bd p s m args meth c cX13_digest 5 (wsOf yX13_digest cX13_digest 5 (some .long)) RX13 w (some .long) "digest") {Q : State → Prop} {m0 s0 ah ka na q : Nat} {d0 : Int64} {A : Nat → Nat} {α : Ab} (hA : AI1 α) (hq : q < 30) (hka : ka + 9 ≤ 378) (hna : na + 81 ≤ 3150)
    (hx : ∀ S' β, MR S' m0 s0 ah A β → FrH 0 α β → K p l e rX13_digest s m args below meth c 5 w (ka + 9) (na + 81) Q S' 258 [(0, .ref m0), (1, .long (dgN (parV α q) d0 9)), (3, .int (nI q))] []) :
    ∀ d j, j + d = 9 → ∀ S β, MR S m0 s0 ah A β → FrH 0 α β → K p l e rX13_digest s m args below meth c 5 w (ka + j) (na + 9 * j) Q S 230 [(0, .ref m0), (1, .long (dgN (parV α q) d0 j)), (3, .int (nI q)), (4, .int (nI j))] [] := by
  intro d
  induction d with
  | zero =>
    intro j hj S β h f
    have hj : j = 9 := by omega
    subst hj
    exact bX13_digest_230 B (fun _ => hx S β h f) (fun c => absurd (by decide) c)
  | succ d ih =>
    intro j hj S β h f
    have go := ih (j + 1) (by omega)
    refine bX13_digest_230 B (fun c => absurd c (by rw [show (8 : Int32) = nI 8 from rfl]; exact nI_nlt (by omega) (by omega))) (fun _ => ?_)
    refine bX13_digest_237 B (c_parcelTold h (hA.congr f.1) hq (by omega)) (Nat.le_trans (show ka + j + 1 ≤ 378 by omega) (Nat.le_of_ble_eq_true rfl)) (Nat.le_trans (show na + 9 * j + 9 ≤ 3150 by omega) (Nat.le_of_ble_eq_true rfl)) h.1.1 (fun r S2 hq2 => ?_)
    obtain ⟨rfl, k2⟩ := hq2
    refine bX13_digest_249 B ?_
    rw [nI_1, parV_congr f.1]
    exact go S2 β k2 f
theorem l_dgP (B : Bd p s m args meth c cX13_digest 5 (wsOf yX13_digest cX13_digest 5 (some .long)) RX13 w (some .long) "digest") {Q : State → Prop} {m0 s0 ah : Nat} {d0 : Int64} {A : Nat → Nat} {α : Ab} (hA : AI1 α)
    (hx : ∀ S' β, MR S' m0 s0 ah A β → FrH 0 α β → K p l e rX13_digest s m args below meth c 5 w 378 3150 Q S' 264 [(0, .ref m0), (1, .long (dgP α d0 (nP α)))] []) :
    ∀ d j, j + d = nP α → ∀ S β, MR S m0 s0 ah A β → FrH 0 α β → K p l e rX13_digest s m args below meth c 5 w (108 + 9 * j) (720 + 81 * j) Q S 219 [(0, .ref m0), (1, .long (dgP α d0 j)), (3, .int (nI j))] [] := by
  have n30 := hA.2.1.2.2.2.2
  intro d
  induction d with
  | zero =>
    intro j hj S β h f
    have hj : j = nP α := by omega
    subst hj
    have e9 : gI S 913 m0 = nI (nP α) := (h.sc 913 (by decide)).trans ((congrFun (f.1 913 rfl) 0).trans hA.2.1.2.2.2.1)
    exact bX13_digest_219 B h.1.1 (fun _ => k_wid (by omega) (by omega) (hx S β h f)) (fun c => absurd (by rw [e9]; exact Int32.le_refl _) c)
  | succ d ih =>
    intro j hj S β h f
    have go := ih (j + 1) (by omega)
    have e9 : gI S 913 m0 = nI (nP α) := (h.sc 913 (by decide)).trans ((congrFun (f.1 913 rfl) 0).trans hA.2.1.2.2.2.1)
    refine bX13_digest_219 B h.1.1 (fun c => absurd c (by rw [e9]; exact nI_ge (by omega) (by omega))) (fun _ => bX13_digest_227 B ?_)
    refine l_dgPar (ka := 108 + 9 * j) (na := 720 + 81 * j) (d0 := dgP α d0 j) B hA (show j < 30 by omega) (by omega) (by omega) (fun S2 γ h2 f2 => bX13_digest_258 B ?_) 9 0 rfl S β h f
    rw [nI_1]
    exact go S2 γ h2 f2
theorem l_dgVan (B : Bd p s m args meth c cX13_digest 5 (wsOf yX13_digest cX13_digest 5 (some .long)) RX13 w (some .long) "digest") {Q : State → Prop} {m0 s0 ah ka na v : Nat} {d0 : Int64} {A : Nat → Nat} {α : Ab} (hA : AI1 α) (hv : v < 4) (hka : ka + 10 ≤ 418) (hna : na + 100 ≤ 3550)
    (hx : ∀ S' β, MR S' m0 s0 ah A β → FrH 0 α β → K p l e rX13_digest s m args below meth c 5 w (ka + 10) (na + 100) Q S' 305 [(0, .ref m0), (1, .long (dgN (vanV α v) d0 10)), (3, .int (nI v))] []) :
    ∀ d j, j + d = 10 → ∀ S β, MR S m0 s0 ah A β → FrH 0 α β → K p l e rX13_digest s m args below meth c 5 w (ka + j) (na + 10 * j) Q S 277 [(0, .ref m0), (1, .long (dgN (vanV α v) d0 j)), (3, .int (nI v)), (4, .int (nI j))] [] := by
  intro d
  induction d with
  | zero =>
    intro j hj S β h f
    have hj : j = 10 := by omega
    subst hj
    exact bX13_digest_277 B (fun _ => hx S β h f) (fun c => absurd (by decide) c)
  | succ d ih =>
    intro j hj S β h f
    have go := ih (j + 1) (by omega)
    refine bX13_digest_277 B (fun c => absurd c (by rw [show (9 : Int32) = nI 9 from rfl]; exact nI_nlt (by omega) (by omega))) (fun _ => ?_)
    refine bX13_digest_284 B (c_vanTold h (hA.congr f.1) hv (by omega)) (Nat.le_trans (show ka + j + 1 ≤ 418 by omega) (Nat.le_of_ble_eq_true rfl)) (Nat.le_trans (show na + 10 * j + 10 ≤ 3550 by omega) (Nat.le_of_ble_eq_true rfl)) h.1.1 (fun r S2 hq2 => ?_)
    obtain ⟨rfl, γ, k2, k3⟩ := hq2
    refine bX13_digest_296 B ?_
    rw [nI_1, vanV_congr f.1]
    exact go S2 γ k2 ⟨f.1.tr k3.m, by rw [k3 896 rfl]; exact f.2⟩
theorem l_dgRow (B : Bd p s m args meth c cX13_digest 5 (wsOf yX13_digest cX13_digest 5 (some .long)) RX13 w (some .long) "digest") {Q : State → Prop} {m0 s0 ah ka na v : Nat} {d0 : Int64} {A : Nat → Nat} {α β : Ab} (h : MR S m0 s0 ah A β) (f : FrM α β) (hA : AI1 α) (hv : v < 4)
    (hx : K p l e rX13_digest s m args below meth c 5 w ka na Q S 351 [(0, .ref m0), (1, .long (dgN (fun k => α 841 (12 * v + k)) d0 (mny α v))), (3, .int (nI v))] []) :
    ∀ d j, j + d = mny α v → K p l e rX13_digest s m args below meth c 5 w ka na Q S 308 [(0, .ref m0), (1, .long (dgN (fun k => α 841 (12 * v + k)) d0 j)), (3, .int (nI v)), (4, .int (nI j))] [] := by
  obtain ⟨⟨g1, g2, g3, g4, g5, g6, g7, g8⟩, -⟩ := id h
  obtain ⟨a1, a2, a3, a4⟩ := h.ar 840 (by decide)
  obtain ⟨b1, b2, b3, b4⟩ := h.ar 841 (by decide)
  have m12 := hA.m12 hv
  have em : rI S (A 840) (nI v).toNatClampNeg = nI (mny α v) := by rw [a4, nI_clamp (by omega), f 840 rfl]; exact (hA.2.2.1 v hv).1
  have hin : vp_in (nI v) (ln S (A 840)) := by rw [a3]; exact vp_in_nI hv (by decide)
  intro d
  induction d with
  | zero =>
    intro j hj
    have hj : j = mny α v := by omega
    subst hj
    exact bX13_digest_308 B g1 g5 g2 a1 a2 hin (fun _ => hx) (fun c => absurd (by rw [em]; exact Int32.le_refl _) c)
  | succ d ih =>
    intro j hj
    have go := ih (j + 1) (by omega)
    have ei : ((12 : Int32) * nI v + nI j) = nI (12 * v + j) := by rw [mul12, nI_add]
    refine bX13_digest_308 B g1 g5 g2 a1 a2 hin (fun c => absurd c (by rw [em]; exact nI_ge (by omega) (by omega))) (fun _ => ?_)
    refine bX13_digest_322 B g1 g5 g2 b1 b2 (by rw [ei, b3]; exact vp_in_nI (show 12 * v + j < 48 by omega) (by decide)) ?_
    rw [ei, nI_clamp (by omega), b4, f 841 rfl, nI_1]
    exact go
theorem l_dgV (B : Bd p s m args meth c cX13_digest 5 (wsOf yX13_digest cX13_digest 5 (some .long)) RX13 w (some .long) "digest") {Q : State → Prop} {m0 s0 ah : Nat} {d0 : Int64} {A : Nat → Nat} {α : Ab} (hA : AI1 α)
    (hx : ∀ S' β, MR S' m0 s0 ah A β → FrH 0 α β → K p l e rX13_digest s m args below meth c 5 w 418 3550 Q S' 357 [(1, .long (dgV α d0 (nV α)))] []) :
    ∀ d j, j + d = nV α → ∀ S β, MR S m0 s0 ah A β → FrH 0 α β → K p l e rX13_digest s m args below meth c 5 w (378 + 10 * j) (3150 + 100 * j) Q S 266 [(0, .ref m0), (1, .long (dgV α d0 j)), (3, .int (nI j))] [] := by
  have n4 := hA.2.1.2.2.1.2
  intro d
  induction d with
  | zero =>
    intro j hj S β h f
    have hj : j = nV α := by omega
    subst hj
    have e9 : gI S 909 m0 = nI (nV α) := (h.sc 909 (by decide)).trans ((congrFun (f.1 909 rfl) 0).trans hA.2.1.2.2.1.1)
    exact bX13_digest_266 B h.1.1 (fun _ => k_wid (by omega) (by omega) (hx S β h f)) (fun c => absurd (by rw [e9]; exact Int32.le_refl _) c)
  | succ d ih =>
    intro j hj S β h f
    have go := ih (j + 1) (by omega)
    have e9 : gI S 909 m0 = nI (nV α) := (h.sc 909 (by decide)).trans ((congrFun (f.1 909 rfl) 0).trans hA.2.1.2.2.1.1)
    refine bX13_digest_266 B h.1.1 (fun c => absurd c (by rw [e9]; exact nI_ge (by omega) (by omega))) (fun _ => bX13_digest_274 B ?_)
    refine l_dgVan (ka := 378 + 10 * j) (na := 3150 + 100 * j) (d0 := dgV α d0 j) B hA (show j < 4 by omega) (by omega) (by omega) (fun S2 γ h2 f2 => bX13_digest_305 B ?_) 10 0 rfl S β h f
    refine l_dgRow B h2 f2.1 hA (show j < 4 by omega) (bX13_digest_351 B ?_) (mny α j) 0 (by omega)
    rw [nI_1]
    exact go S2 γ h2 f2
end MDG3
section MDG4
variable {l : Launch} {w : Wd} {S : St} {m0 s0 ah : Nat} {A : Nat → Nat}
theorem c_digest {α : Ab} (h : MR S m0 s0 ah A α) (hA : AI1 α) (hW : AIw α) : ConL l yX13_digest (wsOf yX13_digest cX13_digest 5 (some .long)) rX13_digest w S [.ref m0] (fun r S' => r = digD α ∧ ∃ β, MR S' m0 s0 ah A β ∧ FrH 0 α β) := by
  refine con_L (by decide +kernel) rfl (Nat.le_of_ble_eq_true rfl) (fun p e s m args below meth c B => ?_)
  have h1 : MR (sI S 896 m0 0) m0 s0 ah A (au α 896 0 0) := h.setS (F := 896) (by decide) 0
  refine bX13_digest_0 B h.1.1 (l_dgCount B hA (fun S2 β2 h2 f2 => bX13_digest_36 B ?_) 12 0 rfl _ _ h1 ⟨FrM.th, au_same⟩)
  refine l_dgSlow B h2 f2.1 ?_ 24 0 rfl
  refine bX13_digest_64 B h2.1.1 ?_
  rw [show gI S2 898 m0 = α 898 0 from (h2.sc 898 (by decide)).trans (congrFun (f2.1 898 rfl) 0), show gI S2 899 m0 = α 899 0 from (h2.sc 899 (by decide)).trans (congrFun (f2.1 899 rfl) 0)]
  refine l_dgH (d0 := dgA α) B hA hW (fun S3 β3 h3 f3 => bX13_digest_171 B ?_) (nH α) 0 (by omega) S2 β2 h2 f2
  refine l_dgL B h3 f3.1 hA.2.1 (by omega) (by omega) (bX13_digest_217 B ?_) (nL α) 0 (by omega)
  refine l_dgP B hA (fun S4 β4 h4 f4 => bX13_digest_264 B ?_) (nP α) 0 (by omega) S3 β3 h3 f3
  refine l_dgV B hA (fun S5 β5 h5 f5 => k_wid (Nat.le_of_ble_eq_true rfl) (Nat.le_of_ble_eq_true rfl) (bX13_digest_357 B ⟨rfl, β5, h5, f5⟩)) (nV α) 0 (by omega) S4 β4 h4 f4
end MDG4
