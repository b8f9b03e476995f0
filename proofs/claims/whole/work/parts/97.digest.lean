section DIG1
variable {l : Launch} {w : Wd} {S : St}
theorem c_mixed {d x : Int64} : ConL l yX11_mixed (wsOf yX11_mixed cX11_mixed 4 (some .long)) rX11_mixed w S [.long d, .long x] (fun r S' => S = S' ∧ r = d * 31 + x) := by
  refine con_L (by decide +kernel) rfl (Nat.le_of_ble_eq_true rfl) (fun p e s m args below meth c B => ?_)
  exact bX11_mixed_0 B ⟨rfl, rfl⟩
end DIG1
section DIG2
variable {p : Program} {l : Launch} {e : Env} {s : State} {m : MethodId} {args : Array Value} {below : List Frame} {meth : Method} {c : Code} {w : Wd} {S : St}
variable {T : Tb}
theorem l_fwithHomes (B : Bd p s m args meth c cX11_withHomes 8 (wsOf yX11_withHomes cX11_withHomes 8 (some .long)) RX11 w (some .long) "withHomes") {Q : State → Prop} {α : Ab} {i : Nat} {d0 : Int64} (hA : AI1 α) (h : CR w S T α) (hi : i < nH α) (hx : K p l e rX11_withHomes s m args below meth c 8 w 0 0 Q S 47 [(0, .ref (T 0 0)), (3, .long (dgN (homV α i) d0 6)), (5, .int (nI i))] []) :
    ∀ d u, u + d = 6 → K p l e rX11_withHomes s m args below meth c 8 w 0 0 Q S 20 [(0, .ref (T 0 0)), (3, .long (dgN (homV α i) d0 u)), (5, .int (nI i)), (6, .int (nI u))] [] := by
  intro d
  induction d with
  | zero =>
    intro u hu
    have hu : u = 6 := by omega
    subst hu
    exact bX11_withHomes_20 B (fun _ => hx) (fun c => absurd (Int32.le_refl _) c)
  | succ d ih =>
    intro u hu
    refine bX11_withHomes_20 B (fun c => absurd c (nI_ge (show u < 6 by omega) (by decide))) (fun _ => ?_)
    refine bX11_withHomes_27 B (c_fhom h hA hi (show u < 6 by omega)) h.x.1 (fun r S1 hq1 => ?_)
    obtain ⟨rfl, rfl⟩ := hq1
    refine bX11_withHomes_36 B c_mixed (fun r S1 hq1 => ?_)
    obtain ⟨rfl, rfl⟩ := hq1
    refine bX11_withHomes_40 B ?_
    rw [nI_1]
    exact ih (u + 1) (by omega)
theorem l_fwithLockers (B : Bd p s m args meth c cX11_withLockers 7 (wsOf yX11_withLockers cX11_withLockers 7 (some .long)) RX11 w (some .long) "withLockers") {Q : State → Prop} {α : Ab} {i : Nat} {d0 : Int64} (hA : AI1 α) (h : CR w S T α) (hi : i < nL α) (hx : K p l e rX11_withLockers s m args below meth c 7 w 0 0 Q S 47 [(0, .ref (T 0 0)), (3, .long (dgN (locV α i) d0 6)), (5, .int (nI i))] []) :
    ∀ d u, u + d = 6 → K p l e rX11_withLockers s m args below meth c 7 w 0 0 Q S 20 [(0, .ref (T 0 0)), (3, .long (dgN (locV α i) d0 u)), (5, .int (nI i)), (6, .int (nI u))] [] := by
  intro d
  induction d with
  | zero =>
    intro u hu
    have hu : u = 6 := by omega
    subst hu
    exact bX11_withLockers_20 B (fun _ => hx) (fun c => absurd (Int32.le_refl _) c)
  | succ d ih =>
    intro u hu
    refine bX11_withLockers_20 B (fun c => absurd c (nI_ge (show u < 6 by omega) (by decide))) (fun _ => ?_)
    refine bX11_withLockers_27 B (c_floc h hA hi (show u < 6 by omega)) h.x.1 (fun r S1 hq1 => ?_)
    obtain ⟨rfl, rfl⟩ := hq1
    refine bX11_withLockers_36 B c_mixed (fun r S1 hq1 => ?_)
    obtain ⟨rfl, rfl⟩ := hq1
    refine bX11_withLockers_40 B ?_
    rw [nI_1]
    exact ih (u + 1) (by omega)
theorem l_fwithParcels (B : Bd p s m args meth c cX11_withParcels 7 (wsOf yX11_withParcels cX11_withParcels 7 (some .long)) RX11 w (some .long) "withParcels") {Q : State → Prop} {α : Ab} {i : Nat} {d0 : Int64} (hA : AI1 α) (h : CR w S T α) (hi : i < nP α) (hx : K p l e rX11_withParcels s m args below meth c 7 w 0 0 Q S 57 [(0, .ref (T 0 0)), (3, .long (dgN (parV α i) d0 9)), (5, .int (nI i))] []) :
    ∀ d u, u + d = 9 → K p l e rX11_withParcels s m args below meth c 7 w 0 0 Q S 20 [(0, .ref (T 0 0)), (3, .long (dgN (parV α i) d0 u)), (5, .int (nI i)), (6, .int (nI u))] [] := by
  intro d
  induction d with
  | zero =>
    intro u hu
    have hu : u = 9 := by omega
    subst hu
    exact bX11_withParcels_20 B (fun _ => hx) (fun c => absurd (Int32.le_refl _) c)
  | succ d ih =>
    intro u hu
    refine bX11_withParcels_20 B (fun c => absurd c (nI_ge (show u < 9 by omega) (by decide))) (fun _ => ?_)
    refine bX11_withParcels_27 B h.x.1 h.x.2.2.2.2.2.1 (c_gpar h hi) (h.k1 7 (by decide)) (fun r S1 hq1 => ?_)
    obtain ⟨rfl, rfl⟩ := hq1
    refine bX11_withParcels_38 B (h.kp hi) (c_fpar h hA hi (show u < 9 by omega)) h.x.1 (fun r S1 hq1 => ?_)
    obtain ⟨rfl, rfl⟩ := hq1
    refine bX11_withParcels_46 B c_mixed (fun r S1 hq1 => ?_)
    obtain ⟨rfl, rfl⟩ := hq1
    refine bX11_withParcels_50 B ?_
    rw [nI_1]
    exact ih (u + 1) (by omega)
theorem l_fwithVans (B : Bd p s m args meth c cX11_withVans 8 (wsOf yX11_withVans cX11_withVans 8 (some .long)) RX11 w (some .long) "withVans") {Q : State → Prop} {α : Ab} {i : Nat} {d0 : Int64} (hA : AIz α) (hi : i < nV α) (hx : ∀ S', CR w S' T α → K p l e rX11_withVans s m args below meth c 8 w 0 0 Q S' 61 [(0, .ref (T 0 0)), (3, .long (dgN (vanV α i) d0 10)), (5, .int (nI i)), (6, .ref (T 27 i))] []) :
    ∀ d u, u + d = 10 → ∀ S, CR w S T α → K p l e rX11_withVans s m args below meth c 8 w 0 0 Q S 34 [(0, .ref (T 0 0)), (3, .long (dgN (vanV α i) d0 u)), (5, .int (nI i)), (6, .ref (T 27 i)), (7, .int (nI u))] [] := by
  intro d
  induction d with
  | zero =>
    intro u hu S h
    have hu : u = 10 := by omega
    subst hu
    exact bX11_withVans_34 B (fun _ => hx S h) (fun c => absurd (Int32.le_refl _) c)
  | succ d ih =>
    intro u hu S h
    refine bX11_withVans_34 B (fun c => absurd c (nI_ge (show u < 10 by omega) (by decide))) (fun _ => ?_)
    refine bX11_withVans_41 B (c_fvan h hA hi (show u < 10 by omega)) h.x.1 (fun r S1 hq1 => ?_)
    obtain ⟨rfl, h1⟩ := hq1
    refine bX11_withVans_50 B c_mixed (fun r S2 hq2 => ?_)
    obtain ⟨rfl, rfl⟩ := hq2
    refine bX11_withVans_54 B ?_
    rw [nI_1]
    exact ih (u + 1) (by omega) S1 h1
theorem l_ordH (B : Bd p s m args meth c cX11_withHomes 8 (wsOf yX11_withHomes cX11_withHomes 8 (some .long)) RX11 w (some .long) "withHomes") {Q : State → Prop} {α : Ab} {i : Nat} {d0 : Int64} (hA : AIz α) (h : CR w S T α) (hi : i < nH α) (hx : K p l e rX11_withHomes s m args below meth c 8 w 0 0 Q S 94 [(0, .ref (T 0 0)), (3, .long (dgN (fun k => α 905 (3 * i + k)) d0 (cl (α 904 i)))), (5, .int (nI i))] []) :
    ∀ d k, k + d = cl (α 904 i) → K p l e rX11_withHomes s m args below meth c 8 w 0 0 Q S 64 [(0, .ref (T 0 0)), (3, .long (dgN (fun k => α 905 (3 * i + k)) d0 k)), (5, .int (nI i)), (6, .ref (T 20 i)), (7, .int (nI k))] [] := by
  have h16 := hA.1.1.2.1.1.2
  obtain ⟨o1, o2, -⟩ := hA.1.2.1.2.2 i (by omega)
  obtain ⟨b1, b2, b3, b4, b5⟩ := h.hm hi
  have k20 : kd S (T 20 i) = 3 := h.k (cnH (by decide) (by decide) hi)
  have e4 : gI S 131 (T 20 i) = nI (cl (α 904 i)) := b4.trans o1
  intro d
  induction d with
  | zero =>
    intro k hk
    have hk : k = cl (α 904 i) := by omega
    refine bX11_withHomes_64 B k20 (fun _ => ?_) (fun c => absurd (by rw [e4, hk]; exact Int32.le_refl _) c)
    rw [hk]; exact hx
  | succ d ih =>
    intro k hk
    refine bX11_withHomes_64 B k20 (fun c => absurd c (by rw [e4]; exact nI_ge (show k < cl (α 904 i) by omega) (by omega))) (fun _ => ?_)
    have k22 : kd S (T 22 i) = 21 := h.k (cnH (by decide) (by decide) hi)
    have n22 : ln S (T 22 i) = 3 := h.lnn (cnH (by decide) (by decide) hi) (by decide)
    refine bX11_withHomes_74 B k20 (h.lk (20, 130, 22) (by decide) (cnH (by decide) (by decide) hi)) k22 (by rw [n22]; exact vp_in_nI (show k < 3 by omega) (by decide)) c_mixed (fun r S1 hq1 => ?_)
    obtain ⟨rfl, rfl⟩ := hq1
    rw [nI_clamp (by omega), b5 k (by omega) (by omega)]
    refine bX11_withHomes_87 B ?_
    rw [nI_1]
    exact ih (k + 1) (by omega)
theorem l_rowV (B : Bd p s m args meth c cX11_withVans 8 (wsOf yX11_withVans cX11_withVans 8 (some .long)) RX11 w (some .long) "withVans") {Q : State → Prop} {α : Ab} {i : Nat} {d0 : Int64} (hA : AIz α) (h : CR w S T α) (hi : i < nV α) (hx : K p l e rX11_withVans s m args below meth c 8 w 0 0 Q S 102 [(0, .ref (T 0 0)), (3, .long (dgN (fun k => α 841 (12 * i + k)) d0 (mny α i))), (5, .int (nI i))] []) :
    ∀ d k, k + d = mny α i → K p l e rX11_withVans s m args below meth c 8 w 0 0 Q S 64 [(0, .ref (T 0 0)), (3, .long (dgN (fun k => α 841 (12 * i + k)) d0 k)), (5, .int (nI i)), (6, .ref (T 27 i)), (7, .int (nI k))] [] := by
  have v4 := hA.1.1.v4 hi
  have m12 := hA.1.1.m12 v4
  have kv := h.kv hi
  have e4 := (h.va hi).2.2.2.2.1
  intro d
  induction d with
  | zero =>
    intro k hk
    have hk : k = mny α i := by omega
    refine bX11_withVans_64 B kv.1 kv.2.1 kv.2.2 (fun _ => ?_) (fun c => absurd (by rw [e4, hk]; exact Int32.le_refl _) c)
    rw [hk]; exact hx
  | succ d ih =>
    intro k hk
    have hkm : k < mny α i := by omega
    have hp := rw_P hA.1.1 hi k hkm
    refine bX11_withVans_64 B kv.1 kv.2.1 kv.2.2 (fun c => absurd c (by rw [e4]; exact nI_ge hkm (by omega))) (fun _ => ?_)
    refine bX11_withVans_77 B kv.1 kv.2.1 (c_at (h.rv hA.1.1 hi) hkm) kv.2.2 (fun r S1 hq1 => ?_)
    obtain ⟨rfl, rfl⟩ := hq1
    refine bX11_withVans_88 B (h.kp hp) c_mixed (fun r S1 hq1 => ?_)
    obtain ⟨rfl, rfl⟩ := hq1
    rw [(h.pa hp).1.1, ← (hA.1.1.2.2.2.2.1 i k v4 hkm).1]
    refine bX11_withVans_95 B ?_
    rw [nI_1]
    exact ih (k + 1) (by omega)
theorem l_wH (B : Bd p s m args meth c cX11_withHomes 8 (wsOf yX11_withHomes cX11_withHomes 8 (some .long)) RX11 w (some .long) "withHomes") {Q : State → Prop} {α : Ab} {d0 : Int64} (hA : AIz α) (h : CR w S T α) (hx : K p l e rX11_withHomes s m args below meth c 8 w 0 0 Q S 100 [(3, .long (dgH α d0 (nH α)))] []) :
    ∀ d i, i + d = nH α → K p l e rX11_withHomes s m args below meth c 8 w 0 0 Q S 5 [(0, .ref (T 0 0)), (3, .long (dgH α d0 i)), (5, .int (nI i))] [] := by
  have h16 := hA.1.1.2.1.1.2
  intro d
  induction d with
  | zero =>
    intro i hi
    have hi : i = nH α := by omega
    subst hi
    refine bX11_withHomes_5 B h.x.1 h.x.2.2.1 (c_nhom h) (h.k1 4 (by decide)) (fun r S1 hq1 => ?_)
    obtain ⟨rfl, rfl⟩ := hq1
    exact bX11_withHomes_14 B (fun _ => hx) (fun c => absurd (Int32.le_refl _) c)
  | succ d ih =>
    intro i hi
    have hil : i < nH α := by omega
    refine bX11_withHomes_5 B h.x.1 h.x.2.2.1 (c_nhom h) (h.k1 4 (by decide)) (fun r S1 hq1 => ?_)
    obtain ⟨rfl, rfl⟩ := hq1
    refine bX11_withHomes_14 B (fun c => absurd c (nI_ge hil (by omega))) (fun _ => bX11_withHomes_17 B ?_)
    refine l_fwithHomes B hA.1.1 h hil ?_ 6 0 rfl
    refine bX11_withHomes_47 B h.x.1 h.x.2.2.1 (c_ghom h hil) (h.k1 4 (by decide)) (fun r S1 hq1 => ?_)
    obtain ⟨rfl, rfl⟩ := hq1
    refine bX11_withHomes_56 B (h.k (cnH (by decide) (by decide) hil)) (l_ordH B hA h hil (bX11_withHomes_94 B ?_) (cl (α 904 i)) 0 (by omega))
    rw [nI_1]
    exact ih (i + 1) (by omega)
theorem l_wL (B : Bd p s m args meth c cX11_withLockers 7 (wsOf yX11_withLockers cX11_withLockers 7 (some .long)) RX11 w (some .long) "withLockers") {Q : State → Prop} {α : Ab} {d0 : Int64} (hA : AIz α) (h : CR w S T α) (hx : K p l e rX11_withLockers s m args below meth c 7 w 0 0 Q S 53 [(3, .long (dgL α d0 (nL α)))] []) :
    ∀ d i, i + d = nL α → K p l e rX11_withLockers s m args below meth c 7 w 0 0 Q S 5 [(0, .ref (T 0 0)), (3, .long (dgL α d0 i)), (5, .int (nI i))] [] := by
  have h16 := hA.1.1.2.1.2.1.2
  intro d
  induction d with
  | zero =>
    intro i hi
    have hi : i = nL α := by omega
    subst hi
    refine bX11_withLockers_5 B h.x.1 h.x.2.2.2.1 (c_nloc h) (h.k1 5 (by decide)) (fun r S1 hq1 => ?_)
    obtain ⟨rfl, rfl⟩ := hq1
    exact bX11_withLockers_14 B (fun _ => hx) (fun c => absurd (Int32.le_refl _) c)
  | succ d ih =>
    intro i hi
    have hil : i < nL α := by omega
    refine bX11_withLockers_5 B h.x.1 h.x.2.2.2.1 (c_nloc h) (h.k1 5 (by decide)) (fun r S1 hq1 => ?_)
    obtain ⟨rfl, rfl⟩ := hq1
    refine bX11_withLockers_14 B (fun c => absurd c (nI_ge hil (by omega))) (fun _ => bX11_withLockers_17 B ?_)
    refine l_fwithLockers B hA.1.1 h hil (bX11_withLockers_47 B ?_) 6 0 rfl
    rw [nI_1]
    exact ih (i + 1) (by omega)
theorem l_wP (B : Bd p s m args meth c cX11_withParcels 7 (wsOf yX11_withParcels cX11_withParcels 7 (some .long)) RX11 w (some .long) "withParcels") {Q : State → Prop} {α : Ab} {d0 : Int64} (hA : AIz α) (h : CR w S T α) (hx : K p l e rX11_withParcels s m args below meth c 7 w 0 0 Q S 63 [(3, .long (dgP α d0 (nP α)))] []) :
    ∀ d i, i + d = nP α → K p l e rX11_withParcels s m args below meth c 7 w 0 0 Q S 5 [(0, .ref (T 0 0)), (3, .long (dgP α d0 i)), (5, .int (nI i))] [] := by
  have h16 := hA.1.1.2.1.2.2.2.2
  intro d
  induction d with
  | zero =>
    intro i hi
    have hi : i = nP α := by omega
    subst hi
    refine bX11_withParcels_5 B h.x.1 h.x.2.2.2.2.2.1 (c_npar h) (h.k1 7 (by decide)) (fun r S1 hq1 => ?_)
    obtain ⟨rfl, rfl⟩ := hq1
    exact bX11_withParcels_14 B (fun _ => hx) (fun c => absurd (Int32.le_refl _) c)
  | succ d ih =>
    intro i hi
    have hil : i < nP α := by omega
    refine bX11_withParcels_5 B h.x.1 h.x.2.2.2.2.2.1 (c_npar h) (h.k1 7 (by decide)) (fun r S1 hq1 => ?_)
    obtain ⟨rfl, rfl⟩ := hq1
    refine bX11_withParcels_14 B (fun c => absurd c (nI_ge hil (by omega))) (fun _ => bX11_withParcels_17 B ?_)
    refine l_fwithParcels B hA.1.1 h hil (bX11_withParcels_57 B ?_) 9 0 rfl
    rw [nI_1]
    exact ih (i + 1) (by omega)
theorem l_wV (B : Bd p s m args meth c cX11_withVans 8 (wsOf yX11_withVans cX11_withVans 8 (some .long)) RX11 w (some .long) "withVans") {Q : State → Prop} {α : Ab} {d0 : Int64} (hA : AIz α) (hx : ∀ S', CR w S' T α → K p l e rX11_withVans s m args below meth c 8 w 0 0 Q S' 108 [(3, .long (dgV α d0 (nV α)))] []) :
    ∀ d i, i + d = nV α → ∀ S, CR w S T α → K p l e rX11_withVans s m args below meth c 8 w 0 0 Q S 5 [(0, .ref (T 0 0)), (3, .long (dgV α d0 i)), (5, .int (nI i))] [] := by
  have h16 := hA.1.1.2.1.2.2.1.2
  intro d
  induction d with
  | zero =>
    intro i hi S h
    have hi : i = nV α := by omega
    subst hi
    refine bX11_withVans_5 B h.x.1 h.x.2.2.2.2.1 (c_nvan h) (h.k1 6 (by decide)) (fun r S1 hq1 => ?_)
    obtain ⟨rfl, rfl⟩ := hq1
    exact bX11_withVans_14 B (fun _ => hx S h) (fun c => absurd (Int32.le_refl _) c)
  | succ d ih =>
    intro i hi S h
    have hil : i < nV α := by omega
    refine bX11_withVans_5 B h.x.1 h.x.2.2.2.2.1 (c_nvan h) (h.k1 6 (by decide)) (fun r S1 hq1 => ?_)
    obtain ⟨rfl, rfl⟩ := hq1
    refine bX11_withVans_14 B (fun c => absurd c (nI_ge hil (by omega))) (fun _ => ?_)
    refine bX11_withVans_17 B h.x.1 h.x.2.2.2.2.1 (c_gvan h hil) (h.k1 6 (by decide)) (fun r S1 hq1 => ?_)
    obtain ⟨rfl, rfl⟩ := hq1
    refine bX11_withVans_26 B (h.kv hil).1 (l_fwithVans B hA hil (fun S2 h2 => ?_) 10 0 rfl S h)
    refine bX11_withVans_61 B (l_rowV B hA h2 hil (bX11_withVans_102 B ?_) (mny α i) 0 (by omega))
    rw [nI_1]
    exact ih (i + 1) (by omega) S2 h2
theorem l_dgC (B : Bd p s m args meth c cX11_digest 4 (wsOf yX11_digest cX11_digest 4 (some .long)) RX11 w (some .long) "digest") {Q : State → Prop} {α : Ab} {d0 : Int64} (hA : AIz α) (hx : ∀ S', CR w S' T α → K p l e rX11_digest s m args below meth c 4 w 0 0 Q S' 29 [(0, .ref (T 0 0)), (1, .long (dgN (cntV α) d0 12))] []) :
    ∀ d u, u + d = 12 → ∀ S, CR w S T α → K p l e rX11_digest s m args below meth c 4 w 0 0 Q S 6 [(0, .ref (T 0 0)), (1, .long (dgN (cntV α) d0 u)), (3, .int (nI u))] [] := by
  intro d
  induction d with
  | zero =>
    intro u hu S h
    have hu : u = 12 := by omega
    subst hu
    exact bX11_digest_6 B (fun _ => hx S h) (fun c => absurd (Int32.le_refl _) c)
  | succ d ih =>
    intro u hu S h
    refine bX11_digest_6 B (fun c => absurd c (nI_ge (show u < 12 by omega) (by decide))) (fun _ => ?_)
    refine bX11_digest_12 B (c_cnted h hA (show u < 12 by omega)) h.x.1 (fun r S1 hq1 => ?_)
    obtain ⟨rfl, h1⟩ := hq1
    refine bX11_digest_18 B c_mixed (fun r S2 hq2 => ?_)
    obtain ⟨rfl, rfl⟩ := hq2
    refine bX11_digest_22 B ?_
    rw [nI_1]
    exact ih (u + 1) (by omega) S1 h1
theorem l_dgS (B : Bd p s m args meth c cX11_digest 4 (wsOf yX11_digest cX11_digest 4 (some .long)) RX11 w (some .long) "digest") {Q : State → Prop} {α : Ab} {d0 : Int64} (h : CR w S T α) (hx : K p l e rX11_digest s m args below meth c 4 w 0 0 Q S 58 [(0, .ref (T 0 0)), (1, .long (dgN (α 897) d0 24))] []) :
    ∀ d u, u + d = 24 → K p l e rX11_digest s m args below meth c 4 w 0 0 Q S 31 [(0, .ref (T 0 0)), (1, .long (dgN (α 897) d0 u)), (3, .int (nI u))] [] := by
  intro d
  induction d with
  | zero =>
    intro u hu
    have hu : u = 24 := by omega
    subst hu
    exact bX11_digest_31 B (fun _ => hx) (fun c => absurd (Int32.le_refl _) c)
  | succ d ih =>
    intro u hu
    refine bX11_digest_31 B (fun c => absurd c (nI_ge (show u < 24 by omega) (by decide))) (fun _ => ?_)
    have n2 : ln S (T 2 0) = 24 := h.lnn (cn1 (by decide)) (by decide)
    refine bX11_digest_37 B h.x.1 h.x.2.1 (h.k1 1 (by decide)) (h.lk (1, 576, 2) (by decide) (cn1 (by decide))) (h.k1 2 (by decide)) (by rw [n2]; exact vp_in_nI (show u < 24 by omega) (by decide)) c_mixed (fun r S1 hq1 => ?_)
    obtain ⟨rfl, rfl⟩ := hq1
    rw [nI_clamp (by omega), h.to.1]
    refine bX11_digest_51 B ?_
    rw [nI_1]
    exact ih (u + 1) (by omega)
end DIG2
section DIG3
variable {l : Launch} {w : Wd} {S : St} {T : Tb} {α : Ab}
theorem c_wH {d0 : Int64} (h : CR w S T α) (hA : AIz α) : ConL l yX11_withHomes (wsOf yX11_withHomes cX11_withHomes 8 (some .long)) rX11_withHomes w S [.ref (T 0 0), .long d0] (fun r S' => S = S' ∧ r = dgH α d0 (nH α)) := by
  refine con_L (by decide +kernel) rfl (Nat.le_of_ble_eq_true rfl) (fun p e s m args below meth c B => ?_)
  exact bX11_withHomes_0 B (l_wH B hA h (bX11_withHomes_100 B ⟨rfl, rfl⟩) (nH α) 0 (by omega))
theorem c_wL {d0 : Int64} (h : CR w S T α) (hA : AIz α) : ConL l yX11_withLockers (wsOf yX11_withLockers cX11_withLockers 7 (some .long)) rX11_withLockers w S [.ref (T 0 0), .long d0] (fun r S' => S = S' ∧ r = dgL α d0 (nL α)) := by
  refine con_L (by decide +kernel) rfl (Nat.le_of_ble_eq_true rfl) (fun p e s m args below meth c B => ?_)
  exact bX11_withLockers_0 B (l_wL B hA h (bX11_withLockers_53 B ⟨rfl, rfl⟩) (nL α) 0 (by omega))
theorem c_wP {d0 : Int64} (h : CR w S T α) (hA : AIz α) : ConL l yX11_withParcels (wsOf yX11_withParcels cX11_withParcels 7 (some .long)) rX11_withParcels w S [.ref (T 0 0), .long d0] (fun r S' => S = S' ∧ r = dgP α d0 (nP α)) := by
  refine con_L (by decide +kernel) rfl (Nat.le_of_ble_eq_true rfl) (fun p e s m args below meth c B => ?_)
  exact bX11_withParcels_0 B (l_wP B hA h (bX11_withParcels_63 B ⟨rfl, rfl⟩) (nP α) 0 (by omega))
theorem c_wV {d0 : Int64} (h : CR w S T α) (hA : AIz α) : ConL l yX11_withVans (wsOf yX11_withVans cX11_withVans 8 (some .long)) rX11_withVans w S [.ref (T 0 0), .long d0] (fun r S' => r = dgV α d0 (nV α) ∧ CR w S' T α) := by
  refine con_L (by decide +kernel) rfl (Nat.le_of_ble_eq_true rfl) (fun p e s m args below meth c B => ?_)
  exact bX11_withVans_0 B (l_wV B hA (fun S' h' => bX11_withVans_108 B ⟨rfl, h'⟩) (nV α) 0 (by omega) S h)
theorem k_digest (h : CR w S T α) (hA : AIz α) : ConL l yX11_digest (wsOf yX11_digest cX11_digest 4 (some .long)) rX11_digest w S [.ref (T 0 0)] (fun r S' => r = digD α ∧ CX0 w S' (T 0 0) α) := by
  refine con_L (by decide +kernel) rfl (Nat.le_of_ble_eq_true rfl) (fun p e s m args below meth c B => ?_)
  refine bX11_digest_0 B (l_dgC B hA (fun S1 h1 => ?_) 12 0 rfl S h)
  refine bX11_digest_29 B (l_dgS B h1 ?_ 24 0 rfl)
  refine bX11_digest_58 B h1.x.1 h1.x.2.1 (h1.k1 1 (by decide)) (h1.lk (1, 577, 3) (by decide) (cn1 (by decide))) (h1.k1 3 (by decide)) c_mixed (fun r S2 hq2 => ?_)
  obtain ⟨rfl, rfl⟩ := hq2
  rw [h1.to.2.1]
  refine bX11_digest_73 B h1.x.1 h1.x.2.1 (h1.k1 1 (by decide)) (h1.lk (1, 577, 3) (by decide) (cn1 (by decide))) (h1.k1 3 (by decide)) c_mixed (fun r S2 hq2 => ?_)
  obtain ⟨rfl, rfl⟩ := hq2
  rw [h1.to.2.2.1]
  refine bX11_digest_89 B (c_wH h1 hA) h1.x.1 (fun r S2 hq2 => ?_)
  obtain ⟨rfl, rfl⟩ := hq2
  refine bX11_digest_95 B (c_wL h1 hA) h1.x.1 (fun r S2 hq2 => ?_)
  obtain ⟨rfl, rfl⟩ := hq2
  refine bX11_digest_101 B (c_wP h1 hA) h1.x.1 (fun r S2 hq2 => ?_)
  obtain ⟨rfl, rfl⟩ := hq2
  refine bX11_digest_107 B (c_wV h1 hA) h1.x.1 (fun r S2 hq2 => ?_)
  obtain ⟨rfl, h2⟩ := hq2
  exact bX11_digest_113 B ⟨rfl, CX0.mk h2⟩
end DIG3
