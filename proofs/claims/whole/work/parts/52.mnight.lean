theorem LaidOk_ni {D : Ab} {q : Nat} (h : LaidOk D) : LaidOk (niD D q) := by
  have h1 : LaidOk (nigA D q) := h.of rfl rfl rfl
  have ho : ∀ v, ¬ v = 2 → LaidOk (opnD (nigA D q) q v) := fun v hv => h1.upd (q := q) (v := v) hv rfl (fun i hi => va_up_ne _ _ hi) rfl
  unfold niD
  split
  · split
    · exact ho 1 (by decide)
    · split
      · exact ho 4 (by decide)
      · exact h1
  · exact h
section MNI
variable {p : Program} {l : Launch} {e : Env} {s : State} {m : MethodId} {args : Array Value} {below : List Frame} {meth : Method} {c : Code} {w : Wd} {S : St}
theorem l_niN (B : Bd p s m args meth c cX12_drive 4 (wsOf yX12_drive cX12_drive 4 (some .int)) RX12 w (some .int) "drive") {Q : State → Prop} {m0 s0 ah off x : Nat} {A : Nat → Nat} {α D0 : Ab} {cn : Int32} (hA : AIw α) (hC : AIc α)
    (hx : ∀ S', MD m0 s0 ah A α off x (niN D0 (nP α)) S' → LaidOk (niN D0 (nP α)) → K p l e rX12_drive s m args below meth c 4 w 0 0 Q S' 309 [(0, .ref x), (1, .int cn)] []) :
    ∀ d q, q + d = nP α → ∀ S, MD m0 s0 ah A α off x (niN D0 q) S → LaidOk (niN D0 q) → K p l e rX12_drive s m args below meth c 4 w 0 0 Q S 174 [(0, .ref x), (1, .int cn), (2, .int (nI q))] [] := by
  have n30 := hC.2.2.2.2
  intro d
  induction d with
  | zero =>
    intro q hq S h hL
    have hq : q = nP α := by omega
    subst hq
    have e9 : gI S 913 m0 = nI (nP α) := (h.stS 913 (by decide) (by decide) rfl).trans ((congrFun (h.2.2 913 (by decide) (by decide)) 0).trans hC.2.2.2.1)
    exact bX12_drive_174 B h.knd.1 h.knd.2.1 h.knd.2.2 (fun _ => hx S h hL) (fun c => absurd (by rw [e9]; exact Int32.le_refl _) c)
  | succ d ih =>
    intro q hq S h hL
    have hql : q < nP α := by omega
    have q30 : q < 30 := by omega
    have e9 : gI S 913 m0 = nI (nP α) := (h.stS 913 (by decide) (by decide) rfl).trans ((congrFun (h.2.2 913 (by decide) (by decide)) 0).trans hC.2.2.2.1)
    have go := ih (q + 1) (by omega)
    have eN : niN D0 (q + 1) = niD (niN D0 q) q := rfl
    rw [eN] at go
    have hL2 := LaidOk_ni (q := q) hL
    revert go hL2 hL h
    generalize niN D0 q = D
    intro h hL go hL2
    obtain ⟨k1, k2, k3⟩ := h.knd
    have hAD := hA.D h.2.2
    have eq : (nI q).toNatClampNeg = q := nI_clamp (by omega)
    have inq : ∀ {N}, N = 30 → vp_in (nI q) N := fun e => by rw [e]; exact vp_in_nI q30 (by decide)
    obtain ⟨a1, a2, a3, a4⟩ := h.ar 834 (by decide) (by decide) (by decide)
    have e834 : rI S (A (834 + off)) (nI q).toNatClampNeg = D 834 q := by rw [a4, eq]
    have next : ∀ S', MD m0 s0 ah A α off x (niD D q) S' → K p l e rX12_drive s m args below meth c 4 w 0 0 Q S' 303 [(0, .ref x), (1, .int cn), (2, .int (nI q))] [] := fun S' h' => bX12_drive_303 B (by rw [nI_1]; exact go S' h' hL2)
    refine bX12_drive_174 B k1 k2 k3 (fun c => absurd c (by rw [e9]; exact nI_ge hql (by omega))) (fun _ => ?_)
    refine bX12_drive_185 B k1 a1 a2 (inq a3) (fun c => ?_) (fun c => ?_)
    · rw [e834] at c
      obtain ⟨⟨k, hk4, ek⟩, b, hb3, eb⟩ := hL q q30 c
      have ekc : cl (D 836 q) = k := by rw [ek]; exact cl_nI (by omega)
      have ebc : cl (D 837 q) = b := by rw [eb]; exact cl_nI (by omega)
      have eni : niD D q = if dist (D 901 (cl (D 916 q))) (D 902 (cl (D 916 q))) (D 907 k) (D 908 k) ≤ 10 then opnD (nigA D q) q 1 else if (nigA D q) 838 q = 3 then opnD (nigA D q) q 4 else nigA D q := by
        unfold niD; rw [if_pos c, ekc]
      obtain ⟨b1, b2, b3, b4⟩ := h.ar 838 (by decide) (by decide) (by decide)
      refine bX12_drive_198 B k1 b1 b2 (inq b3) ?_
      rw [b4, eq]
      have h1 : MD m0 s0 ah A α off x (nigA D q) _ := h.setA (F := 838) (by decide) (by decide) (by decide) (va_up (D 838) q (D 838 q + 1))
      have hne : ∀ F, F ≠ 838 → nigA D q F = D F := fun F hF => aset_ne hF
      have hop : ∀ v, ConV l yX12_open (wsOf yX12_open cX12_open 3 none) rX12_open w (sRI S (A (838 + off)) (va_up (D 838) q (D 838 q + 1))) [.ref x, .int (nI q), .int v] (MD m0 s0 ah A α off x (opnD (nigA D q) q v)) := by
        intro v
        have := c_openD (l := l) (w := w) (v := v) h1 q30 ((congrFun (hne 836 (by decide)) q).trans ek) hk4 ((congrFun (hne 837 (by decide)) q).trans eb) hb3
        unfold opnD
        rw [hne 836 (by decide), hne 837 (by decide), ekc, ebc]
        rw [hne 836 (by decide)] at this
        exact this
      obtain ⟨e0, hb⟩ := (hAD.1.2.2.2.2.2 q q30).1.nI
      have h16 : cl (D 916 q) < 16 := by show (D 916 q).toNatClampNeg < 16; omega
      obtain ⟨p1, p2, p3, p4⟩ := h1.st 916 (by decide) (by decide) (by decide)
      obtain ⟨r1, r2, r3, r4⟩ := h1.st 901 (by decide) (by decide) (by decide)
      obtain ⟨t1, t2, t3, t4⟩ := h1.st 902 (by decide) (by decide) (by decide)
      obtain ⟨u1, u2, u3, u4⟩ := h1.st 907 (by decide) (by decide) (by decide)
      obtain ⟨v1, v2, v3, v4⟩ := h1.st 908 (by decide) (by decide) (by decide)
      obtain ⟨y1, y2, y3, y4⟩ := h1.ar 836 (by decide) (by decide) (by decide)
      obtain ⟨z1, z2, z3, z4⟩ := h1.ar 838 (by decide) (by decide) (by decide)
      have e916 : rI (sRI S (A (838 + off)) (va_up (D 838) q (D 838 q + 1))) (A 916) (nI q).toNatClampNeg = nI (cl (D 916 q)) := by rw [p4, eq, hne 916 (by decide)]; exact e0
      have e836 : rI (sRI S (A (838 + off)) (va_up (D 838) q (D 838 q + 1))) (A (836 + off)) (nI q).toNatClampNeg = nI k := by rw [y4, eq, hne 836 (by decide)]; exact ek
      have ehc : (nI (cl (D 916 q))).toNatClampNeg = cl (D 916 q) := nI_clamp (by omega)
      have ekk : (nI k).toNatClampNeg = k := nI_clamp (by omega)
      obtain ⟨j1, j2, j3⟩ := h1.knd
      refine bX12_drive_208 B j1 j2 j3 r1 j2 j3 p1 p2 (inq p3) r2 (by rw [e916, r3]; exact vp_in_nI h16 (by decide)) j2 j3 t1 j2 j3 p1 p2 (inq p3) t2 (by rw [e916, t3]; exact vp_in_nI h16 (by decide)) j2 j3 u1 y1 y2 (inq y3) u2 (by rw [e836, u3]; exact vp_in_nI hk4 (by decide)) j2 j3 v1 y1 y2 (inq y3) v2 (by rw [e836, v3]; exact vp_in_nI hk4 (by decide)) c_mapart (fun r S' hq1 => ?_)
      obtain ⟨rfl, rfl⟩ := hq1
      rw [e916, e836, ehc, ekk, r4, t4, u4, v4, hne 901 (by decide), hne 902 (by decide), hne 907 (by decide), hne 908 (by decide)]
      refine bX12_drive_273 B (fun c2 => ?_) (fun c2 => ?_)
      · rw [if_neg (Int32.not_le.mpr c2)] at eni
        refine bX12_drive_287 B j1 z1 z2 (inq z3) (fun c3 => ?_) (fun c3 => ?_)
        · rw [z4, eq] at c3
          rw [if_neg c3] at eni
          exact next _ (by rw [eni]; exact h1)
        · rw [z4, eq] at c3
          rw [if_pos c3] at eni
          exact bX12_drive_297 B (hop 4) j1 (fun S' h' => next S' (by rw [eni]; exact h'))
      · rw [if_pos (Int32.not_lt.mp c2)] at eni
        exact bX12_drive_278 B (hop 1) j1 (fun S' h' => bX12_drive_284 B (next S' (by rw [eni]; exact h')))
    · rw [e834] at c
      refine bX12_drive_195 B (next S ?_)
      unfold niD
      rw [if_neg c]
      exact h
end MNI
section MNJ
variable {l : Launch} {w : Wd} {S : St} {m0 s0 ah off x : Nat} {A : Nat → Nat} {α D : Ab}
theorem c_driveD (h : MD m0 s0 ah A α off x D S) (hA : AIw α) (hC : AIc α) (hR : RowsOk D) (hL : LaidOk D) : ConI l yX12_drive (wsOf yX12_drive cX12_drive 4 (some .int)) rX12_drive w S [.ref x] (fun r S' => r = (driveD D).1 ∧ MD m0 s0 ah A α off x (driveD D).2 S') := by
  refine con_I (by decide +kernel) rfl (Nat.le_of_ble_eq_true rfl) (fun p e s m args below meth c B => ?_)
  have nv : nV D = nV α := by unfold nV; rw [h.2.2 909 (by decide) (by decide)]
  have np : nP D = nP α := by unfold nP; rw [h.2.2 913 (by decide) (by decide)]
  have h0 := h.setS (F := 833) (by decide) (by decide) rfl 0
  refine bX12_drive_0 B h.knd.1 (l_drV B hA hC hR h.2.2 (fun S2 h2 hL2 => ?_) (nV α) 0 (by omega) _ h0 (hL.of rfl rfl rfl) (fun _ _ => rfl) rfl)
  refine bX12_drive_172 B (l_niN (D0 := (drV D (nV α)).2) B hA hC (fun S3 h3 hL3 => ?_) (nP α) 0 (by omega) S2 h2 hL2)
  refine bX12_drive_309 B h3.knd.1 ⟨?_, ?_⟩
  · unfold driveD; rw [nv]
  · unfold driveD
    rw [nv, np, h3.sc 832 (by decide) (by decide) rfl]
    exact h3.setS (F := 832) (by decide) (by decide) rfl _
end MNJ
