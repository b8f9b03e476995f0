def RowsOk (D : Ab) : Prop := (∀ v, v < 4 → D 840 v = nI (mny D v) ∧ mny D v ≤ 12) ∧ ∀ v i, v < 4 → i < mny D v → D 841 (12 * v + i) = nI (rwf D v i) ∧ rwf D v i < 30
def RowOk (D : Ab) (v : Nat) : Prop := (D 840 v = nI (mny D v) ∧ mny D v ≤ 12) ∧ ∀ i, i < mny D v → D 841 (12 * v + i) = nI (rwf D v i) ∧ rwf D v i < 30
theorem RowsOk.row {D : Ab} (h : RowsOk D) {v : Nat} (hv : v < 4) : RowOk D v := ⟨h.1 v hv, fun i hi => h.2 v i hv hi⟩
theorem le60 {D : Ab} {v : Nat} (hA : AIw D) (hv : v < 4) {b : Int} (ht : trOk (trD D) b) (hc : ¬ D 912 v + 60 < D 842 0) : trOk (trD D) 1500 := by
  obtain ⟨h1, h2, h3, h4⟩ := ht
  obtain ⟨e1, e2⟩ := (hA.1.2.2.2.2.1 v hv).2
  have e60 : (60 : Int32).toInt = 60 := by decide
  have c := Int32.le_iff_toInt_le.mp (Int32.not_lt.mp hc)
  rw [add_i (by omega) (by omega), e60] at c
  exact ⟨h1, h2, h3, by have : (D 842 0).toInt ≤ 1500 := by omega
                        exact this⟩
section MDR
variable {p : Program} {l : Launch} {e : Env} {s : State} {m : MethodId} {args : Array Value} {below : List Frame} {meth : Method} {c : Code} {w : Wd} {S : St}
theorem l_stV (B : Bd p s m args meth c cX12_drive 4 (wsOf yX12_drive cX12_drive 4 (some .int)) RX12 w (some .int) "drive") {Q : State → Prop} {m0 s0 ah off x v : Nat} {A : Nat → Nat} {α D0 : Ab} {r0 : Int32 × Ab} (hA : AIw α) (hv : v < 4) (hR : RowOk D0 v)
    (hx : ∀ S' c' D', MD m0 s0 ah A α off x D' S' → r0 = (c', D') → trOk (trD D') 4086 → LaidOk D' → (∀ F, F = 832 ∨ F = 833 ∨ F = 840 ∨ F = 841 → D' F = D0 F) → K p l e rX12_drive s m args below meth c 4 w 0 0 Q S' 126 [(0, .ref x), (1, .int c'), (2, .int (nI v))] []) :
    ∀ d k, k + d = mny D0 v → ∀ S (cn : Int32) D, MD m0 s0 ah A α off x D S → trOk (trD D) 4086 → LaidOk D → (∀ F, F = 832 ∨ F = 833 ∨ F = 840 ∨ F = 841 → D F = D0 F) → r0 = stV v d k cn D → K p l e rX12_drive s m args below meth c 4 w 0 0 Q S 65 [(0, .ref x), (1, .int cn), (2, .int (nI v)), (3, .int (nI k))] [] := by
  have m12 := hR.1.2
  intro d
  induction d with
  | zero =>
    intro k hk S cn D h ht hL hF hr
    obtain ⟨a1, a2, a3, a4⟩ := h.ar 840 (by decide) (by decide) (by decide)
    have em : rI S (A (840 + off)) (nI v).toNatClampNeg = nI (mny D0 v) := by rw [a4, nI_clamp (by omega), hF 840 (by omega)]; exact hR.1.1
    exact bX12_drive_65 B h.knd.1 a1 a2 (by rw [a3]; exact vp_in_nI hv (by decide)) (fun _ => hx S cn D h hr ht hL hF) (fun c => absurd (by rw [em, show k = mny D0 v by omega]; exact Int32.le_refl _) c)
  | succ d ih =>
    intro k hk S cn D h ht hL hF hr
    have hkm : k < mny D0 v := by omega
    have hAD := hA.D h.2.2
    obtain ⟨a1, a2, a3, a4⟩ := h.ar 840 (by decide) (by decide) (by decide)
    obtain ⟨b1, b2, b3, b4⟩ := h.ar 841 (by decide) (by decide) (by decide)
    obtain ⟨c1, c2, c3, c4⟩ := h.st 912 (by decide) (by decide) (by decide)
    have ev : (nI v).toNatClampNeg = v := nI_clamp (by omega)
    have em : rI S (A (840 + off)) (nI v).toNatClampNeg = nI (mny D0 v) := by rw [a4, ev, hF 840 (by omega)]; exact hR.1.1
    have e842 := h.sc 842 (by decide) (by decide) rfl
    have e912 : rI S (A 912) (nI v).toNatClampNeg = D 912 v := by rw [c4, ev]
    have es : stV v (d + 1) k cn D = if D 912 v + 60 < D 842 0 then (cn, D) else stV v d (k + 1) (cn + bI (doneD D (rwf D v k)).1) (doneD D (rwf D v k)).2 := rfl
    refine bX12_drive_65 B h.knd.1 a1 a2 (by rw [a3]; exact vp_in_nI hv (by decide)) (fun c => absurd c (by rw [em]; exact nI_ge hkm (by omega))) (fun _ => ?_)
    refine bX12_drive_75 B h.knd.1 h.knd.2.1 h.knd.2.2 c1 c2 (by rw [c3]; exact vp_in_nI hv (by decide)) (fun c => ?_) (fun c => ?_)
    · rw [e912, e842] at c
      rw [es, if_pos c] at hr
      exact hx S cn D h hr ht hL hF
    · rw [e912, e842] at c
      rw [es, if_neg c] at hr
      obtain ⟨r1, r2⟩ := hR.2 k hkm
      have ei : ((12 : Int32) * nI v + nI k).toNatClampNeg = 12 * v + k := by rw [mul12, nI_add]; exact nI_clamp (by omega)
      have erw : rwf D v k = rwf D0 v k := by unfold rwf; rw [hF 841 (by omega)]
      have er : rI S (A (841 + off)) ((12 : Int32) * nI v + nI k).toNatClampNeg = nI (rwf D v k) := by rw [ei, b4, hF 841 (by omega), r1, erw]
      rw [← erw] at r2
      have t15 := le60 hAD hv ht c
      have hd := c_isDoneD (l := l) (w := w) h hA r2 t15
      rw [← er] at hd
      refine bX12_drive_94 B h.knd.1 b1 b2 (by rw [b3, mul12, nI_add]; exact vp_in_nI (show 12 * v + k < 48 by omega) (by decide)) hd (fun r S2 hq2 => ?_)
      obtain ⟨rfl, h2⟩ := hq2
      have go := ih (k + 1) (by omega) S2 (cn + bI (doneD D (rwf D v k)).1) _ h2 (doneD_time hAD r2 t15) (LaidOk_done hL hAD r2) (fun F hf => by rw [doneD_40 hf]; exact hF F hf) hr
      rw [← nI_1] at go
      cases hb : (doneD D (rwf D v k)).1 with
      | true =>
        rw [hb] at go
        exact bX12_drive_110 B (fun c => absurd c ne1) (fun _ => bX12_drive_113 B (bX12_drive_118 B go))
      | false =>
        rw [hb] at go
        exact bX12_drive_110 B (fun _ => bX12_drive_117 B (bX12_drive_118 B go)) (fun c => absurd rfl c)
theorem drV_succ (D0 : Ab) (v : Nat) : drV D0 (v + 1) = ((stV v (mny D0 v) 0 (drV D0 v).1 (begV (drV D0 v).2 v)).1, endV (stV v (mny D0 v) 0 (drV D0 v).1 (begV (drV D0 v).2 v)).2 v) := rfl
theorem l_drV (B : Bd p s m args meth c cX12_drive 4 (wsOf yX12_drive cX12_drive 4 (some .int)) RX12 w (some .int) "drive") {Q : State → Prop} {m0 s0 ah off x : Nat} {A : Nat → Nat} {α D0 : Ab} (hA : AIw α) (hC : AIc α) (hR : RowsOk D0) (hD0 : FrD α D0)
    (hx : ∀ S', MD m0 s0 ah A α off x (drV D0 (nV α)).2 S' → LaidOk (drV D0 (nV α)).2 → K p l e rX12_drive s m args below meth c 4 w 0 0 Q S' 172 [(0, .ref x), (1, .int (drV D0 (nV α)).1)] []) :
    ∀ d v, v + d = nV α → ∀ S, MD m0 s0 ah A α off x (drV D0 v).2 S → LaidOk (drV D0 v).2 → (∀ v', v ≤ v' → (drV D0 v).2 840 v' = D0 840 v') → (drV D0 v).2 841 = D0 841 → K p l e rX12_drive s m args below meth c 4 w 0 0 Q S 9 [(0, .ref x), (1, .int (drV D0 v).1), (2, .int (nI v))] [] := by
  have n4 := hC.2.2.1.2
  intro d
  induction d with
  | zero =>
    intro v hv S h hL h40 h41
    have hv : v = nV α := by omega
    subst hv
    have e9 : gI S 909 m0 = nI (nV α) := (h.stS 909 (by decide) (by decide) rfl).trans ((congrFun (h.2.2 909 (by decide) (by decide)) 0).trans hC.2.2.1.1)
    exact bX12_drive_9 B h.knd.1 h.knd.2.1 h.knd.2.2 (fun _ => hx S h hL) (fun c => absurd (by rw [e9]; exact Int32.le_refl _) c)
  | succ d ih =>
    intro v hv S h hL h40 h41
    have hvl : v < nV α := by omega
    have v4 : v < 4 := by omega
    have e9 : gI S 909 m0 = nI (nV α) := (h.stS 909 (by decide) (by decide) rfl).trans ((congrFun (h.2.2 909 (by decide) (by decide)) 0).trans hC.2.2.1.1)
    have hAD := hA.D h.2.2
    obtain ⟨k1, k2, k3⟩ := h.knd
    obtain ⟨c1, c2, c3, c4⟩ := h.st 911 (by decide) (by decide) (by decide)
    have ev : (nI v).toNatClampNeg = v := nI_clamp (by omega)
    refine bX12_drive_9 B k1 k2 k3 (fun c => absurd c (by rw [e9]; exact nI_ge hvl (by omega))) (fun _ => ?_)
    refine bX12_drive_20 B k1 k2 k3 c1 c2 (by rw [c3]; exact vp_in_nI v4 (by decide)) k2 k3 k2 k3 ?_
    rw [c4, ev, h.stS 898 (by decide) (by decide) rfl, h.stS 899 (by decide) (by decide) rfl]
    have hb : MD m0 s0 ah A α off x (begV (drV D0 v).2 v) _ := (((h.setS (F := 842) (by decide) (by decide) rfl ((drV D0 v).2 911 v)).setS (F := 843) (by decide) (by decide) rfl ((drV D0 v).2 911 v)).setS (F := 844) (by decide) (by decide) rfl ((drV D0 v).2 898 0)).setS (F := 845) (by decide) (by decide) rfl ((drV D0 v).2 899 0)
    have blo : ∀ F, F < 842 → begV (drV D0 v).2 v F = (drV D0 v).2 F := fun F hF => by unfold begV; rw [au_neF (by omega), au_neF (by omega), au_neF (by omega), au_neF (by omega)]
    have hbL : LaidOk (begV (drV D0 v).2 v) := hL.of (blo 834 (by omega)) (blo 836 (by omega)) (blo 837 (by omega))
    have hbt : trOk (trD (begV (drV D0 v).2 v)) 4086 := ⟨hAD.1.2.1, hAD.1.2.2.1, by
      have := (hAD.1.2.2.2.2.1 v v4).1
      exact ⟨this.1, by have h2 := this.2; show ((drV D0 v).2 911 v).toInt ≤ 4086; omega⟩⟩
    have em : mny (begV (drV D0 v).2 v) v = mny D0 v := by unfold mny; rw [blo 840 (by omega), h40 v (Nat.le_refl _)]
    have hrow : RowOk (begV (drV D0 v).2 v) v := by
      have r := hR.row v4
      have er : ∀ i, rwf (begV (drV D0 v).2 v) v i = rwf D0 v i := fun i => by unfold rwf; rw [blo 841 (by omega), h41]
      refine ⟨by rw [em, blo 840 (by omega), h40 v (Nat.le_refl _)]; exact r.1, fun i hi => ?_⟩
      rw [em] at hi
      rw [er, blo 841 (by omega), h41]; exact r.2 i hi
    refine l_stV (D0 := begV (drV D0 v).2 v) (r0 := stV v (mny D0 v) 0 (drV D0 v).1 (begV (drV D0 v).2 v)) B hA v4 hrow (fun S2 c' D' h2 hr ht2 hL2 hF2 => ?_) (mny D0 v) 0 (by rw [em]; omega) _ (drV D0 v).1 _ hb hbt hbL (fun _ _ => rfl) rfl
    have hAD2 := hA.D h2.2.2
    have es : drV D0 (v + 1) = (c', endV D' v) := by rw [drV_succ, hr]
    have hdep := c_workD (l := l) (w := w) (gx := D' 898 0) (gy := D' 899 0) h2 (hr_in ht2.2.2.1 rfl) ((ht2.2.2.okT (by omega)).h2 rfl)
    rw [← h2.stS 898 (by decide) (by decide) rfl, ← h2.stS 899 (by decide) (by decide) rfl] at hdep
    refine bX12_drive_126 B h2.knd.1 h2.knd.2.1 h2.knd.2.2 h2.knd.2.1 h2.knd.2.2 hdep (fun S3 h3 => ?_)
    rw [h2.stS 898 (by decide) (by decide) rfl, h2.stS 899 (by decide) (by decide) rfl] at h3
    obtain ⟨d1, d2, d3, d4⟩ := h3.ar 840 (by decide) (by decide) (by decide)
    refine bX12_drive_144 B h3.knd.1 d1 d2 (by rw [d3]; exact vp_in_nI v4 (by decide)) (bX12_drive_166 B ?_)
    rw [d4, ev, h3.sc 842 (by decide) (by decide) rfl, h3.sc 833 (by decide) (by decide) rfl, nI_1]
    have h4 := (h3.setS (F := 833) (by decide) (by decide) rfl (if (wkD D' (D' 898 0) (D' 899 0)) 833 0 < (wkD D' (D' 898 0) (D' 899 0)) 842 0 then (wkD D' (D' 898 0) (D' 899 0)) 842 0 else (wkD D' (D' 898 0) (D' 899 0)) 833 0)).setA (F := 840) (by decide) (by decide) (by decide) (va_up ((wkD D' (D' 898 0) (D' 899 0)) 840) v 0)
    have h4 : MD m0 s0 ah A α off x (endV D' v) _ := h4
    have elo : ∀ F, F < 842 → F ≠ 833 → F ≠ 840 → endV D' v F = D' F := fun F x1 x2 x3 => by unfold endV lateV; rw [aset_ne x3, au_neF x2, wkD_hi (by omega)]
    have e40 : endV D' v 840 = va_up (D' 840) v 0 := by unfold endV lateV; rw [aset_same, wkD_hi (by omega)]
    have go := ih (v + 1) (by omega)
    rw [es] at go
    refine go _ h4 (hL2.of (elo 834 (by omega) (by omega) (by omega)) (elo 836 (by omega) (by omega) (by omega)) (elo 837 (by omega) (by omega) (by omega))) (fun v' hv' => ?_) ?_
    · show endV D' v 840 v' = _
      rw [e40, va_up_ne _ _ (by omega), hF2 840 (by omega), blo 840 (by omega), h40 v' (by omega)]
    · show endV D' v 841 = _
      rw [elo 841 (by omega) (by omega) (by omega), hF2 841 (by omega), blo 841 (by omega), h41]
end MDR
