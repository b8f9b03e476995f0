section MQ1
variable {l : Launch} {w : Wd} {S : St} {m0 s0 ah : Nat} {A : Nat → Nat}
def opAdds (α : Ab) (a b c : Int32) : Out :=
  if isIx a (nP α) ∧ isIx b (nV α) ∧ isIx c (mny α (cl b) + 1) then (0, mv α (cl a) (cl b) (cl c), α) else (1, 0, α)
theorem c_adds {α : Ab} {ia ib ic : Int32} (h : MR S m0 s0 ah A α) (hA : AI1 α) : ConI l yX13_adds (wsOf yX13_adds cX13_adds 4 (some .int)) rX13_adds w S [.ref m0, .int ia, .int ib, .int ic] (PM m0 s0 ah A (opAdds α ia ib ic)) := by
  refine con_I (by decide +kernel) rfl (Nat.le_of_ble_eq_true rfl) (fun p e s m args below meth c B => ?_)
  have h1 : MR (sI S 896 m0 0) m0 s0 ah A (au α 896 0 0) := h.setS (F := 896) (by decide) 0
  have f1 : FrM α (au α 896 0 0) := FrM.th
  have hA1 := hA.congr f1
  have bad : ∀ {S1 : St} {β : Ab}, MR S1 m0 s0 ah A β → FrM α β → ¬ (isIx ia (nP α) ∧ isIx ib (nV α) ∧ isIx ic (mny α (cl ib) + 1)) → K p l e rX13_adds s m args below meth c 4 w 0 0 (MQ below (va_Qi (PM m0 s0 ah A (opAdds α ia ib ic)) (fun S' t => Hd w S' t.heap) (wA w)) args s rX13_adds.cells rX13_adds.slots (wA w)) S1 38 [(0, .ref m0)] [] := by
    intro S1 β hb fb hn
    refine bX13_adds_38 B (c_no hb) hb.1.1 (fun r S' hq => bX13_adds_43 B ?_)
    unfold opAdds
    rw [if_neg hn]
    exact hq.back fb
  refine bX13_adds_0 B h.1.1 (c_isParcel h1 hA1.2.1) (fun r S' hq => ?_)
  obtain ⟨rfl, hq⟩ := hq
  rw [nP_congr f1] at hq
  rcases hq with ⟨rfl, ha⟩ | ⟨rfl, ha⟩
  rotate_left
  · exact bX13_adds_10 B (fun _ => bad h1 f1 (fun z => ha z.1)) (fun z => absurd rfl z)
  refine bX13_adds_10 B (fun z => absurd z ne1) (fun _ => ?_)
  refine bX13_adds_13 B (c_isVan h1 hA1.2.1) h1.1.1 (fun r S' hq => ?_)
  obtain ⟨rfl, hq⟩ := hq
  rw [nV_congr f1] at hq
  rcases hq with ⟨rfl, hb⟩ | ⟨rfl, hb⟩
  rotate_left
  · exact bX13_adds_18 B (fun _ => bad h1 f1 (fun z => hb z.2.1)) (fun z => absurd rfl z)
  refine bX13_adds_18 B (fun z => absurd z ne1) (fun _ => ?_)
  obtain ⟨q, hq, rfl⟩ := ha.nI
  obtain ⟨v, hv, rfl⟩ := hb.nI
  have q30 := hA.p30 hq
  have v4 := hA.v4 hv
  have m12 := hA.m12 v4
  obtain ⟨⟨g1, g2, g3, g4, g5, g6, g7, g8⟩, -⟩ := id h1
  obtain ⟨a1, a2, a3, a4⟩ := h1.ar 840 (by decide)
  have em : rI (sI S 896 m0 0) (A 840) (nI v).toNatClampNeg = nI (mny α v) := by rw [a4, nI_clamp (by omega), f1 840 rfl]; exact (hA.2.2.1 v v4).1
  refine bX13_adds_21 B g1 g5 g2 a1 a2 (by rw [a3]; exact vp_in_nI v4 (by decide)) c_isIn (fun r S' hq1 => ?_)
  obtain ⟨rfl, hq1⟩ := hq1
  rw [em, isIn_ix (by omega)] at hq1
  have ev : cl (nI v) = v := cl_nI (by omega)
  have eq : cl (nI q) = q := cl_nI (by omega)
  rcases hq1 with ⟨rfl, hc⟩ | ⟨rfl, hc⟩
  rotate_left
  · exact bX13_adds_35 B (fun z => absurd rfl z) (fun _ => bad h1 f1 (fun z => hc (by have := z.2.2; rw [ev] at this; exact this)))
  refine bX13_adds_35 B (fun _ => ?_) (fun z => absurd z ne1)
  obtain ⟨k, hk, rfl⟩ := hc.nI
  have ek : cl (nI k) = k := cl_nI (by omega)
  have eo : opAdds α (nI q) (nI v) (nI k) = (0, mv α q v k, α) := by
    unfold opAdds
    rw [ev, eq, ek, if_pos ⟨ha, hb, hc⟩]
  rw [eo]
  refine bX13_adds_44 B (c_mvmore h1 hA1 (by rw [nV_congr f1]; exact hv) (by rw [mny_congr f1]; omega) q30) g1 (fun r S2 hq2 => ?_)
  obtain ⟨rfl, γ, k2, k3, k4⟩ := hq2
  exact bX13_adds_51 B (PM.rf k2 ((congrFun (k3 896 rfl) 0).trans au_same) (f1.tr k3.m) (mv_congr f1 ..))
def opCheapest (α : Ab) (a : Int32) : Out := if isIx a (nP α) then (0, if Loose α (cl a) then (bst α (cl a)).2 else -1, α) else (1, 0, α)
theorem c_route {α : Ab} {ia ib : Int32} (h : MR S m0 s0 ah A α) (hA : AI1 α) : ConI l yX13_route (wsOf yX13_route cX13_route 3 (some .int)) rX13_route w S [.ref m0, .int ia, .int ib] (PM m0 s0 ah A (if isIx ia (nV α) ∧ isIx ib (mny α (cl ia)) then (0, α 841 (12 * cl ia + cl ib), α) else (1, 0, α))) := by
  refine con_I (by decide +kernel) rfl (Nat.le_of_ble_eq_true rfl) (fun p e s m args below meth c B => ?_)
  have h1 : MR (sI S 896 m0 0) m0 s0 ah A (au α 896 0 0) := h.setS (F := 896) (by decide) 0
  have f1 : FrM α (au α 896 0 0) := FrM.th
  have hA1 := hA.congr f1
  refine bX13_route_0 B h.1.1 (c_isVan h1 hA1.2.1) (fun r S' hq => ?_)
  obtain ⟨rfl, hq⟩ := hq
  rw [nV_congr f1] at hq
  rcases hq with ⟨rfl, ha⟩ | ⟨rfl, ha⟩
  rotate_left
  · rw [if_neg (fun z => ha z.1)]
    exact bX13_route_10 B (fun _ => bX13_route_49 B (c_no h1) h1.1.1 (fun r S' hq => bX13_route_54 B (hq.back f1))) (fun z => absurd rfl z)
  refine bX13_route_10 B (fun z => absurd z ne1) (fun _ => ?_)
  obtain ⟨v, hv, rfl⟩ := ha.nI
  have v4 := hA.v4 hv
  have m12 := hA.m12 v4
  have ev : cl (nI v) = v := cl_nI (by omega)
  rw [ev]
  obtain ⟨⟨g1, g2, g3, g4, g5, g6, g7, g8⟩, -⟩ := id h1
  obtain ⟨a1, a2, a3, a4⟩ := h1.ar 840 (by decide)
  obtain ⟨b1, b2, b3, b4⟩ := h1.ar 841 (by decide)
  have em : rI (sI S 896 m0 0) (A 840) (nI v).toNatClampNeg = nI (mny α v) := by rw [a4, nI_clamp (by omega), f1 840 rfl]; exact (hA.2.2.1 v v4).1
  refine bX13_route_13 B g1 g5 g2 a1 a2 (by rw [a3]; exact vp_in_nI v4 (by decide)) c_isIn (fun r S' hq1 => ?_)
  obtain ⟨rfl, hq1⟩ := hq1
  rw [em, ix_iff (by omega)] at hq1
  rcases hq1 with ⟨rfl, hc⟩ | ⟨rfl, hc⟩
  rotate_left
  · rw [if_neg (fun z => hc z.2)]
    exact bX13_route_29 B (fun _ => bX13_route_49 B (c_no h1) h1.1.1 (fun r S' hq => bX13_route_54 B (hq.back f1))) (fun z => absurd rfl z)
  refine bX13_route_29 B (fun z => absurd z ne1) (fun _ => ?_)
  obtain ⟨k, hk, rfl⟩ := (show isIx ib (mny α v) from hc).nI
  have ek : cl (nI k) = k := cl_nI (by omega)
  rw [if_pos ⟨ha, hc⟩, ek]
  have ei : ((12 : Int32) * nI v + nI k).toNatClampNeg = 12 * v + k := by rw [mul12, nI_add]; exact nI_clamp (by omega)
  refine bX13_route_32 B g1 g5 g2 b1 b2 (by rw [b3, mul12, nI_add]; exact vp_in_nI (show 12 * v + k < 48 by omega) (by decide)) (bX13_route_54 B (PM.rf h1 au_same f1 ?_))
  rw [b4, ei]
  rfl
def stopV (α : Ab) (v i what : Nat) : Int32 :=
  if what = 0 then nowW (α 897) (pdat α (rwf α v i)) (wk (α 897) (fun i => pdat α (rwf α v i)) (t00 (α 898 0) (α 899 0) (α 911 v)) i).1
  else if what = 1 then lateW (α 897) (pdat α (rwf α v i)) (wk (α 897) (fun i => pdat α (rwf α v i)) (t00 (α 898 0) (α 899 0) (α 911 v)) i).1
  else if what = 2 then ldk (kD (fun i => pdat α (rwf α v i))) (vD (fun i => pdat α (rwf α v i))) (l0L α (rwf α v) (mny α v)) (i + 1)
  else (α 903 (cl (α 916 (rwf α v i))) >>> (hr (nowW (α 897) (pdat α (rwf α v i)) (wk (α 897) (fun i => pdat α (rwf α v i)) (t00 (α 898 0) (α 899 0) (α 911 v)) i).1) &&& 31)) &&& 1
def opStop (α : Ab) (a b c : Int32) : Out := if isIx a (nV α) ∧ isIx b (mny α (cl a)) ∧ isIx c 4 then (0, stopV α (cl a) (cl b) (cl c), α) else (1, 0, α)
theorem c_stop {α : Ab} {ia ib ic : Int32} (h : MR S m0 s0 ah A α) (hA : AI1 α) : ConI l yX13_stop (wsOf yX13_stop cX13_stop 5 (some .int)) rX13_stop w S [.ref m0, .int ia, .int ib, .int ic] (PM m0 s0 ah A (opStop α ia ib ic)) := by
  refine con_I (by decide +kernel) rfl (Nat.le_of_ble_eq_true rfl) (fun p e s m args below meth c B => ?_)
  have h1 : MR (sI S 896 m0 0) m0 s0 ah A (au α 896 0 0) := h.setS (F := 896) (by decide) 0
  have f1 : FrM α (au α 896 0 0) := FrM.th
  have hA1 := hA.congr f1
  have bad : ∀ {S1 : St} {β : Ab}, MR S1 m0 s0 ah A β → FrM α β → ¬ (isIx ia (nV α) ∧ isIx ib (mny α (cl ia)) ∧ isIx ic 4) → K p l e rX13_stop s m args below meth c 5 w 0 0 (MQ below (va_Qi (PM m0 s0 ah A (opStop α ia ib ic)) (fun S' t => Hd w S' t.heap) (wA w)) args s rX13_stop.cells rX13_stop.slots (wA w)) S1 41 [(0, .ref m0)] [] := by
    intro S1 β hb fb hn
    refine bX13_stop_41 B (c_no hb) hb.1.1 (fun r S' hq => bX13_stop_46 B ?_)
    unfold opStop
    rw [if_neg hn]
    exact hq.back fb
  refine bX13_stop_0 B h.1.1 (c_isVan h1 hA1.2.1) (fun r S' hq => ?_)
  obtain ⟨rfl, hq⟩ := hq
  rw [nV_congr f1] at hq
  rcases hq with ⟨rfl, ha⟩ | ⟨rfl, ha⟩
  rotate_left
  · exact bX13_stop_10 B (fun _ => bad h1 f1 (fun z => ha z.1)) (fun z => absurd rfl z)
  refine bX13_stop_10 B (fun z => absurd z ne1) (fun _ => ?_)
  obtain ⟨v, hv, rfl⟩ := ha.nI
  have v4 := hA.v4 hv
  have m12 := hA.m12 v4
  have ev : cl (nI v) = v := cl_nI (by omega)
  obtain ⟨⟨g1, g2, g3, g4, g5, g6, g7, g8⟩, -⟩ := id h1
  obtain ⟨a1, a2, a3, a4⟩ := h1.ar 840 (by decide)
  have em : rI (sI S 896 m0 0) (A 840) (nI v).toNatClampNeg = nI (mny α v) := by rw [a4, nI_clamp (by omega), f1 840 rfl]; exact (hA.2.2.1 v v4).1
  refine bX13_stop_13 B g1 g5 g2 a1 a2 (by rw [a3]; exact vp_in_nI v4 (by decide)) c_isIn (fun r S' hq1 => ?_)
  obtain ⟨rfl, hq1⟩ := hq1
  rw [em, ix_iff (by omega)] at hq1
  rcases hq1 with ⟨rfl, hc⟩ | ⟨rfl, hc⟩
  rotate_left
  · exact bX13_stop_29 B (fun _ => bad h1 f1 (fun z => hc (by have := z.2.1; rw [ev] at this; exact this))) (fun z => absurd rfl z)
  refine bX13_stop_29 B (fun z => absurd z ne1) (fun _ => ?_)
  obtain ⟨k, hk, rfl⟩ := (show isIx ib (mny α v) from hc).nI
  have ek : cl (nI k) = k := cl_nI (by omega)
  refine bX13_stop_32 B c_isIn (fun r S' hq1 => ?_)
  obtain ⟨rfl, hq1⟩ := hq1
  rw [show (3 : Int32) = nI 3 from rfl, isIn_ix (n := 3) (by omega)] at hq1
  rcases hq1 with ⟨rfl, hd⟩ | ⟨rfl, hd⟩
  rotate_left
  · exact bX13_stop_38 B (fun z => absurd rfl z) (fun _ => bad h1 f1 (fun z => hd z.2.2))
  refine bX13_stop_38 B (fun _ => ?_) (fun z => absurd z ne1)
  obtain ⟨u, hu, rfl⟩ := hd.nI
  have eu : cl (nI u) = u := cl_nI (by omega)
  have eo : opStop α (nI v) (nI k) (nI u) = (0, stopV α v k u, α) := by
    unfold opStop
    rw [ev, ek, eu, if_pos ⟨ha, hc, hd⟩]
  rw [eo]
  have htok := hA.1.tok (L := rwf α v) v4 (show mny α v ≤ 13 by omega) (fun i hi => hA.rw30 v4 hi)
  refine bX13_stop_47 B (c_routeCost h1 (hA1.rv v4) (hA1.1.tok v4 (by rw [mny_congr f1]; omega) (fun i hi => hA1.rw30 v4 hi))) g1 (fun r S2 hq2 => ?_)
  rw [mny_congr f1, show rwf (au α 896 0 0) v = rwf α v from funext fun i => rwf_congr f1 v i] at hq2
  obtain ⟨-, γ, k2, k3, k4, k5⟩ := hq2
  have f2 := f1.tr k3.m
  have cv := CV_congr f1 k5
  obtain ⟨n1, n2, n3⟩ := cv.2.2.2.2.2 k hk
  obtain ⟨l1, l2, l3, l4⟩ := k2.ar 921 (by decide)
  obtain ⟨o1, o2, o3, o4⟩ := k2.ar 903 (by decide)
  obtain ⟨p1, p2, p3, p4⟩ := k2.ar 916 (by decide)
  obtain ⟨q1, q2, q3, q4⟩ := k2.ar 923 (by decide)
  obtain ⟨r1, r2, r3, r4⟩ := k2.ar 924 (by decide)
  obtain ⟨t1, t2, t3, t4⟩ := k2.ar 925 (by decide)
  have ekk : (nI k).toNatClampNeg = k := nI_clamp (by omega)
  have r30 := hA.rw30 v4 hk
  have eline : rI S2 (A 921) (nI k).toNatClampNeg = nI (rwf α v k) := by rw [l4, ekk]; exact (k4.2.2 k hk).1
  obtain ⟨eh, hh16⟩ := (hA.1.2.2.2.2.2 _ r30).1.nI
  have ehome : rI S2 (A 916) (rI S2 (A 921) (nI k).toNatClampNeg).toNatClampNeg = nI (cl (α 916 (rwf α v k))) := by rw [eline, p4, nI_clamp (by omega), f2 916 rfl]; exact eh
  have emin : rI S2 (A 923) (nI k).toNatClampNeg = nowW (α 897) (pdat α (rwf α v k)) (wk (α 897) (fun i => pdat α (rwf α v i)) (t00 (α 898 0) (α 899 0) (α 911 v)) k).1 := by rw [q4, ekk]; exact n1
  have hin : vp_in (nI k) 13 := vp_in_nI (by omega) (by decide)
  have PMk : ∀ r, r = stopV α v k u → PM m0 s0 ah A (0, stopV α v k u, α) r S2 := fun r hr => PM.rf k2 ((congrFun (k3 896 rfl) 0).trans au_same) f2 hr
  refine bX13_stop_52 B k2.1.1 o1 p1 l1 l2 (by rw [l3]; exact hin) p2 (by rw [eline, p3]; exact vp_in_nI r30 (by decide)) o2 (by rw [ehome, o3]; exact vp_in_nI (show (α 916 (rwf α v k)).toNatClampNeg < 16 by omega) (by decide)) q1 q2 (by rw [q3]; exact hin) (fun cc => ?_) (fun cc => ?_)
  · rw [show (0 : Int32) = nI 0 from rfl, nI_eq (by omega) (by omega)] at cc
    refine bX13_stop_99 B (fun c2 => ?_) (fun c2 => ?_)
    · rw [show (1 : Int32) = nI 1 from rfl, nI_eq (by omega) (by omega)] at c2
      refine bX13_stop_113 B (fun c3 => ?_) (fun c3 => ?_)
      · rw [show (2 : Int32) = nI 2 from rfl, nI_eq (by omega) (by omega)] at c3
        refine bX13_stop_127 B (bX13_stop_129 B (PMk _ ?_))
        rw [ehome, emin, o4, nI_clamp (show (α 916 (rwf α v k)).toNatClampNeg < 2 ^ 31 by omega), f2 903 rfl]
        unfold stopV
        rw [if_neg cc, if_neg c2, if_neg c3]
        rfl
      · rw [show (2 : Int32) = nI 2 from rfl, nI_eq (by omega) (by omega)] at c3
        refine bX13_stop_118 B k2.1.1 t1 t2 (by rw [t3]; exact hin) (bX13_stop_129 B (PMk _ ?_))
        rw [t4, ekk, n3]
        unfold stopV
        rw [if_neg cc, if_neg c2, if_pos c3]
    · rw [show (1 : Int32) = nI 1 from rfl, nI_eq (by omega) (by omega)] at c2
      refine bX13_stop_104 B k2.1.1 r1 r2 (by rw [r3]; exact hin) (bX13_stop_129 B (PMk _ ?_))
      rw [r4, ekk, n2]
      unfold stopV
      rw [if_neg cc, if_pos c2]
  · rw [show (0 : Int32) = nI 0 from rfl, nI_eq (by omega) (by omega)] at cc
    refine bX13_stop_90 B k2.1.1 q1 q2 (by rw [q3]; exact hin) (bX13_stop_129 B (PMk _ ?_))
    rw [emin]
    unfold stopV
    rw [if_pos cc]
end MQ1
