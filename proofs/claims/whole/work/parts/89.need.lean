section NEED2
variable {l : Launch} {w : Wd} {S : St}
theorem c_needRg (hf : l.stackTraces = false) {a lo hi : Int32} : ConXV l yX11_needRange (wsOf yX11_needRange cX11_needRange 3 none) rX11_needRange w S [.int a, .int lo, .int hi] (fun S' => S = S' ∧ inR a lo hi) (fun E S' => E = nIA ∧ S = S' ∧ ¬ inR a lo hi) := by
  refine conX_V (by decide +kernel) rfl (Nat.le_of_ble_eq_true rfl) (fun p e s m args below meth c B ht => ?_)
  refine bX11_needRange_0 B hf ht (fun c1 => bX11_needRange_10 B hf ht (Nat.le_of_ble_eq_true rfl) (Nat.le_of_ble_eq_true rfl) ⟨rfl, rfl, fun z => Int32.not_le.mpr c1 z.1⟩) (fun c1 => ?_)
  refine bX11_needRange_5 B hf ht (fun c2 => bX11_needRange_21 B hf ht (Nat.le_of_ble_eq_true rfl) (Nat.le_of_ble_eq_true rfl) ⟨rfl, Int32.not_lt.mp c1, c2⟩) (fun c2 => bX11_needRange_10 B hf ht (Nat.le_of_ble_eq_true rfl) (Nat.le_of_ble_eq_true rfl) ⟨rfl, rfl, fun z => c2 z.2⟩)
theorem c_needSp (hf : l.stackTraces = false) {a m : Int32} : ConXV l yX11_needSpace (wsOf yX11_needSpace cX11_needSpace 2 none) rX11_needSpace w S [.int a, .int m] (fun S' => S = S' ∧ a < m) (fun E S' => E = nIS ∧ S = S' ∧ ¬ a < m) := by
  refine conX_V (by decide +kernel) rfl (Nat.le_of_ble_eq_true rfl) (fun p e s m args below meth c B ht => ?_)
  exact bX11_needSpace_0 B hf ht (fun c => bX11_needSpace_16 B hf ht (Nat.le_of_ble_eq_true rfl) (Nat.le_of_ble_eq_true rfl) ⟨rfl, c⟩) (fun c => bX11_needSpace_5 B hf ht (Nat.le_of_ble_eq_true rfl) (Nat.le_of_ble_eq_true rfl) ⟨rfl, rfl, c⟩)
theorem c_needPl (hf : l.stackTraces = false) {a b : Int32} : ConXV l yX11_needPlace (wsOf yX11_needPlace cX11_needPlace 2 none) rX11_needPlace w S [.int a, .int b] (fun S' => S = S' ∧ (inR a 0 60 ∧ inR b 0 60)) (fun E S' => E = nIA ∧ S = S' ∧ ¬ (inR a 0 60 ∧ inR b 0 60)) := by
  refine conX_V (by decide +kernel) rfl (Nat.le_of_ble_eq_true rfl) (fun p e s m args below meth c B ht => ?_)
  refine bX11_needPlace_0 B hf ht (c_needRg hf) (Nat.le_of_ble_eq_true rfl) (Nat.le_of_ble_eq_true rfl) (fun E S' hq => ⟨hq.1, hq.2.1, fun z => hq.2.2 z.1⟩) (fun S' hq => ?_)
  obtain ⟨rfl, h1⟩ := hq
  refine bX11_needPlace_7 B hf ht (c_needRg hf) (Nat.le_of_ble_eq_true rfl) (Nat.le_of_ble_eq_true rfl) (fun E S' hq => ⟨hq.1, hq.2.1, fun z => hq.2.2 z.2⟩) (fun S' hq => ?_)
  obtain ⟨rfl, h2⟩ := hq
  exact bX11_needPlace_14 B hf ht (Nat.le_of_ble_eq_true rfl) (Nat.le_of_ble_eq_true rfl) ⟨rfl, h1, h2⟩
variable {T : Tb} {α : Ab}
theorem c_needSt (hf : l.stackTraces = false) (h : CR w S T α) (hA : AI1 α) {a b : Int32} : ConXV l yX11_needStop (wsOf yX11_needStop cX11_needStop 3 none) rX11_needStop w S [.ref (T 0 0), .int a, .int b] (fun S' => S = S' ∧ (isIx a (nV α) ∧ isIx b (mny α (cl a)))) (fun E S' => E = nIO ∧ S = S' ∧ ¬ (isIx a (nV α) ∧ isIx b (mny α (cl a)))) := by
  have n4 := hA.2.1.2.2.1.2
  refine conX_V (by decide +kernel) rfl (Nat.le_of_ble_eq_true rfl) (fun p e s m args below meth c B ht => ?_)
  refine bX11_needStop_0 B hf ht h.x.1 h.x.2.2.2.2.1 (c_nvan h) (Nat.le_of_ble_eq_true rfl) (Nat.le_of_ble_eq_true rfl) (h.k1 6 (by decide)) (fun r S' hq => ?_)
  obtain ⟨rfl, rfl⟩ := hq
  refine bX11_needStop_8 B hf ht (c_needIx hf (by omega)) (Nat.le_of_ble_eq_true rfl) (Nat.le_of_ble_eq_true rfl) (fun E S' hq => ⟨hq.1, hq.2.1, fun z => hq.2.2 z.1⟩) (fun S' hq => ?_)
  obtain ⟨rfl, h1⟩ := hq
  obtain ⟨v, hv, rfl⟩ := h1.nI
  have v4 := hA.v4 hv
  have m12 := hA.m12 v4
  refine bX11_needStop_11 B hf ht h.x.1 h.x.2.2.2.2.1 (c_gvan h hv) (Nat.le_of_ble_eq_true rfl) (Nat.le_of_ble_eq_true rfl) (h.k1 6 (by decide)) (fun r S' hq => ?_)
  obtain ⟨rfl, rfl⟩ := hq
  have hn := c_needIx (l := l) (w := w) (S := S) hf (a := b) (n := mny α v) (by omega)
  rw [← (h.va hv).2.2.2.2.1] at hn
  refine bX11_needStop_20 B hf ht (h.kv hv).1 (h.kv hv).2.1 (h.kv hv).2.2 hn (Nat.le_of_ble_eq_true rfl) (Nat.le_of_ble_eq_true rfl) (fun E S' hq => ⟨hq.1, hq.2.1, fun z => hq.2.2 (by have := z.2; rw [cl_nI (by omega)] at this; exact this)⟩) (fun S' hq => ?_)
  obtain ⟨rfl, h2⟩ := hq
  exact bX11_needStop_32 B hf ht (Nat.le_of_ble_eq_true rfl) (Nat.le_of_ble_eq_true rfl) ⟨rfl, h1, by rw [cl_nI (by omega)]; exact h2⟩
theorem c_needSo (hf : l.stackTraces = false) (h : CR w S T α) (hA : AI1 α) {a b c' : Int32} : ConXV l yX11_needSpot (wsOf yX11_needSpot cX11_needSpot 4 none) rX11_needSpot w S [.ref (T 0 0), .int a, .int b, .int c'] (fun S' => S = S' ∧ (isIx a (nP α) ∧ isIx b (nV α) ∧ isIx c' (mny α (cl b) + 1))) (fun E S' => E = nIO ∧ S = S' ∧ ¬ (isIx a (nP α) ∧ isIx b (nV α) ∧ isIx c' (mny α (cl b) + 1))) := by
  have n4 := hA.2.1.2.2.1.2
  have n30 := hA.2.1.2.2.2.2
  refine conX_V (by decide +kernel) rfl (Nat.le_of_ble_eq_true rfl) (fun p e s m args below meth c B ht => ?_)
  refine bX11_needSpot_0 B hf ht h.x.1 h.x.2.2.2.2.2.1 (c_npar h) (Nat.le_of_ble_eq_true rfl) (Nat.le_of_ble_eq_true rfl) (h.k1 7 (by decide)) (fun r S' hq => ?_)
  obtain ⟨rfl, rfl⟩ := hq
  refine bX11_needSpot_8 B hf ht (c_needIx hf (by omega)) (Nat.le_of_ble_eq_true rfl) (Nat.le_of_ble_eq_true rfl) (fun E S' hq => ⟨hq.1, hq.2.1, fun z => hq.2.2 z.1⟩) (fun S' hq => ?_)
  obtain ⟨rfl, h0⟩ := hq
  refine bX11_needSpot_11 B hf ht h.x.1 h.x.2.2.2.2.1 (c_nvan h) (Nat.le_of_ble_eq_true rfl) (Nat.le_of_ble_eq_true rfl) (h.k1 6 (by decide)) (fun r S' hq => ?_)
  obtain ⟨rfl, rfl⟩ := hq
  refine bX11_needSpot_19 B hf ht (c_needIx hf (by omega)) (Nat.le_of_ble_eq_true rfl) (Nat.le_of_ble_eq_true rfl) (fun E S' hq => ⟨hq.1, hq.2.1, fun z => hq.2.2 z.2.1⟩) (fun S' hq => ?_)
  obtain ⟨rfl, h1⟩ := hq
  obtain ⟨v, hv, rfl⟩ := h1.nI
  have v4 := hA.v4 hv
  have m12 := hA.m12 v4
  refine bX11_needSpot_22 B hf ht h.x.1 h.x.2.2.2.2.1 (c_gvan h hv) (Nat.le_of_ble_eq_true rfl) (Nat.le_of_ble_eq_true rfl) (h.k1 6 (by decide)) (fun r S' hq => ?_)
  obtain ⟨rfl, rfl⟩ := hq
  have hn := c_needIx (l := l) (w := w) (S := S) hf (a := c') (n := mny α v + 1) (by omega)
  rw [← nI_1, ← (h.va hv).2.2.2.2.1] at hn
  refine bX11_needSpot_31 B hf ht (h.kv hv).1 (h.kv hv).2.1 (h.kv hv).2.2 hn (Nat.le_of_ble_eq_true rfl) (Nat.le_of_ble_eq_true rfl) (fun E S' hq => ⟨hq.1, hq.2.1, fun z => hq.2.2 (by have := z.2.2; rw [cl_nI (by omega)] at this; exact this)⟩) (fun S' hq => ?_)
  obtain ⟨rfl, h2⟩ := hq
  exact bX11_needSpot_45 B hf ht (Nat.le_of_ble_eq_true rfl) (Nat.le_of_ble_eq_true rfl) ⟨rfl, h0, h1, by rw [cl_nI (by omega)]; exact h2⟩
end NEED2
/-! THE CLASS'S CALLS: an answer, or what is thrown -/
def CX0 (w : Wd) (S : St) (x : Nat) (α : Ab) : Prop := ∃ T, T 0 0 = x ∧ CR w S T α
def CP (w : Wd) (x : Nat) (o : Out) (r : Int32) (S' : St) : Prop := o.1 = 0 ∧ r = o.2.1 ∧ CX0 w S' x o.2.2
def CE (w : Wd) (x : Nat) (exs : List String) (o : Out) (E : String) (S' : St) : Prop := ∃ i, exs[i]? = some E ∧ o.1 = nI (i + 1) ∧ CX0 w S' x o.2.2
theorem CX0.mk {w : Wd} {S : St} {T : Tb} {α : Ab} (h : CR w S T α) : CX0 w S (T 0 0) α := ⟨T, rfl, h⟩
theorem CE.mk {w : Wd} {S : St} {T : Tb} {α : Ab} {exs : List String} {o : Out} {E : String} (i : Nat) (h1 : exs[i]? = some E) (h : CR w S T α) (h2 : o = (nI (i + 1), 0, α)) : CE w (T 0 0) exs o E S := ⟨i, h1, by rw [h2], by rw [h2]; exact CX0.mk h⟩
theorem CP.mk {w : Wd} {S : St} {T : Tb} {β : Ab} {o : Out} {r : Int32} (h : CR w S T β) (h2 : o = (0, r, β)) : CP w (T 0 0) o r S := ⟨by rw [h2], by rw [h2], by rw [h2]; exact CX0.mk h⟩
section CALLS1
variable {l : Launch} {w : Wd} {S : St} {T : Tb} {α : Ab}
theorem k_adds (hf : l.stackTraces = false) (h : CR w S T α) (hA : AIz α) {a b c' : Int32} : ConXI l yX11_adds (wsOf yX11_adds cX11_adds 4 (some .int)) rX11_adds w S [.ref (T 0 0), .int a, .int b, .int c'] (CP w (T 0 0) (opAdds α a b c')) (CE w (T 0 0) [nIO] (opAdds α a b c')) := by
  refine conX_I (by decide +kernel) rfl (Nat.le_of_ble_eq_true rfl) (fun p e s m args below meth c B ht => ?_)
  refine bX11_adds_0 B hf ht (c_needSo hf h hA.1.1) (Nat.le_of_ble_eq_true rfl) (Nat.le_of_ble_eq_true rfl) h.x.1 (fun E S' hq => ?_) (fun S' hq => ?_)
  · obtain ⟨rfl, rfl, hn⟩ := hq
    exact CE.mk 0 rfl h (if_neg hn)
  obtain ⟨rfl, h1, h2, h3⟩ := hq
  have eo : opAdds α a b c' = (0, mv α (cl a) (cl b) (cl c'), α) := if_pos ⟨h1, h2, h3⟩
  obtain ⟨q, hq, rfl⟩ := h1.nI
  obtain ⟨v, hv, rfl⟩ := h2.nI
  have v4 := hA.1.1.v4 hv
  have m12 := hA.1.1.m12 v4
  have q30 := hA.1.1.p30 hq
  rw [cl_nI (by omega)] at h3
  obtain ⟨k, hk, rfl⟩ := h3.nI
  rw [cl_nI (by omega), cl_nI (by omega), cl_nI (by omega)] at eo
  refine bX11_adds_7 B hf ht h.x.1 h.x.2.2.2.2.2.1 (c_gpar h hq) (Nat.le_of_ble_eq_true rfl) (Nat.le_of_ble_eq_true rfl) (h.k1 7 (by decide)) (fun r S' hq1 => ?_)
  obtain ⟨rfl, rfl⟩ := hq1
  refine bX11_adds_16 B hf ht (h.kp hq) h.x.1 h.x.2.2.2.2.1 (c_gvan h hv) (Nat.le_of_ble_eq_true rfl) (Nat.le_of_ble_eq_true rfl) (h.k1 6 (by decide)) (fun r S' hq1 => ?_)
  obtain ⟨rfl, rfl⟩ := hq1
  refine bX11_adds_27 B hf ht (h.kv hv).1 (c_addedCost h hA hv (show k ≤ mny α v by omega) hq) (Nat.le_of_ble_eq_true rfl) (Nat.le_of_ble_eq_true rfl) h.x.1 (fun r S' hq1 => ?_)
  exact bX11_adds_34 B hf ht (Nat.le_of_ble_eq_true rfl) (Nat.le_of_ble_eq_true rfl) (CP.mk hq1.2 (by rw [eo, hq1.1]))
theorem k_put (hf : l.stackTraces = false) (h : CR w S T α) (hA : AIz α) {a b c' : Int32} : ConXI l yX11_put (wsOf yX11_put cX11_put 7 (some .int)) rX11_put w S [.ref (T 0 0), .int a, .int b, .int c'] (CP w (T 0 0) (opPut α a b c')) (CE w (T 0 0) [nIO, nIS] (opPut α a b c')) := by
  refine conX_I (by decide +kernel) rfl (Nat.le_of_ble_eq_true rfl) (fun p e s m args below meth c B ht => ?_)
  refine bX11_put_0 B hf ht (c_needSo hf h hA.1.1) (Nat.le_of_ble_eq_true rfl) (Nat.le_of_ble_eq_true rfl) h.x.1 (fun E S' hq => ?_) (fun S' hq => ?_)
  · obtain ⟨rfl, rfl, hn⟩ := hq
    exact CE.mk 0 rfl h (if_neg hn)
  obtain ⟨rfl, h1, h2, h3⟩ := hq
  have eo : opPut α a b c' = if Loose α (cl a) ∧ ¬ mv α (cl a) (cl b) (cl c') = 1000000 then (0, mv α (cl a) (cl b) (cl c'), putA α (cl a) (cl b) (cl c')) else (2, 0, α) := if_pos ⟨h1, h2, h3⟩
  obtain ⟨q, hq, rfl⟩ := h1.nI
  obtain ⟨v, hv, rfl⟩ := h2.nI
  have v4 := hA.1.1.v4 hv
  have m12 := hA.1.1.m12 v4
  have q30 := hA.1.1.p30 hq
  rw [cl_nI (by omega)] at h3
  obtain ⟨k, hk, rfl⟩ := h3.nI
  rw [cl_nI (by omega), cl_nI (by omega), cl_nI (by omega)] at eo
  refine bX11_put_7 B hf ht h.x.1 h.x.2.2.2.2.2.1 (c_gpar h hq) (Nat.le_of_ble_eq_true rfl) (Nat.le_of_ble_eq_true rfl) (h.k1 7 (by decide)) (fun r S' hq1 => ?_)
  obtain ⟨rfl, rfl⟩ := hq1
  refine bX11_put_15 B hf ht (h.kp hq) h.x.1 h.x.2.2.2.2.1 (c_gvan h hv) (Nat.le_of_ble_eq_true rfl) (Nat.le_of_ble_eq_true rfl) (h.k1 6 (by decide)) (fun r S' hq1 => ?_)
  obtain ⟨rfl, rfl⟩ := hq1
  refine bX11_put_28 B hf ht (h.kv hv).1 (c_loose h hq) (Nat.le_of_ble_eq_true rfl) (Nat.le_of_ble_eq_true rfl) (fun r S' hq1 => ?_)
  obtain ⟨rfl, hL⟩ := hq1
  rcases hL with ⟨rfl, hL⟩ | ⟨rfl, hL⟩
  · refine bX11_put_38 B hf ht (fun z => absurd z (by decide)) (fun _ => ?_)
    refine bX11_put_41 B hf ht (c_addedCost h hA hv (show k ≤ mny α v by omega) hq) (Nat.le_of_ble_eq_true rfl) (Nat.le_of_ble_eq_true rfl) h.x.1 (fun r S1 hq1 => ?_)
    obtain ⟨rfl, h1'⟩ := hq1
    refine bX11_put_50 B hf ht (bX11_put_55 B hf ht (fun c => ?_) (fun c => ?_))
    · have hfit := mv_fit c
      have ho := (vof_iff hA.1.1 q).mp hL.2
      refine bX11_put_74 B hf ht (c_putIn h1' hA.1.1 hv (by omega) hq hfit ho) (Nat.le_of_ble_eq_true rfl) (Nat.le_of_ble_eq_true rfl) (fun S2 hq2 => ?_)
      exact bX11_put_82 B hf ht (Nat.le_of_ble_eq_true rfl) (Nat.le_of_ble_eq_true rfl) (CP.mk hq2.1 (by rw [eo, if_pos ⟨hL, c⟩]))
    · exact bX11_put_64 B hf ht (Nat.le_of_ble_eq_true rfl) (Nat.le_of_ble_eq_true rfl) (CE.mk 1 rfl h1' (by rw [eo, if_neg (fun z => z.2 c)]; rfl))
  · refine bX11_put_38 B hf ht (fun _ => ?_) (fun z => absurd rfl z)
    refine bX11_put_53 B hf ht (bX11_put_55 B hf ht (fun c => absurd rfl c) (fun _ => ?_))
    exact bX11_put_64 B hf ht (Nat.le_of_ble_eq_true rfl) (Nat.le_of_ble_eq_true rfl) (CE.mk 1 rfl h (by rw [eo, if_neg (fun z => hL z.1)]; rfl))
theorem nP_takA {v i : Nat} : nP (takA α v i) = nP α := nP_setRow
theorem nV_takA {v i : Nat} : nV (takA α v i) = nV α := nV_setRow
end CALLS1
