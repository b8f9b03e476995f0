section CALLS3
variable {l : Launch} {w : Wd} {S : St} {T : Tb} {α : Ab}
theorem k_home (hf : l.stackTraces = false) (h : CR w S T α) (hA : AIz α) {a b : Int32} : ConXI l yX11_home (wsOf yX11_home cX11_home 3 (some .int)) rX11_home w S [.ref (T 0 0), .int a, .int b] (CP w (T 0 0) (opTellH α a b)) (CE w (T 0 0) [nIO] (opTellH α a b)) := by
  have nb := hA.1.1.2.1.1.2
  refine conX_I (by decide +kernel) rfl (Nat.le_of_ble_eq_true rfl) (fun p e s m args below meth c B ht => ?_)
  refine bX11_home_0 B hf ht h.x.1 h.x.2.2.1 (c_nhom h) (Nat.le_of_ble_eq_true rfl) (Nat.le_of_ble_eq_true rfl) (h.k1 4 (by decide)) (fun r S' hq => ?_)
  obtain ⟨rfl, rfl⟩ := hq
  refine bX11_home_8 B hf ht (c_needIx hf (by omega)) (Nat.le_of_ble_eq_true rfl) (Nat.le_of_ble_eq_true rfl) (fun E S' hq => ?_) (fun S' hq => ?_)
  · obtain ⟨rfl, rfl, hn⟩ := hq
    exact CE.mk 0 rfl h (if_neg (fun z => hn z.1))
  obtain ⟨rfl, h1⟩ := hq
  refine bX11_home_11 B hf ht (c_needIx (n := 6) hf (by omega)) (Nat.le_of_ble_eq_true rfl) (Nat.le_of_ble_eq_true rfl) (fun E S' hq => ?_) (fun S' hq => ?_)
  · obtain ⟨rfl, rfl, hn⟩ := hq
    exact CE.mk 0 rfl h (if_neg (fun z => hn z.2))
  obtain ⟨rfl, h2⟩ := hq
  have eo : opTellH α a b = (0, homV α (cl a) (cl b), α) := if_pos ⟨h1, h2⟩
  obtain ⟨v, hv, rfl⟩ := h1.nI
  obtain ⟨u, hu, rfl⟩ := h2.nI
  rw [cl_nI (by omega), cl_nI (by omega)] at eo
  refine bX11_home_17 B hf ht (c_fhom h hA.1.1 hv hu) (Nat.le_of_ble_eq_true rfl) (Nat.le_of_ble_eq_true rfl) h.x.1 (fun r S' hq1 => ?_)
  exact bX11_home_23 B hf ht (Nat.le_of_ble_eq_true rfl) (Nat.le_of_ble_eq_true rfl) (CP.mk (hq1.1 ▸ h) (by rw [eo, hq1.2]))
theorem k_locker (hf : l.stackTraces = false) (h : CR w S T α) (hA : AIz α) {a b : Int32} : ConXI l yX11_locker (wsOf yX11_locker cX11_locker 3 (some .int)) rX11_locker w S [.ref (T 0 0), .int a, .int b] (CP w (T 0 0) (opTellL α a b)) (CE w (T 0 0) [nIO] (opTellL α a b)) := by
  have nb := hA.1.1.2.1.2.1.2
  refine conX_I (by decide +kernel) rfl (Nat.le_of_ble_eq_true rfl) (fun p e s m args below meth c B ht => ?_)
  refine bX11_locker_0 B hf ht h.x.1 h.x.2.2.2.1 (c_nloc h) (Nat.le_of_ble_eq_true rfl) (Nat.le_of_ble_eq_true rfl) (h.k1 5 (by decide)) (fun r S' hq => ?_)
  obtain ⟨rfl, rfl⟩ := hq
  refine bX11_locker_8 B hf ht (c_needIx hf (by omega)) (Nat.le_of_ble_eq_true rfl) (Nat.le_of_ble_eq_true rfl) (fun E S' hq => ?_) (fun S' hq => ?_)
  · obtain ⟨rfl, rfl, hn⟩ := hq
    exact CE.mk 0 rfl h (if_neg (fun z => hn z.1))
  obtain ⟨rfl, h1⟩ := hq
  refine bX11_locker_11 B hf ht (c_needIx (n := 6) hf (by omega)) (Nat.le_of_ble_eq_true rfl) (Nat.le_of_ble_eq_true rfl) (fun E S' hq => ?_) (fun S' hq => ?_)
  · obtain ⟨rfl, rfl, hn⟩ := hq
    exact CE.mk 0 rfl h (if_neg (fun z => hn z.2))
  obtain ⟨rfl, h2⟩ := hq
  have eo : opTellL α a b = (0, locV α (cl a) (cl b), α) := if_pos ⟨h1, h2⟩
  obtain ⟨v, hv, rfl⟩ := h1.nI
  obtain ⟨u, hu, rfl⟩ := h2.nI
  rw [cl_nI (by omega), cl_nI (by omega)] at eo
  refine bX11_locker_17 B hf ht (c_floc h hA.1.1 hv hu) (Nat.le_of_ble_eq_true rfl) (Nat.le_of_ble_eq_true rfl) h.x.1 (fun r S' hq1 => ?_)
  exact bX11_locker_23 B hf ht (Nat.le_of_ble_eq_true rfl) (Nat.le_of_ble_eq_true rfl) (CP.mk (hq1.1 ▸ h) (by rw [eo, hq1.2]))
theorem k_parcel (hf : l.stackTraces = false) (h : CR w S T α) (hA : AIz α) {a b : Int32} : ConXI l yX11_parcel (wsOf yX11_parcel cX11_parcel 3 (some .int)) rX11_parcel w S [.ref (T 0 0), .int a, .int b] (CP w (T 0 0) (opTellP α a b)) (CE w (T 0 0) [nIO] (opTellP α a b)) := by
  have nb := hA.1.1.2.1.2.2.2.2
  refine conX_I (by decide +kernel) rfl (Nat.le_of_ble_eq_true rfl) (fun p e s m args below meth c B ht => ?_)
  refine bX11_parcel_0 B hf ht h.x.1 h.x.2.2.2.2.2.1 (c_npar h) (Nat.le_of_ble_eq_true rfl) (Nat.le_of_ble_eq_true rfl) (h.k1 7 (by decide)) (fun r S' hq => ?_)
  obtain ⟨rfl, rfl⟩ := hq
  refine bX11_parcel_8 B hf ht (c_needIx hf (by omega)) (Nat.le_of_ble_eq_true rfl) (Nat.le_of_ble_eq_true rfl) (fun E S' hq => ?_) (fun S' hq => ?_)
  · obtain ⟨rfl, rfl, hn⟩ := hq
    exact CE.mk 0 rfl h (if_neg (fun z => hn z.1))
  obtain ⟨rfl, h1⟩ := hq
  refine bX11_parcel_11 B hf ht (c_needIx (n := 9) hf (by omega)) (Nat.le_of_ble_eq_true rfl) (Nat.le_of_ble_eq_true rfl) (fun E S' hq => ?_) (fun S' hq => ?_)
  · obtain ⟨rfl, rfl, hn⟩ := hq
    exact CE.mk 0 rfl h (if_neg (fun z => hn z.2))
  obtain ⟨rfl, h2⟩ := hq
  have eo : opTellP α a b = (0, parV α (cl a) (cl b), α) := if_pos ⟨h1, h2⟩
  obtain ⟨v, hv, rfl⟩ := h1.nI
  obtain ⟨u, hu, rfl⟩ := h2.nI
  rw [cl_nI (by omega), cl_nI (by omega)] at eo
  refine bX11_parcel_17 B hf ht h.x.1 h.x.2.2.2.2.2.1 (c_gpar h hv) (Nat.le_of_ble_eq_true rfl) (Nat.le_of_ble_eq_true rfl) (h.k1 7 (by decide)) (fun r S' hq1 => ?_)
  obtain ⟨rfl, rfl⟩ := hq1
  refine bX11_parcel_26 B hf ht (h.kp hv) (c_fpar h hA.1.1 hv hu) (Nat.le_of_ble_eq_true rfl) (Nat.le_of_ble_eq_true rfl) h.x.1 (fun r S' hq1 => ?_)
  exact bX11_parcel_33 B hf ht (Nat.le_of_ble_eq_true rfl) (Nat.le_of_ble_eq_true rfl) (CP.mk (hq1.1 ▸ h) (by rw [eo, hq1.2]))
theorem k_count (hf : l.stackTraces = false) (h : CR w S T α) (hA : AIz α) {a : Int32} : ConXI l yX11_count (wsOf yX11_count cX11_count 2 (some .int)) rX11_count w S [.ref (T 0 0), .int a] (CP w (T 0 0) (opCount α a)) (CE w (T 0 0) [nIO] (opCount α a)) := by
  refine conX_I (by decide +kernel) rfl (Nat.le_of_ble_eq_true rfl) (fun p e s m args below meth c B ht => ?_)
  refine bX11_count_0 B hf ht (c_needIx (n := 12) hf (by omega)) (Nat.le_of_ble_eq_true rfl) (Nat.le_of_ble_eq_true rfl) (fun E S' hq => ?_) (fun S' hq => ?_)
  · obtain ⟨rfl, rfl, hn⟩ := hq
    exact CE.mk 0 rfl h (if_neg hn)
  obtain ⟨rfl, h1⟩ := hq
  have eo : opCount α a = (0, cntV α (cl a), α) := if_pos h1
  obtain ⟨u, hu, rfl⟩ := h1.nI
  rw [cl_nI (by omega)] at eo
  refine bX11_count_6 B hf ht (c_cnted h hA hu) (Nat.le_of_ble_eq_true rfl) (Nat.le_of_ble_eq_true rfl) h.x.1 (fun r S' hq1 => ?_)
  exact bX11_count_11 B hf ht (Nat.le_of_ble_eq_true rfl) (Nat.le_of_ble_eq_true rfl) (CP.mk hq1.2 (by rw [eo, hq1.1]))
end CALLS3
section HOURS
variable {p : Program} {l : Launch} {e : Env} {s : State} {m : MethodId} {args : Array Value} {below : List Frame} {meth : Method} {c : Code} {w : Wd} {S : St}
variable {T : Tb}
theorem l_hrs (B : Bd p s m args meth c cX1_hoursFrom 4 (wsOf yX1_hoursFrom cX1_hoursFrom 4 (some .int)) RX1 w (some .int) "hoursFrom") {Q : State → Prop} {α : Ab} {i j N : Nat} (h : CR w S T α) (hi : i < nH α) (hN : hrN (α 903 i) (24 - j) j = N) (hj : j < 24) (hx : K p l e rX1_hoursFrom s m args below meth c 4 w 0 0 Q S 31 [(2, .int (nI N))] []) :
    ∀ d k, k + hrN (α 903 i) d (j + k) = N → j + k + d = 24 → K p l e rX1_hoursFrom s m args below meth c 4 w 0 0 Q S 4 [(0, .ref (T 20 i)), (2, .int (nI k)), (3, .int (nI (j + k)))] [] := by
  intro d
  induction d with
  | zero =>
    intro k hk hd
    refine bX1_hoursFrom_4 B (fun _ => ?_) (fun c => absurd (by rw [show j + k = 24 by omega]; exact Int32.le_refl _) c)
    have e0 : hrN (α 903 i) 0 (j + k) = 0 := rfl
    rw [e0] at hk
    rw [show k = N by omega]; exact hx
  | succ d ih =>
    intro k hk hd
    have e1 : hrN (α 903 i) (d + 1) (j + k) = if (α 903 i >>> (nI (j + k) &&& 31)) &&& 1 = 1 then hrN (α 903 i) d (j + k + 1) + 1 else 0 := rfl
    rw [e1] at hk
    refine bX1_hoursFrom_4 B (fun c => absurd c (nI_ge (show j + k < 24 by omega) (by decide))) (fun _ => ?_)
    refine bX1_hoursFrom_10 B (h.k (cnH (by decide) (by decide) hi)) (fun c => ?_) (fun c => ?_)
    · rw [(h.hm hi).2.2.1] at c
      rw [if_neg c] at hk
      rw [show k = N by omega]; exact hx
    · rw [(h.hm hi).2.2.1] at c
      rw [if_pos c] at hk
      refine bX1_hoursFrom_22 B ?_
      rw [nI_1, nI_1]
      exact ih (k + 1) (by rw [show j + (k + 1) = j + k + 1 by omega]; omega) (by omega)
end HOURS
section HOURS2
variable {l : Launch} {w : Wd} {S : St} {T : Tb} {α : Ab}
theorem c_hrs {i j : Nat} (h : CR w S T α) (hi : i < nH α) (hj : j < 24) : ConI l yX1_hoursFrom (wsOf yX1_hoursFrom cX1_hoursFrom 4 (some .int)) rX1_hoursFrom w S [.ref (T 20 i), .int (nI j)] (fun r S' => S = S' ∧ r = nI (hrN (α 903 i) (24 - j) j)) := by
  refine con_I (by decide +kernel) rfl (Nat.le_of_ble_eq_true rfl) (fun p e s m args below meth c B => ?_)
  exact bX1_hoursFrom_0 B (l_hrs B h hi rfl hj (bX1_hoursFrom_31 B ⟨rfl, rfl⟩) (24 - j) 0 (by rw [Nat.zero_add]; rfl) (by omega))
end HOURS2
section HOURS3
variable {p : Program} {l : Launch} {e : Env} {s : State} {m : MethodId} {args : Array Value} {below : List Frame} {meth : Method} {c : Code} {w : Wd} {S : St}
variable {T : Tb}
theorem l_hour2 (B : Bd p s m args meth c cX11_hour 7 (wsOf yX11_hour cX11_hour 7 (some .int)) RX11 w (some .int) "hour") (hl : l.stackTraces = false) (ht : ∀ x ∈ c.exceptionTable.toList, False) {Qc : Array Value → State → Outcome → State → Prop} {px' : String → St → Prop} {ka na : Nat} (hka : ka ≤ rX11_hour.cells) (hna : na ≤ rX11_hour.slots) {α : Ab} {i : Nat} (h : CR w S T α) (hi : i < nH α)
    (hx : K p l e rX11_hour s m args below meth c 7 w ka na (vx_MQ below Qc (XCs w px') args s rX11_hour.cells rX11_hour.slots (wA w)) S 66 [(3, .int (hrB (α 903 i) 24).1)] []) :
    ∀ d j, j + d = 24 → K p l e rX11_hour s m args below meth c 7 w ka na (vx_MQ below Qc (XCs w px') args s rX11_hour.cells rX11_hour.slots (wA w)) S 31 [(2, .ref (T 20 i)), (3, .int (hrB (α 903 i) j).1), (4, .int (hrB (α 903 i) j).2), (5, .int (nI j))] [] := by
  intro d
  induction d with
  | zero =>
    intro j hj
    have hj : j = 24 := by omega
    subst hj
    exact bX11_hour_31 B hl ht (fun _ => hx) (fun c => absurd (Int32.le_refl _) c)
  | succ d ih =>
    intro j hj
    have go := ih (j + 1) (by omega)
    have e1 : hrB (α 903 i) (j + 1) = if (hrB (α 903 i) j).2 < nI (hrN (α 903 i) (24 - j) j) then (nI j, nI (hrN (α 903 i) (24 - j) j)) else hrB (α 903 i) j := rfl
    refine bX11_hour_31 B hl ht (fun c => absurd c (nI_ge (show j < 24 by omega) (by decide))) (fun _ => ?_)
    refine bX11_hour_38 B hl ht (c_hrs h hi (show j < 24 by omega)) hka hna (h.k (cnH (by decide) (by decide) hi)) (fun r S1 hq1 => ?_)
    obtain ⟨rfl, rfl⟩ := hq1
    refine bX11_hour_44 B hl ht (fun c => ?_) (fun c => ?_)
    · refine bX11_hour_60 B hl ht ?_
      rw [e1, if_neg (Int32.not_lt.mpr c)] at go
      rw [nI_1]; exact go
    · refine bX11_hour_53 B hl ht (bX11_hour_60 B hl ht ?_)
      rw [e1, if_pos (Int32.not_le.mp c)] at go
      rw [nI_1]; exact go
end HOURS3
section HOURS4
variable {l : Launch} {w : Wd} {S : St} {T : Tb} {α : Ab}
theorem k_hour (hf : l.stackTraces = false) (h : CR w S T α) (hA : AIz α) {a : Int32} : ConXI l yX11_hour (wsOf yX11_hour cX11_hour 7 (some .int)) rX11_hour w S [.ref (T 0 0), .int a] (CP w (T 0 0) (opHour α a)) (CE w (T 0 0) [nIO] (opHour α a)) := by
  have nb := hA.1.1.2.1.1.2
  refine conX_I (by decide +kernel) rfl (Nat.le_of_ble_eq_true rfl) (fun p e s m args below meth c B ht => ?_)
  refine bX11_hour_0 B hf ht h.x.1 h.x.2.2.1 (c_nhom h) (Nat.le_of_ble_eq_true rfl) (Nat.le_of_ble_eq_true rfl) (h.k1 4 (by decide)) (fun r S' hq => ?_)
  obtain ⟨rfl, rfl⟩ := hq
  refine bX11_hour_8 B hf ht (c_needIx hf (by omega)) (Nat.le_of_ble_eq_true rfl) (Nat.le_of_ble_eq_true rfl) (fun E S' hq => ?_) (fun S' hq => ?_)
  · obtain ⟨rfl, rfl, hn⟩ := hq
    exact CE.mk 0 rfl h (if_neg hn)
  obtain ⟨rfl, h1⟩ := hq
  have eo : opHour α a = (0, (hrB (α 903 (cl a)) 24).1, α) := if_pos h1
  obtain ⟨i, hi, rfl⟩ := h1.nI
  rw [cl_nI (by omega)] at eo
  refine bX11_hour_11 B hf ht h.x.1 h.x.2.2.1 (c_ghom h hi) (Nat.le_of_ble_eq_true rfl) (Nat.le_of_ble_eq_true rfl) (h.k1 4 (by decide)) (fun r S' hq1 => ?_)
  obtain ⟨rfl, rfl⟩ := hq1
  refine bX11_hour_19 B hf ht (h.k (cnH (by decide) (by decide) hi)) (l_hour2 B hf ht (Nat.le_of_ble_eq_true rfl) (Nat.le_of_ble_eq_true rfl) h hi ?_ 24 0 rfl)
  exact bX11_hour_66 B hf ht (Nat.le_of_ble_eq_true rfl) (Nat.le_of_ble_eq_true rfl) (CP.mk h eo)
end HOURS4
