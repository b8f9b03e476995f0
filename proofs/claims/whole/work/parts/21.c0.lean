section C0
variable {l : Launch} {w : Wd} {S : St}
theorem c_dist {a b : Nat} (h1 : kd S a = 6) (h2 : kd S b = 6) : ConI l yX4_distanceTo (wsOf yX4_distanceTo cX4_distanceTo 4 (some .int)) rX4_distanceTo w S [.ref a, .ref b] (fun r S' => S = S' ∧ r = dist (gI S 320 a) (gI S 321 a) (gI S 320 b) (gI S 321 b)) := by
  refine con_I (by decide +kernel) rfl (Nat.le_of_ble_eq_true rfl) (fun p e s m args below meth c B => ?_)
  refine bX4_distanceTo_0 B h1 h2 (fun c1 => ?_) (fun c1 => ?_)
  · refine bX4_distanceTo_29 B (bX4_distanceTo_30 B (fun c2 => ?_) (fun c2 => ?_))
    · exact bX4_distanceTo_39 B (bX4_distanceTo_40 B ⟨rfl, by simp only [dist, absd, if_pos c1, if_pos c2]⟩)
    · exact bX4_distanceTo_34 B (bX4_distanceTo_40 B ⟨rfl, by simp only [dist, absd, if_pos c1, if_neg c2]⟩)
  · refine bX4_distanceTo_24 B (bX4_distanceTo_30 B (fun c2 => ?_) (fun c2 => ?_))
    · exact bX4_distanceTo_39 B (bX4_distanceTo_40 B ⟨rfl, by simp only [dist, absd, if_neg c1, if_pos c2]⟩)
    · exact bX4_distanceTo_34 B (bX4_distanceTo_40 B ⟨rfl, by simp only [dist, absd, if_neg c1, if_neg c2]⟩)
theorem c_hourOf {t : Int32} : ConI l yX8_hourOf (wsOf yX8_hourOf cX8_hourOf 1 (some .int)) rX8_hourOf w S [.int t] (fun r S' => S = S' ∧ r = hr t) := by
  refine con_I (by decide +kernel) rfl (Nat.le_of_ble_eq_true rfl) (fun p e s m args below meth c B => ?_)
  exact bX8_hourOf_0 B ⟨rfl, rfl⟩
theorem c_minutesOf {tn a b sl : Nat} {t : Int32} (h0 : kd S tn = 10) (h1 : kd S a = 6) (h2 : kd S b = 6) (h3 : gP S 576 tn = some sl) (h4 : kd S sl = 21) (h5 : vp_in (hr t) (ln S sl)) : ConI l yX8_minutesOf (wsOf yX8_minutesOf cX8_minutesOf 4 (some .int)) rX8_minutesOf w S [.ref tn, .ref a, .ref b, .int t] (fun r S' => S = S' ∧ r = mins (rI S sl) (dist (gI S 320 a) (gI S 321 a) (gI S 320 b) (gI S 321 b)) t) := by
  refine con_I (by decide +kernel) rfl (Nat.le_of_ble_eq_true rfl) (fun p e s m args below meth c B => ?_)
  refine bX8_minutesOf_0 B (c_dist h1 h2) h1 (fun r S' hp => ?_)
  obtain ⟨rfl, rfl⟩ := hp
  refine bX8_minutesOf_5 B h0 h3 c_hourOf (fun r S' hp => ?_)
  obtain ⟨rfl, rfl⟩ := hp
  exact bX8_minutesOf_13 B h4 h5 ⟨rfl, rfl⟩
theorem c_arrive {t g : Nat} {way : Int32} (h : kd S t = 11) : ConV l yX9_arrive (wsOf yX9_arrive cX9_arrive 3 none) rX9_arrive w S [.ref t, .ref g, .int way] (fun S' => S' = sP (sI (sI S 644 t (gI S 644 t + way)) 643 t (gI S 643 t + way)) 641 t (some g)) := by
  refine con_V (by decide +kernel) rfl (Nat.le_of_ble_eq_true rfl) (fun p e s m args below meth c B => ?_)
  exact bX9_arrive_0 B h rfl
theorem c_waitTill {t : Nat} {b : Int32} (h : kd S t = 11) : ConV l yX9_waitTill (wsOf yX9_waitTill cX9_waitTill 2 none) rX9_waitTill w S [.ref t, .int b] (fun S' => S' = sI S 643 t (if b ≤ gI S 643 t then gI S 643 t else b)) := by
  refine con_V (by decide +kernel) rfl (Nat.le_of_ble_eq_true rfl) (fun p e s m args below meth c B => ?_)
  refine bX9_waitTill_0 B h (fun c1 => ?_) (fun c1 => ?_)
  · exact bX9_waitTill_13 B (by rw [if_pos c1, sI_self])
  · exact bX9_waitTill_8 B h (bX9_waitTill_13 B (by rw [if_neg c1]))
theorem c_stay {t : Nat} {b : Int32} (h : kd S t = 11) : ConV l yX9_stay (wsOf yX9_stay cX9_stay 2 none) rX9_stay w S [.ref t, .int b] (fun S' => S' = sI S 643 t (gI S 643 t + b)) := by
  refine con_V (by decide +kernel) rfl (Nat.le_of_ble_eq_true rfl) (fun p e s m args below meth c B => ?_)
  exact bX9_stay_0 B h rfl
end C0
section C1
variable {l : Launch} {w : Wd} {S : St}
/-- a trip's cells: its place, and its numbers -/
def sTr (S : St) (t pl : Nat) (b n g k : Int32) : St := sP (sI (sI (sI (sI S 642 t b) 643 t n) 644 t g) 645 t k) 641 t (some pl)
def trOf (S : St) (t pl : Nat) : Tr := (gI S 320 pl, gI S 321 pl, gI S 642 t, gI S 643 t, gI S 644 t, gI S 645 t)
def sTrT (S : St) (t pl : Nat) (tr : Tr) : St := sTr S t pl tr.2.2.1 tr.2.2.2.1 tr.2.2.2.2.1 tr.2.2.2.2.2
theorem c_begin {t tn dp : Nat} {st : Int32} (h : kd S t = 11) (h2 : gP S 640 t = some tn) (h3 : kd S tn = 10) (h4 : gP S 577 tn = some dp) : ConV l yX9_begin (wsOf yX9_begin cX9_begin 2 none) rX9_begin w S [.ref t, .int st] (fun S' => S' = sTr S t dp st st 0 0) := by
  refine con_V (by decide +kernel) rfl (Nat.le_of_ble_eq_true rfl) (fun p e s m args below meth c B => ?_)
  refine bX9_begin_0 B h h2 h3 h4 (st_ext (fun _ => rfl) (fun f a => ?_) (fun f a => ?_) (fun _ => rfl) (fun _ => rfl) (fun _ => rfl))
  · simp only [sTr, gI_sI, gI_sP]
  · simp only [sTr, gP_sI, gP_sP]
theorem c_goStraight {t g tn pl sl : Nat} (h : kd S t = 11) (hg : kd S g = 6) (h2 : gP S 640 t = some tn) (h3 : kd S tn = 10) (h4 : gP S 641 t = some pl) (h5 : kd S pl = 6) (h6 : gP S 576 tn = some sl) (h7 : kd S sl = 21) (h8 : vp_in (hr (gI S 643 t)) (ln S sl)) : ConV l yX9_goStraight (wsOf yX9_goStraight cX9_goStraight 2 none) rX9_goStraight w S [.ref t, .ref g] (fun S' => S' = sTrT S t g (goS (rI S sl) (trOf S t pl) (gI S 320 g) (gI S 321 g))) := by
  refine con_V (by decide +kernel) rfl (Nat.le_of_ble_eq_true rfl) (fun p e s m args below meth c B => ?_)
  refine bX9_goStraight_0 B h h2 h4 (c_minutesOf h3 h5 hg h6 h7 h8) h3 (fun r S' hp => ?_)
  obtain ⟨rfl, rfl⟩ := hp
  refine bX9_goStraight_18 B (c_arrive h) h (fun S' hp => ?_)
  subst hp
  refine bX9_goStraight_21 B (st_ext (fun _ => rfl) (fun f a => ?_) (fun f a => ?_) (fun _ => rfl) (fun _ => rfl) (fun _ => rfl))
  · simp only [sTrT, sTr, goS, trOf, gI_sI, gI_sP]
    grind
  · simp only [sTrT, sTr, gP_sI, gP_sP]
theorem c_goWithBreak {t g tn pl sl : Nat} (h : kd S t = 11) (hg : kd S g = 6) (h2 : gP S 640 t = some tn) (h3 : kd S tn = 10) (h4 : gP S 641 t = some pl) (h5 : kd S pl = 6) (h6 : gP S 576 tn = some sl) (h7 : kd S sl = 21) (h8 : vp_in (hr (gI S 643 t)) (ln S sl)) (h9 : vp_in (hr (gI S 643 t + 30)) (ln S sl)) : ConV l yX9_goWithBreak (wsOf yX9_goWithBreak cX9_goWithBreak 3 none) rX9_goWithBreak w S [.ref t, .ref g] (fun S' => S' = sTrT S t g (goB (rI S sl) (trOf S t pl) (gI S 320 g) (gI S 321 g))) := by
  refine con_V (by decide +kernel) rfl (Nat.le_of_ble_eq_true rfl) (fun p e s m args below meth c B => ?_)
  refine bX9_goWithBreak_0 B h h2 h4 (c_minutesOf h3 h5 hg h6 h7 h8) h3 (fun r S' hp => ?_)
  obtain ⟨rfl, rfl⟩ := hp
  refine bX9_goWithBreak_16 B h (fun c1 => ?_) (fun c1 => ?_)
  · refine bX9_goWithBreak_80 B (c_arrive h) h (fun S' hp => ?_)
    subst hp
    have e : goB (rI S sl) (trOf S t pl) (gI S 320 g) (gI S 321 g) = goS (rI S sl) (trOf S t pl) (gI S 320 g) (gI S 321 g) := if_pos c1
    rw [e]
    refine bX9_goWithBreak_86 B (st_ext (fun _ => rfl) (fun f a => ?_) (fun f a => ?_) (fun _ => rfl) (fun _ => rfl) (fun _ => rfl))
    · simp only [sTrT, sTr, goS, trOf, gI_sI, gI_sP]
      grind
    · simp only [sTrT, sTr, gP_sI, gP_sP]
  · have e : goB (rI S sl) (trOf S t pl) (gI S 320 g) (gI S 321 g) = goS (rI S sl) (brk (trOf S t pl)) (gI S 320 g) (gI S 321 g) := if_neg c1
    refine bX9_goWithBreak_34 B h h2 h4 (c_minutesOf (by simp only [kd_sI, kd_sP, kd_sRI, kd_sRP, kd_nw, gI_sI, gI_sP, gI_sRI, gI_sRP, gI_nw, gP_sI, gP_sP, gP_sRI, gP_sRP, gP_nw, ln_sI, ln_sP, ln_sRI, ln_sRP, ln_nw, rI_sI, rI_sP, rI_sRI, rI_sRP, rI_nw, rP_sI, rP_sP, rP_sRI, rP_sRP, rP_nw, va_up_self]; exact h3) (by simp only [kd_sI, kd_sP, kd_sRI, kd_sRP, kd_nw, gI_sI, gI_sP, gI_sRI, gI_sRP, gI_nw, gP_sI, gP_sP, gP_sRI, gP_sRP, gP_nw, ln_sI, ln_sP, ln_sRI, ln_sRP, ln_nw, rI_sI, rI_sP, rI_sRI, rI_sRP, rI_nw, rP_sI, rP_sP, rP_sRI, rP_sRP, rP_nw, va_up_self]; exact h5) (by simp only [kd_sI, kd_sP, kd_sRI, kd_sRP, kd_nw, gI_sI, gI_sP, gI_sRI, gI_sRP, gI_nw, gP_sI, gP_sP, gP_sRI, gP_sRP, gP_nw, ln_sI, ln_sP, ln_sRI, ln_sRP, ln_nw, rI_sI, rI_sP, rI_sRI, rI_sRP, rI_nw, rP_sI, rP_sP, rP_sRI, rP_sRP, rP_nw, va_up_self]; exact hg) (by simp only [kd_sI, kd_sP, kd_sRI, kd_sRP, kd_nw, gI_sI, gI_sP, gI_sRI, gI_sRP, gI_nw, gP_sI, gP_sP, gP_sRI, gP_sRP, gP_nw, ln_sI, ln_sP, ln_sRI, ln_sRP, ln_nw, rI_sI, rI_sP, rI_sRI, rI_sRP, rI_nw, rP_sI, rP_sP, rP_sRI, rP_sRP, rP_nw, va_up_self]; exact h6) (by simp only [kd_sI, kd_sP, kd_sRI, kd_sRP, kd_nw, gI_sI, gI_sP, gI_sRI, gI_sRP, gI_nw, gP_sI, gP_sP, gP_sRI, gP_sRP, gP_nw, ln_sI, ln_sP, ln_sRI, ln_sRP, ln_nw, rI_sI, rI_sP, rI_sRI, rI_sRP, rI_nw, rP_sI, rP_sP, rP_sRI, rP_sRP, rP_nw, va_up_self]; exact h7) h9) h3 (fun r S' hp => ?_)
    obtain ⟨rfl, rfl⟩ := hp
    refine bX9_goWithBreak_79 B (bX9_goWithBreak_80 B (c_arrive h) h (fun S' hp => ?_))
    subst hp
    rw [e]
    refine bX9_goWithBreak_86 B (st_ext (fun _ => rfl) (fun f a => ?_) (fun f a => ?_) (fun _ => rfl) (fun _ => rfl) (fun _ => rfl))
    · simp only [sTrT, sTr, goS, brk, trOf, gI_sI, gI_sP, rI_sI]
      grind
    · simp only [sTrT, sTr, gP_sI, gP_sP]
end C1
