/-! THE CLAIM, from the entry -/

theorem kn_of {s : State} {args : Array Value} (hts : ∀ w ∈ WS, w.before args s = true) (k : Nat) : ∃ d : ClassId × (Nat → Nat), ∀ q : vw_C, vwCl[k]? = some q → u_Kn s q.1 q.2.1 q.2.2 d.1 d.2 := by
  match k with
  | 0 =>
    obtain ⟨cC, iS, h⟩ := u_known (C := RJx4a65c) (T := TJx4a65c) (N := 3) (n := 3) hts (fun w h => uw_0 w h) (hts _ qn0)
    exact ⟨(cC, iS), fun q hq => by cases hq; exact h⟩
  | 1 =>
    obtain ⟨cC, iS, h⟩ := u_known (C := RX0) (T := TX0) (N := 3) (n := 3) hts (fun w h => uw_1 w h) (hts _ qn1)
    exact ⟨(cC, iS), fun q hq => by cases hq; exact h⟩
  | 2 =>
    obtain ⟨cC, iS, h⟩ := u_known (C := RX1) (T := TX1) (N := 4) (n := 4) hts (fun w h => uw_2 w h) (hts _ qn2)
    exact ⟨(cC, iS), fun q hq => by cases hq; exact h⟩
  | 3 =>
    obtain ⟨cC, iS, h⟩ := u_known (C := RX2) (T := TX2) (N := 3) (n := 3) hts (fun w h => uw_3 w h) (hts _ qn3)
    exact ⟨(cC, iS), fun q hq => by cases hq; exact h⟩
  | 4 =>
    obtain ⟨cC, iS, h⟩ := u_known (C := RX3) (T := TX3) (N := 14) (n := 14) hts (fun w h => uw_4 w h) (hts _ qn4)
    exact ⟨(cC, iS), fun q hq => by cases hq; exact h⟩
  | 5 =>
    obtain ⟨cC, iS, h⟩ := u_known (C := RX4) (T := TX4) (N := 2) (n := 2) hts (fun w h => uw_5 w h) (hts _ qn5)
    exact ⟨(cC, iS), fun q hq => by cases hq; exact h⟩
  | 6 =>
    obtain ⟨cC, iS, h⟩ := u_known (C := RX5) (T := TX5) (N := 6) (n := 6) hts (fun w h => uw_6 w h) (hts _ qn6)
    exact ⟨(cC, iS), fun q hq => by cases hq; exact h⟩
  | 7 =>
    obtain ⟨cC, iS, h⟩ := u_known (C := RX6) (T := TX6) (N := 2) (n := 2) hts (fun w h => uw_7 w h) (hts _ qn7)
    exact ⟨(cC, iS), fun q hq => by cases hq; exact h⟩
  | 8 =>
    obtain ⟨cC, iS, h⟩ := u_known (C := RX7) (T := TX7) (N := 6) (n := 6) hts (fun w h => uw_8 w h) (hts _ qn8)
    exact ⟨(cC, iS), fun q hq => by cases hq; exact h⟩
  | 9 =>
    obtain ⟨cC, iS, h⟩ := u_known (C := RX8) (T := TX8) (N := 2) (n := 2) hts (fun w h => uw_9 w h) (hts _ qn9)
    exact ⟨(cC, iS), fun q hq => by cases hq; exact h⟩
  | 10 =>
    obtain ⟨cC, iS, h⟩ := u_known (C := RX9) (T := TX9) (N := 6) (n := 6) hts (fun w h => uw_10 w h) (hts _ qn10)
    exact ⟨(cC, iS), fun q hq => by cases hq; exact h⟩
  | 11 =>
    obtain ⟨cC, iS, h⟩ := u_known (C := RX10) (T := TX10) (N := 5) (n := 5) hts (fun w h => uw_11 w h) (hts _ qn11)
    exact ⟨(cC, iS), fun q hq => by cases hq; exact h⟩
  | 12 =>
    obtain ⟨cC, iS, h⟩ := u_known (C := RX11) (T := TX11) (N := 11) (n := 11) hts (fun w h => uw_12 w h) (hts _ qn12)
    exact ⟨(cC, iS), fun q hq => by cases hq; exact h⟩
  | 13 =>
    obtain ⟨cC, iS, h⟩ := u_known (C := RX12) (T := TX12) (N := 15) (n := 15) hts (fun w h => uw_13 w h) (hts _ qn13)
    exact ⟨(cC, iS), fun q hq => by cases hq; exact h⟩
  | 14 =>
    obtain ⟨cC, iS, h⟩ := u_known (C := RX13) (T := TX13) (N := 36) (n := 36) hts (fun w h => uw_14 w h) (hts _ qn14)
    exact ⟨(cC, iS), fun q hq => by cases hq; exact h⟩
  | k + 15 => exact ⟨(0, fun _ => 0), fun q hq => by simp at hq⟩
theorem K_of {s : State} {args : Array Value} (hts : ∀ w ∈ WS, w.before args s = true) (h1 : (Cond.arrayOver (.object "LastMile$Parcel")).before args s = true) (h2 : (Cond.arrayOver (.object "java/lang/Object")).before args s = true) : ∃ (D : va_G) (i1 i2 i3 i4 : ClassId), va_K D vwCl [(i1, .int), (i2, .object "LastMile$Parcel"), (i3, .object "java/lang/Object"), (i4, .long)] s := by
  obtain ⟨F, hF⟩ := Classical.axiomOfChoice (kn_of hts)
  obtain ⟨c1, k1, p1, a1, a2, a3⟩ := Cond.arrayClass_spec (hts _ qarrI)
  obtain ⟨c4, k4, p4, d1, d2, d3⟩ := Cond.arrayClass_spec (hts _ qarrL)
  obtain ⟨p2, c2, k2, b1, -, b3, b4, b5⟩ := Cond.arrayOver_spec h1
  obtain ⟨p3, c3, k3, e1, -, e3, e4, e5⟩ := Cond.arrayOver_spec h2
  refine ⟨(fun c => (F c).1, fun c => (F c).2), c1, c2, c3, c4, fun c q hq => hF c q hq, fun k q hk => ?_⟩
  match k, hk with
  | 0, hk => cases hk; exact ⟨fun n z => ⟨fun k h => (by cases h), k1, a2, p1, a3⟩, a1⟩
  | 1, hk => cases hk; exact ⟨fun n z => ⟨fun k h => (by cases h), k2, b3, p2, b4⟩, k2, p2, b3, b4, b1, b5⟩
  | 2, hk => cases hk; exact ⟨fun n z => ⟨fun k h => (by cases h), k3, e3, p3, e4⟩, k3, p3, e3, e4, e1, e5⟩
  | 3, hk => cases hk; exact ⟨fun n z => ⟨fun k h => (by cases h), k4, d2, p4, d3⟩, d1⟩
  | k + 4, hk => simp at hk
