/-! CONSTRUCTORS of home, locker, van, parcel -/
section CTOR
variable {l : Launch} {w : Wd} {S : St}
theorem c_hmI {a pl : Nat} {x : Int32} (h : kd S a = 3) : ConV l yX1_init (wsOf yX1_init cX1_init 3 none) rX1_init w S [.ref a, .ref pl, .int x] (fun S' => ∃ q, kd S q = 0 ∧ S' = sI (sP (sI (sP (nw S q 21 3) 130 a (some q)) 131 a 0) 128 a (some pl)) 129 a x) := by
  refine con_V (by decide +kernel) rfl (Nat.le_of_ble_eq_true rfl) (fun p e s m args below meth c B => ?_)
  refine bX1_init_0 B (Nat.le_of_ble_eq_true rfl) (Nat.le_of_ble_eq_true rfl) (fun q hq => ?_)
  have k : kd (nw S q 21 3) a = 3 := by rw [kd_nw, if_neg (fun z => by rw [z, hq] at h; exact absurd h (by decide))]; exact h
  exact bX1_init_8 B k k ⟨q, hq, rfl⟩
theorem c_lkI {a pl : Nat} {x y z : Int32} (h : kd S a = 4) : ConV l yX2_init (wsOf yX2_init cX2_init 5 none) rX2_init w S [.ref a, .ref pl, .int x, .int y, .int z] (fun S' => ∃ q q2 f1 f2 f3, kd S q = 0 ∧ kd S q2 = 0 ∧ q2 ≠ q ∧ f3 0 = x ∧ f3 1 = y ∧ f3 2 = z ∧
    S' = sRI (sRI (sRI (sP (sP (nw (sP (nw S q 21 3) 193 a (some q)) q2 21 3) 194 a (some q2)) 192 a (some pl)) q f1) q f2) q f3) := by
  refine con_V (by decide +kernel) rfl (Nat.le_of_ble_eq_true rfl) (fun p e s m args below meth c B => ?_)
  refine bX2_init_0 B (Nat.le_of_ble_eq_true rfl) (Nat.le_of_ble_eq_true rfl) (fun q hq => ?_)
  have na : a ≠ q := fun z => by rw [z, hq] at h; exact absurd h (by decide)
  have k : kd (nw S q 21 3) a = 4 := by rw [kd_nw, if_neg na]; exact h
  refine bX2_init_8 B k (Nat.le_of_ble_eq_true rfl) (Nat.le_of_ble_eq_true rfl) (fun q2 hq2 => ?_)
  obtain ⟨n2, k2⟩ := nw0 (n := 3) (S := S) (q := q) (k := 21) hq2 (by decide)
  have na2 : a ≠ q2 := fun z => by rw [z, k2] at h; exact absurd h (by decide)
  have k' : kd (nw (sP (nw S q 21 3) 193 a (some q)) q2 21 3) a = 4 := by rw [kd_nw, if_neg na2, kd_sP]; exact k
  have g : gP (nw (sP (nw S q 21 3) 193 a (some q)) q2 21 3) 193 a = some q := by rw [gP_nw, if_neg na2, gP_sP, if_pos ⟨rfl, rfl⟩]
  have kq : kd (nw (sP (nw S q 21 3) 193 a (some q)) q2 21 3) q = 21 := by rw [kd_nw, if_neg (Ne.symm n2), kd_sP, kd_nw, if_pos rfl]
  have lq : ln (nw (sP (nw S q 21 3) 193 a (some q)) q2 21 3) q = 3 := by rw [ln_nw, if_neg (Ne.symm n2), ln_sP, ln_nw, if_pos rfl]
  refine bX2_init_15 B k' k' g kq (by rw [lq]; exact vp_in_nI (show 0 < 3 by omega) (by decide)) g kq (by rw [lq]; exact vp_in_nI (show 1 < 3 by omega) (by decide)) g kq (by rw [lq]; exact vp_in_nI (show 2 < 3 by omega) (by decide)) ?_
  refine ⟨q, q2, _, _, _, hq, k2, n2, ?_, ?_, ?_, rfl⟩
  · rw [show (2 : Int32).toNatClampNeg = 2 from rfl, va_up_ne _ _ (by decide), rI_sRI, if_pos rfl, show (1 : Int32).toNatClampNeg = 1 from rfl, va_up_ne _ _ (by decide), rI_sRI, if_pos rfl]
    exact va_up_self _ _ _
  · rw [show (2 : Int32).toNatClampNeg = 2 from rfl, va_up_ne _ _ (by decide), rI_sRI, if_pos rfl]
    exact va_up_self _ _ _
  · exact va_up_self _ _ _
theorem c_rtI {a : Nat} (h : kd S a = 8) : ConV l yX6_init (wsOf yX6_init cX6_init 1 none) rX6_init w S [.ref a] (fun S' => ∃ q, kd S q = 0 ∧ S' = sI (sP (nw S q 22 13) 448 a (some q)) 449 a 0) := by
  refine con_V (by decide +kernel) rfl (Nat.le_of_ble_eq_true rfl) (fun p e s m args below meth c B => ?_)
  refine bX6_init_0 B (Nat.le_of_ble_eq_true rfl) (Nat.le_of_ble_eq_true rfl) (fun q hq => ?_)
  have k : kd (nw S q 22 13) a = 8 := by rw [kd_nw, if_neg (fun z => by rw [z, hq] at h; exact absurd h (by decide))]; exact h
  exact bX6_init_10 B k k ⟨q, hq, rfl⟩
theorem c_vnI {a : Nat} {x0 x1 x2 x3 : Int32} (h : kd S a = 12) : ConV l yX10_init (wsOf yX10_init cX10_init 5 none) rX10_init w S [.ref a, .int x0, .int x1, .int x2, .int x3] (fun S' => ∃ q q2, kd S q = 0 ∧ kd S q2 = 0 ∧ q2 ≠ q ∧
    S' = sI (sI (sI (sI (sP (sI (sP (nw (nw S q 8 0) q2 22 13) 448 q (some q2)) 449 q 0) 708 a (some q)) 704 a x0) 705 a x1) 706 a x2) 707 a x3) := by
  refine con_V (by decide +kernel) rfl (Nat.le_of_ble_eq_true rfl) (fun p e s m args below meth c B => ?_)
  refine bX10_init_0 B (Nat.le_of_ble_eq_true rfl) (Nat.le_of_ble_eq_true rfl) (fun q hq => ?_)
  have na : a ≠ q := fun z => by rw [z, hq] at h; exact absurd h (by decide)
  refine bX10_init_8 B (c_rtI (by rw [kd_nw, if_pos rfl])) (Nat.le_of_ble_eq_true rfl) (Nat.le_of_ble_eq_true rfl) (fun S' hq2 => ?_)
  obtain ⟨q2, hq2, rfl⟩ := hq2
  obtain ⟨n2, k2⟩ := nw0 hq2 (by decide)
  have na2 : a ≠ q2 := fun z => by rw [z, k2] at h; exact absurd h (by decide)
  have k : kd (sI (sP (nw (nw S q 8 0) q2 22 13) 448 q (some q2)) 449 q 0) a = 12 := by rw [kd_sI, kd_sP, kd_nw, if_neg na2, kd_nw, if_neg na]; exact h
  exact bX10_init_12 B k k ⟨q, q2, hq, k2, n2, rfl⟩
theorem c_prI {a hm : Nat} {x0 x1 x2 x3 x4 x5 : Int32} (h : kd S a = 5) : ConV l yX3_init (wsOf yX3_init cX3_init 8 none) rX3_init w S [.ref a, .int x0, .int x1, .int x2, .int x3, .ref hm, .int x4, .int x5] (fun S' => ∃ q, kd S q = 0 ∧
    S' = sI (sI (sP (sI (sI (sI (sI (sP (nw (sI (sI (sI (sI (sI (sP S 263 a none) 264 a 0) 265 a 0) 266 a (-1)) 267 a (-1)) 268 a 0) q 21 5) 269 a (some q)) 256 a x0) 257 a x1) 258 a x2) 259 a x3) 260 a (some hm)) 261 a x4) 262 a x5) := by
  refine con_V (by decide +kernel) rfl (Nat.le_of_ble_eq_true rfl) (fun p e s m args below meth c B => ?_)
  refine bX3_init_0 B h (Nat.le_of_ble_eq_true rfl) (Nat.le_of_ble_eq_true rfl) (fun q hq => ?_)
  have hq' : kd S q = 0 := hq
  have k : kd (nw (sI (sI (sI (sI (sI (sP S 263 a none) 264 a 0) 265 a 0) 266 a (-1)) 267 a (-1)) 268 a 0) q 21 5) a = 5 := by rw [kd_nw, if_neg (fun z => by rw [z, hq'] at h; exact absurd h (by decide))]; exact h
  exact bX3_init_38 B k k ⟨q, hq', rfl⟩
end CTOR
