/-! MEAN: the blocks of both -/
theorem qlRX11_295 : Cond.methodLink RX11 295 yJx4a65c_isEmpty_aae02 ∈ WS := in_t2 215 rfl rfl
theorem qiJx4a65c_isEmpty_aae02 : Cond.instanceMethod yJx4a65c_isEmpty_aae02 ∈ WS := in_t2 216 rfl rfl
theorem qeJx4a65c_isEmpty_aae02 : Cond.selects RJx4a65c yJx4a65c_isEmpty_aae02 yJx4a65c_isEmpty_aae02 ∈ WS := in_t2 217 rfl rfl
theorem qcJx4a65c_isEmpty_aae02 : Cond.code yJx4a65c_isEmpty_aae02 cJx4a65c_isEmpty_aae02 1 (some .boolean) ∈ WS := in_t2 218 rfl rfl
def rX11_mean : Room := { frames := 4, cells := 0, slots := 0, locals := 128 }
def rX13_mean : Room := { frames := 0, cells := 0, slots := 0, locals := 0 }
theorem dX11_mean_0 : decode cX11_mean 0 = .ok (.iconst 0, 1) := by decide +kernel
theorem dX11_mean_1 : decode cX11_mean 1 = .ok (.istore_n 1, 1) := by decide +kernel
theorem dX11_mean_2 : decode cX11_mean 2 = .ok (.iconst 0, 1) := by decide +kernel
theorem dX11_mean_3 : decode cX11_mean 3 = .ok (.istore_n 2, 1) := by decide +kernel
theorem dX11_mean_4 : decode cX11_mean 4 = .ok (.iload_n 2, 1) := by decide +kernel
theorem dX11_mean_5 : decode cX11_mean 5 = .ok (.aload_n 0, 1) := by decide +kernel
theorem dX11_mean_6 : decode cX11_mean 6 = .ok (.getfield 29, 3) := by decide +kernel
theorem dX11_mean_9 : decode cX11_mean 9 = .ok (.invokevirtual 101, 3) := by decide +kernel
theorem dX11_mean_12 : decode cX11_mean 12 = .ok (.if_icmp .ge 26, 3) := by decide +kernel
theorem dX11_mean_15 : decode cX11_mean 15 = .ok (.iload_n 1, 1) := by decide +kernel
theorem dX11_mean_16 : decode cX11_mean 16 = .ok (.aload_n 0, 1) := by decide +kernel
theorem dX11_mean_17 : decode cX11_mean 17 = .ok (.getfield 29, 3) := by decide +kernel
theorem dX11_mean_20 : decode cX11_mean 20 = .ok (.iload_n 2, 1) := by decide +kernel
theorem dX11_mean_21 : decode cX11_mean 21 = .ok (.invokevirtual 124, 3) := by decide +kernel
theorem dX11_mean_24 : decode cX11_mean 24 = .ok (.checkcast 144, 3) := by decide +kernel
theorem dX11_mean_27 : decode cX11_mean 27 = .ok (.getfield 292, 3) := by decide +kernel
theorem dX11_mean_30 : decode cX11_mean 30 = .ok (.iadd, 1) := by decide +kernel
theorem dX11_mean_31 : decode cX11_mean 31 = .ok (.istore_n 1, 1) := by decide +kernel
theorem dX11_mean_32 : decode cX11_mean 32 = .ok (.iinc 2 1, 3) := by decide +kernel
theorem dX11_mean_35 : decode cX11_mean 35 = .ok (.goto (-31), 3) := by decide +kernel
theorem dX11_mean_38 : decode cX11_mean 38 = .ok (.aload_n 0, 1) := by decide +kernel
theorem dX11_mean_39 : decode cX11_mean 39 = .ok (.getfield 29, 3) := by decide +kernel
theorem dX11_mean_42 : decode cX11_mean 42 = .ok (.invokevirtual 295, 3) := by decide +kernel
theorem dX11_mean_45 : decode cX11_mean 45 = .ok (.ifCond .eq 7, 3) := by decide +kernel
theorem dX11_mean_48 : decode cX11_mean 48 = .ok (.dconst 0, 1) := by decide +kernel
theorem dX11_mean_49 : decode cX11_mean 49 = .ok (.goto 14, 3) := by decide +kernel
theorem dX11_mean_52 : decode cX11_mean 52 = .ok (.iload_n 1, 1) := by decide +kernel
theorem dX11_mean_53 : decode cX11_mean 53 = .ok (.i2d, 1) := by decide +kernel
theorem dX11_mean_54 : decode cX11_mean 54 = .ok (.aload_n 0, 1) := by decide +kernel
theorem dX11_mean_55 : decode cX11_mean 55 = .ok (.getfield 29, 3) := by decide +kernel
theorem dX11_mean_58 : decode cX11_mean 58 = .ok (.invokevirtual 101, 3) := by decide +kernel
theorem dX11_mean_61 : decode cX11_mean 61 = .ok (.i2d, 1) := by decide +kernel
theorem dX11_mean_62 : decode cX11_mean 62 = .ok (.ddiv, 1) := by decide +kernel
theorem dX11_mean_63 : decode cX11_mean 63 = .ok (.dreturn, 1) := by decide +kernel
theorem dX13_mean_0 : decode cX13_mean 0 = .ok (.aload_n 0, 1) := by decide +kernel
theorem dX13_mean_1 : decode cX13_mean 1 = .ok (.iconst 0, 1) := by decide +kernel
theorem dX13_mean_2 : decode cX13_mean 2 = .ok (.putfield 95, 3) := by decide +kernel
theorem dX13_mean_5 : decode cX13_mean 5 = .ok (.iconst 0, 1) := by decide +kernel
theorem dX13_mean_6 : decode cX13_mean 6 = .ok (.istore_n 1, 1) := by decide +kernel
theorem dX13_mean_7 : decode cX13_mean 7 = .ok (.iconst 0, 1) := by decide +kernel
theorem dX13_mean_8 : decode cX13_mean 8 = .ok (.istore_n 2, 1) := by decide +kernel
theorem dX13_mean_9 : decode cX13_mean 9 = .ok (.iload_n 2, 1) := by decide +kernel
theorem dX13_mean_10 : decode cX13_mean 10 = .ok (.aload_n 0, 1) := by decide +kernel
theorem dX13_mean_11 : decode cX13_mean 11 = .ok (.getfield 117, 3) := by decide +kernel
theorem dX13_mean_14 : decode cX13_mean 14 = .ok (.if_icmp .ge 21, 3) := by decide +kernel
theorem dX13_mean_17 : decode cX13_mean 17 = .ok (.iload_n 1, 1) := by decide +kernel
theorem dX13_mean_18 : decode cX13_mean 18 = .ok (.aload_n 0, 1) := by decide +kernel
theorem dX13_mean_19 : decode cX13_mean 19 = .ok (.getfield 70, 3) := by decide +kernel
theorem dX13_mean_22 : decode cX13_mean 22 = .ok (.getfield 157, 3) := by decide +kernel
theorem dX13_mean_25 : decode cX13_mean 25 = .ok (.iload_n 2, 1) := by decide +kernel
theorem dX13_mean_26 : decode cX13_mean 26 = .ok (.iaload, 1) := by decide +kernel
theorem dX13_mean_27 : decode cX13_mean 27 = .ok (.iadd, 1) := by decide +kernel
theorem dX13_mean_28 : decode cX13_mean 28 = .ok (.istore_n 1, 1) := by decide +kernel
theorem dX13_mean_29 : decode cX13_mean 29 = .ok (.iinc 2 1, 3) := by decide +kernel
theorem dX13_mean_32 : decode cX13_mean 32 = .ok (.goto (-23), 3) := by decide +kernel
theorem dX13_mean_35 : decode cX13_mean 35 = .ok (.aload_n 0, 1) := by decide +kernel
theorem dX13_mean_36 : decode cX13_mean 36 = .ok (.getfield 117, 3) := by decide +kernel
theorem dX13_mean_39 : decode cX13_mean 39 = .ok (.ifCond .ne 7, 3) := by decide +kernel
theorem dX13_mean_42 : decode cX13_mean 42 = .ok (.dconst 0, 1) := by decide +kernel
theorem dX13_mean_43 : decode cX13_mean 43 = .ok (.goto 11, 3) := by decide +kernel
theorem dX13_mean_46 : decode cX13_mean 46 = .ok (.iload_n 1, 1) := by decide +kernel
theorem dX13_mean_47 : decode cX13_mean 47 = .ok (.i2d, 1) := by decide +kernel
theorem dX13_mean_48 : decode cX13_mean 48 = .ok (.aload_n 0, 1) := by decide +kernel
theorem dX13_mean_49 : decode cX13_mean 49 = .ok (.getfield 117, 3) := by decide +kernel
theorem dX13_mean_52 : decode cX13_mean 52 = .ok (.i2d, 1) := by decide +kernel
theorem dX13_mean_53 : decode cX13_mean 53 = .ok (.ddiv, 1) := by decide +kernel
theorem dX13_mean_54 : decode cX13_mean 54 = .ok (.dreturn, 1) := by decide +kernel
section BL
variable {p : Program} {l : Launch} {e : Env} {s : State} {m : MethodId} {args : Array Value} {below : List Frame} {meth : Method} {c : Code} {w : Wd} {S : St}
theorem bX11_mean_0 (B : Bd p s m args meth c cX11_mean 3 (wsOf yX11_mean cX11_mean 3 (some .double)) RX11 w (some .double) "mean") {v0 : Nat} {Q : State → Prop}  (kk : K p l e rX11_mean s m args below meth c 3 w 0 0 Q S 4 [(0, .ref v0), (1, .int 0), (2, .int 0)] []) : K p l e rX11_mean s m args below meth c 3 w 0 0 Q S 0 [(0, .ref v0)] [] := by
  refine k_iconst (v := 0) B (by decide) dX11_mean_0 ?_
  refine k_istore_n (lst' := [(1, .int 0), (0, .ref v0)]) B rfl (by decide) rfl dX11_mean_1 ?_
  refine k_iconst (v := 0) B (by decide) dX11_mean_2 ?_
  refine k_istore_n (lst' := [(2, .int 0), (1, .int 0), (0, .ref v0)]) B rfl (by decide) rfl dX11_mean_3 ?_
  refine k_sub [2, 1, 0] rfl ?_
  exact kk
theorem bX11_mean_4 (B : Bd p s m args meth c cX11_mean 3 (wsOf yX11_mean cX11_mean 3 (some .double)) RX11 w (some .double) "mean") {v0 : Nat} {v1 : Int32} {v2 : Int32} {x1 : Nat} {post : Int32 → St → Prop} {Q : State → Prop} (h1 : kd S v0 = 13) (h2 : gP S 772 v0 = some x1) (hc : ConI l yJx4a65c_size_8abf5 (wsOf yJx4a65c_size_8abf5 cJx4a65c_size_8abf5 1 (some .int)) rJx4a65c_size_8abf5 w S [.ref x1] post) (h3 : kd S x1 = 1) (kk : ∀ (r : Int32) (S' : St), post r S' → K p l e rX11_mean s m args below meth c 3 w 0 0 Q S' 12 [(0, .ref v0), (1, .int v1), (2, .int v2)] [.int r, .int v2]) : K p l e rX11_mean s m args below meth c 3 w 0 0 Q S 4 [(0, .ref v0), (1, .int v1), (2, .int v2)] [] := by
  refine k_iload_n B 2 rfl rfl dX11_mean_4 ?_
  refine k_aload_n B 0 rfl rfl dX11_mean_5 ?_
  refine k_getP (f := 772) (r := gP S 772 v0) B 12 4 rfl (by decide) rfl (by decide) rfl rfl (fun w h => in_of (uw_12 w h)) (in_of qfRX11_29) dX11_mean_6 h1 rfl ?_
  rw [h2]; change K _ _ _ _ _ _ _ _ _ _ _ _ _ _ _ _ _ _ (.ref x1 :: _)
  refine callV_I (st := [.int v2]) B [] (hc) (cwV 0 B.1.2.2.2.2 (gV qlRX11_101 qiJx4a65c_size_8abf5 qeJx4a65c_size_8abf5 qzRJx4a65c qcJx4a65c_size_8abf5) rfl rfl rfl (by decide +kernel) ⟨Nat.le_of_ble_eq_true rfl, Nat.le_of_ble_eq_true rfl⟩) rfl rfl (by decide) h3 (Nat.le_of_ble_eq_true rfl) rfl dX11_mean_9 ⟨Nat.le_of_ble_eq_true rfl, Nat.le_of_ble_eq_true rfl⟩ (fun r S' hp => ?_)
  exact kk r S' hp
theorem bX11_mean_12 (B : Bd p s m args meth c cX11_mean 3 (wsOf yX11_mean cX11_mean 3 (some .double)) RX11 w (some .double) "mean") {v0 : Nat} {v1 : Int32} {v2 : Int32} {t0 : Int32} {t1 : Int32} {Q : State → Prop}  (kt : t1 ≤ t0 → K p l e rX11_mean s m args below meth c 3 w 0 0 Q S 38 [(0, .ref v0), (1, .int v1)] []) (kf : ¬ t1 ≤ t0 → K p l e rX11_mean s m args below meth c 3 w 0 0 Q S 15 [(0, .ref v0), (1, .int v1), (2, .int v2)] []) : K p l e rX11_mean s m args below meth c 3 w 0 0 Q S 12 [(0, .ref v0), (1, .int v1), (2, .int v2)] [.int t1, .int t0] := by
  refine k_icmp_ge (tgt := 38) B dX11_mean_12 (by decide) (fun c => ?_) (fun c => ?_)
  · refine k_sub [0, 1] rfl ?_
    exact kt c
  · exact kf c
theorem bX11_mean_15 (B : Bd p s m args meth c cX11_mean 3 (wsOf yX11_mean cX11_mean 3 (some .double)) RX11 w (some .double) "mean") {v0 : Nat} {v1 : Int32} {v2 : Int32} {x1 : Nat} {post : Nat → St → Prop} {Q : State → Prop} (h1 : kd S v0 = 13) (h2 : gP S 772 v0 = some x1) (hc : ConR l yJx4a65c_get_915e3 (wsOf yJx4a65c_get_915e3 cJx4a65c_get_915e3 2 (some (.object "java/lang/Object"))) rJx4a65c_get_915e3 w S [.ref x1, .int v2] post) (h3 : kd S x1 = 1) (kk : ∀ (r : Nat) (S' : St), post r S' → K p l e rX11_mean s m args below meth c 3 w 0 0 Q S' 24 [(0, .ref v0), (2, .int v2)] [.ref r, .int v1]) : K p l e rX11_mean s m args below meth c 3 w 0 0 Q S 15 [(0, .ref v0), (1, .int v1), (2, .int v2)] [] := by
  refine k_iload_n B 1 rfl rfl dX11_mean_15 ?_
  refine k_aload_n B 0 rfl rfl dX11_mean_16 ?_
  refine k_getP (f := 772) (r := gP S 772 v0) B 12 4 rfl (by decide) rfl (by decide) rfl rfl (fun w h => in_of (uw_12 w h)) (in_of qfRX11_29) dX11_mean_17 h1 rfl ?_
  rw [h2]; change K _ _ _ _ _ _ _ _ _ _ _ _ _ _ _ _ _ _ (.ref x1 :: _)
  refine k_iload_n B 2 rfl rfl dX11_mean_20 ?_
  refine callV_R (st := [.int v1]) B [.int v2] (hc) (cwV 1 B.1.2.2.2.2 (gV qlRX11_124 qiJx4a65c_get_915e3 qeJx4a65c_get_915e3 qzRJx4a65c qcJx4a65c_get_915e3) rfl rfl rfl (by decide +kernel) ⟨Nat.le_of_ble_eq_true rfl, Nat.le_of_ble_eq_true rfl⟩) rfl rfl (by decide) h3 (Nat.le_of_ble_eq_true rfl) rfl dX11_mean_21 ⟨Nat.le_of_ble_eq_true rfl, Nat.le_of_ble_eq_true rfl⟩ (fun r S' hp => ?_)
  refine k_sub [0, 2] rfl ?_
  exact kk r S' hp
theorem bX11_mean_24 (B : Bd p s m args meth c cX11_mean 3 (wsOf yX11_mean cX11_mean 3 (some .double)) RX11 w (some .double) "mean") {v0 : Nat} {v2 : Int32} {t0 : Int32} {t1 : Nat} {Q : State → Prop} (h1 : kd S t1 = 5) (kk : K p l e rX11_mean s m args below meth c 3 w 0 0 Q S 4 [(0, .ref v0), (1, .int (t0 + (gI S 264 t1))), (2, .int (v2 + 1))] []) : K p l e rX11_mean s m args below meth c 3 w 0 0 Q S 24 [(0, .ref v0), (2, .int v2)] [.ref t1, .int t0] := by
  refine k_cast B 4 rfl (by decide) (in_of qkRX11_144) dX11_mean_24 h1 ?_
  refine k_getI (f := 264) (v := gI S 264 t1) B 4 8 rfl (by decide) rfl (by decide) rfl rfl (fun w h => in_of (uw_4 w h)) (in_of qfRX11_292) dX11_mean_27 h1 rfl ?_
  refine k_iadd B dX11_mean_30 ?_
  refine k_istore_n (lst' := [(1, .int (t0 + (gI S 264 t1))), (0, .ref v0), (2, .int v2)]) B rfl (by decide) rfl dX11_mean_31 ?_
  refine k_iinc (v := v2 + 1) (lst' := [(2, .int (v2 + 1)), (1, .int (t0 + (gI S 264 t1))), (0, .ref v0)]) B 2 rfl rfl (by decide) rfl dX11_mean_32 ?_
  refine k_goto (tgt := 4) B dX11_mean_35 (by decide) ?_
  refine k_sub [2, 1, 0] rfl ?_
  exact kk
theorem bX11_mean_38 (B : Bd p s m args meth c cX11_mean 3 (wsOf yX11_mean cX11_mean 3 (some .double)) RX11 w (some .double) "mean") {v0 : Nat} {v1 : Int32} {x1 : Nat} {post : Int32 → St → Prop} {Q : State → Prop} (h1 : kd S v0 = 13) (h2 : gP S 772 v0 = some x1) (hc : ConI l yJx4a65c_isEmpty_aae02 (wsOf yJx4a65c_isEmpty_aae02 cJx4a65c_isEmpty_aae02 1 (some .boolean)) rJx4a65c_isEmpty_aae02 w S [.ref x1] post) (h3 : kd S x1 = 1) (kk : ∀ (r : Int32) (S' : St), post r S' → K p l e rX11_mean s m args below meth c 3 w 0 0 Q S' 45 [(0, .ref v0), (1, .int v1)] [.int r]) : K p l e rX11_mean s m args below meth c 3 w 0 0 Q S 38 [(0, .ref v0), (1, .int v1)] [] := by
  refine k_aload_n B 0 rfl rfl dX11_mean_38 ?_
  refine k_getP (f := 772) (r := gP S 772 v0) B 12 4 rfl (by decide) rfl (by decide) rfl rfl (fun w h => in_of (uw_12 w h)) (in_of qfRX11_29) dX11_mean_39 h1 rfl ?_
  rw [h2]; change K _ _ _ _ _ _ _ _ _ _ _ _ _ _ _ _ _ _ (.ref x1 :: _)
  refine callV_I (st := []) B [] (hc) (cwV 0 B.1.2.2.2.2 (gV qlRX11_295 qiJx4a65c_isEmpty_aae02 qeJx4a65c_isEmpty_aae02 qzRJx4a65c qcJx4a65c_isEmpty_aae02) rfl rfl rfl (by decide +kernel) ⟨Nat.le_of_ble_eq_true rfl, Nat.le_of_ble_eq_true rfl⟩) rfl rfl (by decide) h3 (Nat.le_of_ble_eq_true rfl) rfl dX11_mean_42 ⟨Nat.le_of_ble_eq_true rfl, Nat.le_of_ble_eq_true rfl⟩ (fun r S' hp => ?_)
  exact kk r S' hp
theorem bX11_mean_45 (B : Bd p s m args meth c cX11_mean 3 (wsOf yX11_mean cX11_mean 3 (some .double)) RX11 w (some .double) "mean") {v0 : Nat} {v1 : Int32} {t0 : Int32} {Q : State → Prop}  (kt : t0 = 0 → K p l e rX11_mean s m args below meth c 3 w 0 0 Q S 52 [(0, .ref v0), (1, .int v1)] []) (kf : ¬ t0 = 0 → K p l e rX11_mean s m args below meth c 3 w 0 0 Q S 48 [] []) : K p l e rX11_mean s m args below meth c 3 w 0 0 Q S 45 [(0, .ref v0), (1, .int v1)] [.int t0] := by
  refine k_if_eq (tgt := 52) B dX11_mean_45 (by decide) (fun c => ?_) (fun c => ?_)
  · exact kt c
  · refine k_sub [] rfl ?_
    exact kf c
theorem bX11_mean_48 (B : Bd p s m args meth c cX11_mean 3 (wsOf yX11_mean cX11_mean 3 (some .double)) RX11 w (some .double) "mean") {Q : State → Prop}  (kk : K p l e rX11_mean s m args below meth c 3 w 0 0 Q S 63 [] [.double (FP.dconst0)]) : K p l e rX11_mean s m args below meth c 3 w 0 0 Q S 48 [] [] := by
  refine k_dconst0 B dX11_mean_48 ?_
  refine k_goto (tgt := 63) B dX11_mean_49 (by decide) ?_
  exact kk
theorem bX11_mean_52 (B : Bd p s m args meth c cX11_mean 3 (wsOf yX11_mean cX11_mean 3 (some .double)) RX11 w (some .double) "mean") {v0 : Nat} {v1 : Int32} {x1 : Nat} {post : Int32 → St → Prop} {Q : State → Prop} (h1 : kd S v0 = 13) (h2 : gP S 772 v0 = some x1) (hc : ConI l yJx4a65c_size_8abf5 (wsOf yJx4a65c_size_8abf5 cJx4a65c_size_8abf5 1 (some .int)) rJx4a65c_size_8abf5 w S [.ref x1] post) (h3 : kd S x1 = 1) (kk : ∀ (r : Int32) (S' : St), post r S' → K p l e rX11_mean s m args below meth c 3 w 0 0 Q S' 61 [] [.int r, .double (FP.i2d v1)]) : K p l e rX11_mean s m args below meth c 3 w 0 0 Q S 52 [(0, .ref v0), (1, .int v1)] [] := by
  refine k_iload_n B 1 rfl rfl dX11_mean_52 ?_
  refine k_i2d B dX11_mean_53 ?_
  refine k_aload_n B 0 rfl rfl dX11_mean_54 ?_
  refine k_getP (f := 772) (r := gP S 772 v0) B 12 4 rfl (by decide) rfl (by decide) rfl rfl (fun w h => in_of (uw_12 w h)) (in_of qfRX11_29) dX11_mean_55 h1 rfl ?_
  rw [h2]; change K _ _ _ _ _ _ _ _ _ _ _ _ _ _ _ _ _ _ (.ref x1 :: _)
  refine callV_I (st := [.double (FP.i2d v1)]) B [] (hc) (cwV 0 B.1.2.2.2.2 (gV qlRX11_101 qiJx4a65c_size_8abf5 qeJx4a65c_size_8abf5 qzRJx4a65c qcJx4a65c_size_8abf5) rfl rfl rfl (by decide +kernel) ⟨Nat.le_of_ble_eq_true rfl, Nat.le_of_ble_eq_true rfl⟩) rfl rfl (by decide) h3 (Nat.le_of_ble_eq_true rfl) rfl dX11_mean_58 ⟨Nat.le_of_ble_eq_true rfl, Nat.le_of_ble_eq_true rfl⟩ (fun r S' hp => ?_)
  refine k_sub [] rfl ?_
  exact kk r S' hp
theorem bX11_mean_61 (B : Bd p s m args meth c cX11_mean 3 (wsOf yX11_mean cX11_mean 3 (some .double)) RX11 w (some .double) "mean") {t0 : UInt64} {t1 : Int32} {Q : State → Prop} (h1 : vf_n64 (FP.ddiv t0 (FP.i2d t1))) (kk : K p l e rX11_mean s m args below meth c 3 w 0 0 Q S 63 [] [.double (FP.ddiv t0 (FP.i2d t1))]) : K p l e rX11_mean s m args below meth c 3 w 0 0 Q S 61 [] [.int t1, .double t0] := by
  refine k_i2d B dX11_mean_61 ?_
  refine k_ddiv B h1 dX11_mean_62 ?_
  exact kk
theorem bX11_mean_63 (B : Bd p s m args meth c cX11_mean 3 (wsOf yX11_mean cX11_mean 3 (some .double)) RX11 w (some .double) "mean") {t0 : UInt64} {post : UInt64 → St → Prop}  (hq : post t0 S) : K p l e rX11_mean s m args below meth c 3 w 0 0 (MQ below (va_Qd post (fun S' t => Hd w S' t.heap) (wA w)) args s 0 0 (wA w)) S 63 [] [.double t0] := by
  exact ret_D B rfl dX11_mean_63 (hq)
theorem bX13_mean_0 (B : Bd p s m args meth c cX13_mean 3 (wsOf yX13_mean cX13_mean 3 (some .double)) RX13 w (some .double) "mean") {v0 : Nat} {Q : State → Prop} (h1 : kd S v0 = 15) (kk : K p l e rX13_mean s m args below meth c 3 w 0 0 Q (sI S 896 v0 0) 9 [(0, .ref v0), (1, .int 0), (2, .int 0)] []) : K p l e rX13_mean s m args below meth c 3 w 0 0 Q S 0 [(0, .ref v0)] [] := by
  refine k_aload_n B 0 rfl rfl dX13_mean_0 ?_
  refine k_iconst (v := 0) B (by decide) dX13_mean_1 ?_
  refine k_putI (f := 896) B 14 0 rfl (by decide) rfl (by decide) rfl rfl (fun w h => in_of (uw_14 w h)) (in_of qfRX13_95) tyX13 tyX13_ok nmX13 rfl (tyX13_ok 0 (by decide)) dX13_mean_2 h1 ?_
  refine k_iconst (v := 0) B (by decide) dX13_mean_5 ?_
  refine k_istore_n (lst' := [(1, .int 0), (0, .ref v0)]) B rfl (by decide) rfl dX13_mean_6 ?_
  refine k_iconst (v := 0) B (by decide) dX13_mean_7 ?_
  refine k_istore_n (lst' := [(2, .int 0), (1, .int 0), (0, .ref v0)]) B rfl (by decide) rfl dX13_mean_8 ?_
  refine k_sub [2, 1, 0] rfl ?_
  exact kk
theorem bX13_mean_9 (B : Bd p s m args meth c cX13_mean 3 (wsOf yX13_mean cX13_mean 3 (some .double)) RX13 w (some .double) "mean") {v0 : Nat} {v1 : Int32} {v2 : Int32} {Q : State → Prop} (h1 : kd S v0 = 15) (kt : (gI S 913 v0) ≤ v2 → K p l e rX13_mean s m args below meth c 3 w 0 0 Q S 35 [(0, .ref v0), (1, .int v1)] []) (kf : ¬ (gI S 913 v0) ≤ v2 → K p l e rX13_mean s m args below meth c 3 w 0 0 Q S 17 [(0, .ref v0), (1, .int v1), (2, .int v2)] []) : K p l e rX13_mean s m args below meth c 3 w 0 0 Q S 9 [(0, .ref v0), (1, .int v1), (2, .int v2)] [] := by
  refine k_iload_n B 2 rfl rfl dX13_mean_9 ?_
  refine k_aload_n B 0 rfl rfl dX13_mean_10 ?_
  refine k_getI (f := 913) (v := gI S 913 v0) B 14 17 rfl (by decide) rfl (by decide) rfl rfl (fun w h => in_of (uw_14 w h)) (in_of qfRX13_117) dX13_mean_11 h1 rfl ?_
  refine k_icmp_ge (tgt := 35) B dX13_mean_14 (by decide) (fun c => ?_) (fun c => ?_)
  · refine k_sub [0, 1] rfl ?_
    exact kt c
  · exact kf c
theorem bX13_mean_17 (B : Bd p s m args meth c cX13_mean 3 (wsOf yX13_mean cX13_mean 3 (some .double)) RX13 w (some .double) "mean") {v0 : Nat} {v1 : Int32} {v2 : Int32} {x1 : Nat} {x2 : Nat} {Q : State → Prop} (h1 : kd S v0 = 15) (h2 : gP S 919 v0 = some x1) (h3 : kd S x1 = 14) (h4 : gP S 835 x1 = some x2) (h5 : kd S x2 = 21) (h6 : vp_in v2 (ln S x2)) (kk : K p l e rX13_mean s m args below meth c 3 w 0 0 Q S 9 [(0, .ref v0), (1, .int (v1 + ((rI S x2) v2.toNatClampNeg))), (2, .int (v2 + 1))] []) : K p l e rX13_mean s m args below meth c 3 w 0 0 Q S 17 [(0, .ref v0), (1, .int v1), (2, .int v2)] [] := by
  refine k_iload_n B 1 rfl rfl dX13_mean_17 ?_
  refine k_aload_n B 0 rfl rfl dX13_mean_18 ?_
  refine k_getP (f := 919) (r := gP S 919 v0) B 14 23 rfl (by decide) rfl (by decide) rfl rfl (fun w h => in_of (uw_14 w h)) (in_of qfRX13_70) dX13_mean_19 h1 rfl ?_
  rw [h2]; change K _ _ _ _ _ _ _ _ _ _ _ _ _ _ _ _ _ _ (.ref x1 :: _)
  refine k_getPN (f := 835) (r := gP S 835 x1) B 13 3 rfl (by decide) rfl (by decide) rfl rfl (fun w h => in_of (uw_13 w h)) "LastMileModel" (nzF_4 B.2.2.2.1.2.2.2.1) dX13_mean_22 h3 rfl ?_
  rw [h4]; change K _ _ _ _ _ _ _ _ _ _ _ _ _ _ _ _ _ _ (.ref x2 :: _)
  refine k_iload_n B 2 rfl rfl dX13_mean_25 ?_
  refine k_iald (v := (rI S x2) v2.toNatClampNeg) B dX13_mean_26 h5 h6 rfl ?_
  refine k_iadd B dX13_mean_27 ?_
  refine k_istore_n (lst' := [(1, .int (v1 + ((rI S x2) v2.toNatClampNeg))), (0, .ref v0), (2, .int v2)]) B rfl (by decide) rfl dX13_mean_28 ?_
  refine k_iinc (v := v2 + 1) (lst' := [(2, .int (v2 + 1)), (1, .int (v1 + ((rI S x2) v2.toNatClampNeg))), (0, .ref v0)]) B 2 rfl rfl (by decide) rfl dX13_mean_29 ?_
  refine k_goto (tgt := 9) B dX13_mean_32 (by decide) ?_
  refine k_sub [2, 1, 0] rfl ?_
  exact kk
theorem bX13_mean_35 (B : Bd p s m args meth c cX13_mean 3 (wsOf yX13_mean cX13_mean 3 (some .double)) RX13 w (some .double) "mean") {v0 : Nat} {v1 : Int32} {Q : State → Prop} (h1 : kd S v0 = 15) (kt : ¬ (gI S 913 v0) = 0 → K p l e rX13_mean s m args below meth c 3 w 0 0 Q S 46 [(0, .ref v0), (1, .int v1)] []) (kf : (gI S 913 v0) = 0 → K p l e rX13_mean s m args below meth c 3 w 0 0 Q S 42 [] []) : K p l e rX13_mean s m args below meth c 3 w 0 0 Q S 35 [(0, .ref v0), (1, .int v1)] [] := by
  refine k_aload_n B 0 rfl rfl dX13_mean_35 ?_
  refine k_getI (f := 913) (v := gI S 913 v0) B 14 17 rfl (by decide) rfl (by decide) rfl rfl (fun w h => in_of (uw_14 w h)) (in_of qfRX13_117) dX13_mean_36 h1 rfl ?_
  refine k_if_ne (tgt := 46) B dX13_mean_39 (by decide) (fun c => ?_) (fun c => ?_)
  · exact kt c
  · refine k_sub [] rfl ?_
    exact kf c
theorem bX13_mean_42 (B : Bd p s m args meth c cX13_mean 3 (wsOf yX13_mean cX13_mean 3 (some .double)) RX13 w (some .double) "mean") {Q : State → Prop}  (kk : K p l e rX13_mean s m args below meth c 3 w 0 0 Q S 54 [] [.double (FP.dconst0)]) : K p l e rX13_mean s m args below meth c 3 w 0 0 Q S 42 [] [] := by
  refine k_dconst0 B dX13_mean_42 ?_
  refine k_goto (tgt := 54) B dX13_mean_43 (by decide) ?_
  exact kk
theorem bX13_mean_46 (B : Bd p s m args meth c cX13_mean 3 (wsOf yX13_mean cX13_mean 3 (some .double)) RX13 w (some .double) "mean") {v0 : Nat} {v1 : Int32} {Q : State → Prop} (h1 : kd S v0 = 15) (h2 : vf_n64 (FP.ddiv (FP.i2d v1) (FP.i2d (gI S 913 v0)))) (kk : K p l e rX13_mean s m args below meth c 3 w 0 0 Q S 54 [] [.double (FP.ddiv (FP.i2d v1) (FP.i2d (gI S 913 v0)))]) : K p l e rX13_mean s m args below meth c 3 w 0 0 Q S 46 [(0, .ref v0), (1, .int v1)] [] := by
  refine k_iload_n B 1 rfl rfl dX13_mean_46 ?_
  refine k_i2d B dX13_mean_47 ?_
  refine k_aload_n B 0 rfl rfl dX13_mean_48 ?_
  refine k_getI (f := 913) (v := gI S 913 v0) B 14 17 rfl (by decide) rfl (by decide) rfl rfl (fun w h => in_of (uw_14 w h)) (in_of qfRX13_117) dX13_mean_49 h1 rfl ?_
  refine k_i2d B dX13_mean_52 ?_
  refine k_ddiv B h2 dX13_mean_53 ?_
  refine k_sub [] rfl ?_
  exact kk
theorem bX13_mean_54 (B : Bd p s m args meth c cX13_mean 3 (wsOf yX13_mean cX13_mean 3 (some .double)) RX13 w (some .double) "mean") {t0 : UInt64} {post : UInt64 → St → Prop}  (hq : post t0 S) : K p l e rX13_mean s m args below meth c 3 w 0 0 (MQ below (va_Qd post (fun S' t => Hd w S' t.heap) (wA w)) args s 0 0 (wA w)) S 54 [] [.double t0] := by
  exact ret_D B rfl dX13_mean_54 (hq)
end BL
