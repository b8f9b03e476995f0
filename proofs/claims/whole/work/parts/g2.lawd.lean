/-! THE BODY OF THE LAW: the cases that a wrapper calls -/
theorem kx13 {w : Wd} {S : St} {T : Tb} {α : Ab} (h : CR w S T α) : kd S (T 0 0) = 13 := h.k (c := 0) (cn1 (by decide))
theorem o2_adds (α : Ab) (a b d : Int32) : (opAdds α a b d).2.2 = α := by
  unfold opAdds
  split <;> rfl
theorem o2_route (α : Ab) (a b : Int32) : (opRoute α a b).2.2 = α := by
  unfold opRoute
  split <;> rfl
theorem o2_stop (α : Ab) (a b d : Int32) : (opStop α a b d).2.2 = α := by
  unfold opStop
  split <;> rfl
theorem o2_cheapest (α : Ab) (a : Int32) : (opCheapest α a).2.2 = α := by
  unfold opCheapest
  split <;> rfl
theorem o2_home (α : Ab) (a b : Int32) : (opTellH α a b).2.2 = α := by
  unfold opTellH
  split <;> rfl
theorem o2_locker (α : Ab) (a b : Int32) : (opTellL α a b).2.2 = α := by
  unfold opTellL
  split <;> rfl
theorem o2_parcel (α : Ab) (a b : Int32) : (opTellP α a b).2.2 = α := by
  unfold opTellP
  split <;> rfl
theorem o2_van (α : Ab) (a b : Int32) : (opTellV α a b).2.2 = α := by
  unfold opTellV
  split <;> rfl
theorem o2_count (α : Ab) (a : Int32) : (opCount α a).2.2 = α := by
  unfold opCount
  split <;> rfl
theorem o2_hour (α : Ab) (a : Int32) : (opHour α a).2.2 = α := by
  unfold opHour
  split <;> rfl
theorem for2 (α : Ab) (a v : Int32) : (if isIx a 3 then ((0, v, α) : Out) else (1, 0, α)).2.2 = α := by split <;> rfl
section LWD
variable {p : Program} {l : Launch} {e : Env} {s : State} {m : MethodId} {args : Array Value} {below : List Frame} {meth : Method} {c : Code} {w : Wd}
theorem law_160 (B : Bd p s m args meth c cL_law 9 WS RL w (some .boolean) "law") {b L x m2 out i : Nat} {xs : Nat → Int32} {f : Nat → Int64} {S1 S2 : St} {L2 : List Nat} {k n : Nat} {Q : State → Prop} (hl : l.stackTraces = false) (hX : va_X b L xs s s.heap) (hbl : b < s.heap.size) (hbA : ¬ wA w b) (hi : i + 6 ≤ L) (hL : L ≤ 3072) (hc : k + 600 ≤ 601024) (hs : n + 4100 ≤ 7293034) (h : LI w x m2 S1 S2 L2) (kk : ∀ (S1 S2 : St) (f : Nat → Int64) (L2 : List Nat) (k' n' : Nat), k' ≤ k + 600 → n' ≤ n + 4100 → LI w x m2 S1 S2 L2 → K p l e rLaw s m args below meth c 9 (sW w out f S2 L2) k' n' Q S1 1770 (lawL b x m2 out i) []) : K p l e rLaw s m args below meth c 9 (sW w out f S2 L2) k n Q S1 160 (lawL b x m2 out i) [] := by
  have B' : ∀ (f : Nat → Int64) (S2 : St) (L2 : List Nat), Bd p s m args meth c cL_law 9 WS RL (sW w out f S2 L2) (some .boolean) "law" := fun _ _ _ => B
  obtain ⟨T, s0, ah, A, α, rfl, hT, hM, hA, h2⟩ := h
  refine k_aload_n (B' _ _ _) 1 rfl rfl dL_law_160 ?_
  refine k_arg (j := 1) (B' _ _ _) hX hbl hbA hi hL (Nat.le_of_ble_eq_true rfl) (j0 := 0) (j4 := 4) rfl rfl (by decide) dL_law_161 dL_law_162 dL_law_164 dL_law_165 dL_law_166 ?_
  refine k_arg (j := 2) (B' _ _ _) hX hbl hbA hi hL (Nat.le_of_ble_eq_true rfl) (j0 := 0) (j4 := 4) rfl rfl (by decide) dL_law_167 dL_law_168 dL_law_170 dL_law_171 dL_law_172 ?_
  refine k_aload_n (B' _ _ _) 3 rfl rfl dL_law_173 ?_
  have hT9 : CR (wo (wset w (va_pl L2 (cellOf w S2))) out f) S1 T α := hT
  refine wcallS (st := []) B [.ref (T 0 0), .int (xs (i + 1)), .int (xs (i + 2)), .ref out] (cL_setRoadsW (kx13 hT) (k_setRoads hl hT9)) (vx_cwSW 4 B.1.2.2.2.2 (gSH0 qlRL_87 qsL_setRoads qzRL qcwL_setRoads) rfl rfl rfl (by decide +kernel) ⟨Nat.le_of_ble_eq_true rfl, Nat.le_of_ble_eq_true rfl⟩) rfl (Nat.le_of_ble_eq_true rfl) rfl dL_law_174 ⟨rm1 hc (Nat.le_of_ble_eq_true rfl), rm1 hs (Nat.le_of_ble_eq_true rfl)⟩ (fun jc S1 f hp => ?_)
  refine k_istore (B' _ _ _) (Nat.le_of_ble_eq_true rfl) rfl dL_law_177 ?_
  refine k_swap h2 (fun L1 h1 => ?_)
  refine k_aload_n (B' _ _ _) 3 rfl rfl dL_law_179 ?_
  refine k_arg (j := 1) (B' _ _ _) hX hbl hbA hi hL (Nat.le_of_ble_eq_true rfl) (j0 := 1) (j4 := 5) rfl rfl (by decide) dL_law_180 dL_law_181 dL_law_183 dL_law_184 dL_law_185 ?_
  refine k_arg (j := 2) (B' _ _ _) hX hbl hbA hi hL (Nat.le_of_ble_eq_true rfl) (j0 := 1) (j4 := 5) rfl rfl (by decide) dL_law_186 dL_law_187 dL_law_189 dL_law_190 dL_law_191 ?_
  refine callV_I (st := []) (B' _ _ _) [.int (xs (i + 1)), .int (xs (i + 2))] (c_setRoads hM ) (cwV 2 B.1.2.2.2.2 (gV0 qlRL_92 qiX13_setRoads qeX13_setRoads qzRX13 qcX13_setRoads) rfl rfl rfl (by decide +kernel) ⟨Nat.le_of_ble_eq_true rfl, Nat.le_of_ble_eq_true rfl⟩) rfl rfl (by decide) hM.1.1 (Nat.le_of_ble_eq_true rfl) rfl dL_law_192 ⟨rm2 hc (Nat.le_of_ble_eq_true rfl), rm2 hs (Nat.le_of_ble_eq_true rfl)⟩ (fun rm S2 hq => ?_)
  refine k_tail (B' _ _ _) (cwV 0 B.1.2.2.2.2 (gV0 qlRL_93 qiX13_thrown qeX13_thrown qzRX13 qcX13_thrown) rfl rfl rfl (by decide +kernel) ⟨Nat.le_of_ble_eq_true rfl, Nat.le_of_ble_eq_true rfl⟩) ⟨dL_law_195, dL_law_197, dL_law_198, dL_law_201, dL_law_203, dL_law_208, dL_law_210, dL_law_213, dL_law_214, dL_law_215, dL_law_216, dL_law_218, dL_law_219, dL_law_220, _, dL_law_225, by decide⟩ (by decide) ⟨rm2 hc (Nat.le_of_ble_eq_true rfl), rm2 hs (Nat.le_of_ble_eq_true rfl)⟩ hq ⟨hp.1, hp.2.1⟩ (fun β b1 b2 => ?_)
  refine k_swap h1 (fun L2 h2 => ?_)
  obtain ⟨T1, hT1, hT2⟩ := hp.2.2
  have hT3 : CR w S1 T1 _ := hT2
  exact kk _ _ _ _ _ _ (rm3 (Nat.le_of_ble_eq_true rfl)) (rm3 (Nat.le_of_ble_eq_true rfl)) ⟨T1, s0, ah, A, β, hT1, CR.frm hT3 b2, b1, AIy.congr b2 (y_roads hA _ _), h2⟩
end LWD
