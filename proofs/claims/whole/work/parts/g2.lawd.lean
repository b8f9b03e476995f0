/-! THE BODY OF THE LAW: the cases that a wrapper calls -/
theorem kx13 {w : Wd} {S : St} {T : Tb} {α : Ab} (h : CR w S T α) : kd S (T 0 0) = 13 := h.k (c := 0) (cn1 (by decide))
theorem o2_adds (α : Ab) (a b d : Int32) : (opAdds α a b d).2.2 = α := by
  unfold opAdds
  split <;> rfl
theorem o2_route (α : Ab) (a b : Int32) : (opRoute α a b).2.2 = α := by
  unfold opRoute
  split <;> rfl
theorem o2_stop (α : Ab) (a b d : Int32) : (opStop α a b d).2.2 = α := by
  unfold opStop
  split <;> rfl
theorem o2_cheapest (α : Ab) (a : Int32) : (opCheapest α a).2.2 = α := by
  unfold opCheapest
  split <;> rfl
theorem o2_home (α : Ab) (a b : Int32) : (opTellH α a b).2.2 = α := by
  unfold opTellH
  split <;> rfl
theorem o2_locker (α : Ab) (a b : Int32) : (opTellL α a b).2.2 = α := by
  unfold opTellL
  split <;> rfl
theorem o2_parcel (α : Ab) (a b : Int32) : (opTellP α a b).2.2 = α := by
  unfold opTellP
  split <;> rfl
theorem o2_van (α : Ab) (a b : Int32) : (opTellV α a b).2.2 = α := by
  unfold opTellV
  split <;> rfl
theorem o2_count (α : Ab) (a : Int32) : (opCount α a).2.2 = α := by
  unfold opCount
  split <;> rfl
theorem o2_hour (α : Ab) (a : Int32) : (opHour α a).2.2 = α := by
  unfold opHour
  split <;> rfl
theorem for2 (α : Ab) (a v : Int32) : (if isIx a 3 then ((0, v, α) : Out) else (1, 0, α)).2.2 = α := by split <;> rfl
section LWD
variable {p : Program} {l : Launch} {e : Env} {s : State} {m : MethodId} {args : Array Value} {below : List Frame} {meth : Method} {c : Code} {w : Wd} {nmL : String}
theorem law_160 (B : Bd p s m args meth c cL_law 9 WS RL w (some .boolean) nmL) {b L x m2 out i : Nat} {xs : Nat → Int32} {f : Nat → Int64} {S1 S2 : St} {L2 : List Nat} {k n : Nat} {Q : State → Prop} (hl : l.stackTraces = false) (hX : va_X b L xs s s.heap) (hbl : b < s.heap.size) (hbA : ¬ wA w b) (hi : i + 6 ≤ L) (hL : L ≤ 3072) (hc : k + 600 ≤ 601024) (hs : n + 4100 ≤ 7293034) (h : LI w x m2 S1 S2 L2) (kk : ∀ (S1 S2 : St) (f : Nat → Int64) (L2 : List Nat) (k' n' : Nat), k' ≤ k + 600 → n' ≤ n + 4100 → LI w x m2 S1 S2 L2 → K p l e rLaw s m args below meth c 9 (sW w out f S2 L2) k' n' Q S1 1770 (lawL b x m2 out i) []) : K p l e rLaw s m args below meth c 9 (sW w out f S2 L2) k n Q S1 160 (lawL b x m2 out i) [] := by
  have B' : ∀ (f : Nat → Int64) (S2 : St) (L2 : List Nat), Bd p s m args meth c cL_law 9 WS RL (sW w out f S2 L2) (some .boolean) nmL := fun _ _ _ => B
  obtain ⟨T, s0, ah, A, α, rfl, hT, hM, hA, h2⟩ := h
  refine k_aload_n (B' _ _ _) 1 rfl rfl dL_law_160 ?_
  refine k_arg (j := 1) (B' _ _ _) hX hbl hbA hi hL (Nat.le_of_ble_eq_true rfl) (j0 := 0) (j4 := 4) rfl rfl (by decide) dL_law_161 dL_law_162 dL_law_164 dL_law_165 dL_law_166 ?_
  refine k_arg (j := 2) (B' _ _ _) hX hbl hbA hi hL (Nat.le_of_ble_eq_true rfl) (j0 := 0) (j4 := 4) rfl rfl (by decide) dL_law_167 dL_law_168 dL_law_170 dL_law_171 dL_law_172 ?_
  refine k_aload_n (B' _ _ _) 3 rfl rfl dL_law_173 ?_
  have hT9 : CR (wo (wset w (va_pl L2 (cellOf w S2))) out f) S1 T α := hT
  refine wcallS (st := []) B [.ref (T 0 0), .int (xs (i + 1)), .int (xs (i + 2)), .ref out] (cL_setRoadsW (kx13 hT) (k_setRoads hl hT9)) (vx_cwSW 4 B.1.2.2.2.2 (gSH0 qlRL_87 qsL_setRoads qzRL qcwL_setRoads) rfl rfl rfl (by decide +kernel) ⟨Nat.le_of_ble_eq_true rfl, Nat.le_of_ble_eq_true rfl⟩) rfl (Nat.le_of_ble_eq_true rfl) rfl dL_law_174 ⟨rm1 hc (Nat.le_of_ble_eq_true rfl), rm1 hs (Nat.le_of_ble_eq_true rfl)⟩ (fun jc S1 f hp => ?_)
  refine k_istore (B' _ _ _) (Nat.le_of_ble_eq_true rfl) rfl dL_law_177 ?_
  refine k_swap h2 (fun L1 h1 => ?_)
  refine k_aload_n (B' _ _ _) 3 rfl rfl dL_law_179 ?_
  refine k_arg (j := 1) (B' _ _ _) hX hbl hbA hi hL (Nat.le_of_ble_eq_true rfl) (j0 := 1) (j4 := 5) rfl rfl (by decide) dL_law_180 dL_law_181 dL_law_183 dL_law_184 dL_law_185 ?_
  refine k_arg (j := 2) (B' _ _ _) hX hbl hbA hi hL (Nat.le_of_ble_eq_true rfl) (j0 := 1) (j4 := 5) rfl rfl (by decide) dL_law_186 dL_law_187 dL_law_189 dL_law_190 dL_law_191 ?_
  refine callV_I (st := []) (B' _ _ _) [.int (xs (i + 1)), .int (xs (i + 2))] (c_setRoads hM ) (cwV 2 B.1.2.2.2.2 (gV0 qlRL_92 qiX13_setRoads qeX13_setRoads qzRX13 qcX13_setRoads) rfl rfl rfl (by decide +kernel) ⟨Nat.le_of_ble_eq_true rfl, Nat.le_of_ble_eq_true rfl⟩) rfl rfl (by decide) hM.1.1 (Nat.le_of_ble_eq_true rfl) rfl dL_law_192 ⟨rm2 hc (Nat.le_of_ble_eq_true rfl), rm2 hs (Nat.le_of_ble_eq_true rfl)⟩ (fun rm S2 hq => ?_)
  refine k_tail (B' _ _ _) (cwV 0 B.1.2.2.2.2 (gV0 qlRL_93 qiX13_thrown qeX13_thrown qzRX13 qcX13_thrown) rfl rfl rfl (by decide +kernel) ⟨Nat.le_of_ble_eq_true rfl, Nat.le_of_ble_eq_true rfl⟩) ⟨dL_law_195, dL_law_197, dL_law_198, dL_law_201, dL_law_203, dL_law_208, dL_law_210, dL_law_213, dL_law_214, dL_law_215, dL_law_216, dL_law_218, dL_law_219, dL_law_220, _, dL_law_225, by decide⟩ (by decide) ⟨rm2 hc (Nat.le_of_ble_eq_true rfl), rm2 hs (Nat.le_of_ble_eq_true rfl)⟩ hq ⟨hp.1, hp.2.1⟩ (fun β b1 b2 => ?_)
  refine k_swap h1 (fun L2 h2 => ?_)
  obtain ⟨T1, hT1, hT2⟩ := hp.2.2
  have hT3 : CR w S1 T1 _ := hT2
  exact kk _ _ _ _ _ _ (rm3 (Nat.le_of_ble_eq_true rfl)) (rm3 (Nat.le_of_ble_eq_true rfl)) ⟨T1, s0, ah, A, β, hT1, CR.frm hT3 b2, b1, AIy.congr b2 (y_roads hA _ _), h2⟩
theorem law_228 (B : Bd p s m args meth c cL_law 9 WS RL w (some .boolean) nmL) {b L x m2 out i : Nat} {xs : Nat → Int32} {f : Nat → Int64} {S1 S2 : St} {L2 : List Nat} {k n : Nat} {Q : State → Prop} (hl : l.stackTraces = false) (hX : va_X b L xs s s.heap) (hbl : b < s.heap.size) (hbA : ¬ wA w b) (hi : i + 6 ≤ L) (hL : L ≤ 3072) (hc : k + 600 ≤ 601024) (hs : n + 4100 ≤ 7293034) (h : LI w x m2 S1 S2 L2) (kk : ∀ (S1 S2 : St) (f : Nat → Int64) (L2 : List Nat) (k' n' : Nat), k' ≤ k + 600 → n' ≤ n + 4100 → LI w x m2 S1 S2 L2 → K p l e rLaw s m args below meth c 9 (sW w out f S2 L2) k' n' Q S1 1770 (lawL b x m2 out i) []) : K p l e rLaw s m args below meth c 9 (sW w out f S2 L2) k n Q S1 228 (lawL b x m2 out i) [] := by
  have B' : ∀ (f : Nat → Int64) (S2 : St) (L2 : List Nat), Bd p s m args meth c cL_law 9 WS RL (sW w out f S2 L2) (some .boolean) nmL := fun _ _ _ => B
  obtain ⟨T, s0, ah, A, α, rfl, hT, hM, hA, h2⟩ := h
  refine k_aload_n (B' _ _ _) 1 rfl rfl dL_law_228 ?_
  refine k_arg (j := 1) (B' _ _ _) hX hbl hbA hi hL (Nat.le_of_ble_eq_true rfl) (j0 := 0) (j4 := 4) rfl rfl (by decide) dL_law_229 dL_law_230 dL_law_232 dL_law_233 dL_law_234 ?_
  refine k_arg (j := 2) (B' _ _ _) hX hbl hbA hi hL (Nat.le_of_ble_eq_true rfl) (j0 := 0) (j4 := 4) rfl rfl (by decide) dL_law_235 dL_law_236 dL_law_238 dL_law_239 dL_law_240 ?_
  refine k_aload_n (B' _ _ _) 3 rfl rfl dL_law_241 ?_
  have hT9 : CR (wo (wset w (va_pl L2 (cellOf w S2))) out f) S1 T α := hT
  refine wcallS (st := []) B [.ref (T 0 0), .int (xs (i + 1)), .int (xs (i + 2)), .ref out] (cL_setDepotW (kx13 hT) (k_setDepot hl hT9)) (vx_cwSW 4 B.1.2.2.2.2 (gSH0 qlRL_97 qsL_setDepot qzRL qcwL_setDepot) rfl rfl rfl (by decide +kernel) ⟨Nat.le_of_ble_eq_true rfl, Nat.le_of_ble_eq_true rfl⟩) rfl (Nat.le_of_ble_eq_true rfl) rfl dL_law_242 ⟨rm1 hc (Nat.le_of_ble_eq_true rfl), rm1 hs (Nat.le_of_ble_eq_true rfl)⟩ (fun jc S1 f hp => ?_)
  refine k_istore (B' _ _ _) (Nat.le_of_ble_eq_true rfl) rfl dL_law_245 ?_
  refine k_swap h2 (fun L1 h1 => ?_)
  refine k_aload_n (B' _ _ _) 3 rfl rfl dL_law_247 ?_
  refine k_arg (j := 1) (B' _ _ _) hX hbl hbA hi hL (Nat.le_of_ble_eq_true rfl) (j0 := 1) (j4 := 5) rfl rfl (by decide) dL_law_248 dL_law_249 dL_law_251 dL_law_252 dL_law_253 ?_
  refine k_arg (j := 2) (B' _ _ _) hX hbl hbA hi hL (Nat.le_of_ble_eq_true rfl) (j0 := 1) (j4 := 5) rfl rfl (by decide) dL_law_254 dL_law_255 dL_law_257 dL_law_258 dL_law_259 ?_
  refine callV_I (st := []) (B' _ _ _) [.int (xs (i + 1)), .int (xs (i + 2))] (c_setDepot hM ) (cwV 2 B.1.2.2.2.2 (gV0 qlRL_99 qiX13_setDepot qeX13_setDepot qzRX13 qcX13_setDepot) rfl rfl rfl (by decide +kernel) ⟨Nat.le_of_ble_eq_true rfl, Nat.le_of_ble_eq_true rfl⟩) rfl rfl (by decide) hM.1.1 (Nat.le_of_ble_eq_true rfl) rfl dL_law_260 ⟨rm2 hc (Nat.le_of_ble_eq_true rfl), rm2 hs (Nat.le_of_ble_eq_true rfl)⟩ (fun rm S2 hq => ?_)
  refine k_tail (B' _ _ _) (cwV 0 B.1.2.2.2.2 (gV0 qlRL_93 qiX13_thrown qeX13_thrown qzRX13 qcX13_thrown) rfl rfl rfl (by decide +kernel) ⟨Nat.le_of_ble_eq_true rfl, Nat.le_of_ble_eq_true rfl⟩) ⟨dL_law_263, dL_law_265, dL_law_266, dL_law_269, dL_law_271, dL_law_276, dL_law_278, dL_law_281, dL_law_282, dL_law_283, dL_law_284, dL_law_286, dL_law_287, dL_law_288, _, dL_law_293, by decide⟩ (by decide) ⟨rm2 hc (Nat.le_of_ble_eq_true rfl), rm2 hs (Nat.le_of_ble_eq_true rfl)⟩ hq ⟨hp.1, hp.2.1⟩ (fun β b1 b2 => ?_)
  refine k_swap h1 (fun L2 h2 => ?_)
  obtain ⟨T1, hT1, hT2⟩ := hp.2.2
  have hT3 : CR w S1 T1 _ := hT2
  exact kk _ _ _ _ _ _ (rm3 (Nat.le_of_ble_eq_true rfl)) (rm3 (Nat.le_of_ble_eq_true rfl)) ⟨T1, s0, ah, A, β, hT1, CR.frm hT3 b2, b1, AIy.congr b2 (y_depot hA _ _), h2⟩
theorem law_296 (B : Bd p s m args meth c cL_law 9 WS RL w (some .boolean) nmL) {b L x m2 out i : Nat} {xs : Nat → Int32} {f : Nat → Int64} {S1 S2 : St} {L2 : List Nat} {k n : Nat} {Q : State → Prop} (hl : l.stackTraces = false) (hX : va_X b L xs s s.heap) (hbl : b < s.heap.size) (hbA : ¬ wA w b) (hi : i + 6 ≤ L) (hL : L ≤ 3072) (hc : k + 600 ≤ 601024) (hs : n + 4100 ≤ 7293034) (h : LI w x m2 S1 S2 L2) (kk : ∀ (S1 S2 : St) (f : Nat → Int64) (L2 : List Nat) (k' n' : Nat), k' ≤ k + 600 → n' ≤ n + 4100 → LI w x m2 S1 S2 L2 → K p l e rLaw s m args below meth c 9 (sW w out f S2 L2) k' n' Q S1 1770 (lawL b x m2 out i) []) : K p l e rLaw s m args below meth c 9 (sW w out f S2 L2) k n Q S1 296 (lawL b x m2 out i) [] := by
  have B' : ∀ (f : Nat → Int64) (S2 : St) (L2 : List Nat), Bd p s m args meth c cL_law 9 WS RL (sW w out f S2 L2) (some .boolean) nmL := fun _ _ _ => B
  obtain ⟨T, s0, ah, A, α, rfl, hT, hM, hA, h2⟩ := h
  refine k_aload_n (B' _ _ _) 1 rfl rfl dL_law_296 ?_
  refine k_arg (j := 1) (B' _ _ _) hX hbl hbA hi hL (Nat.le_of_ble_eq_true rfl) (j0 := 0) (j4 := 4) rfl rfl (by decide) dL_law_297 dL_law_298 dL_law_300 dL_law_301 dL_law_302 ?_
  refine k_arg (j := 2) (B' _ _ _) hX hbl hbA hi hL (Nat.le_of_ble_eq_true rfl) (j0 := 0) (j4 := 4) rfl rfl (by decide) dL_law_303 dL_law_304 dL_law_306 dL_law_307 dL_law_308 ?_
  refine k_arg (j := 3) (B' _ _ _) hX hbl hbA hi hL (Nat.le_of_ble_eq_true rfl) (j0 := 0) (j4 := 4) rfl rfl (by decide) dL_law_309 dL_law_310 dL_law_312 dL_law_313 dL_law_314 ?_
  refine k_aload_n (B' _ _ _) 3 rfl rfl dL_law_315 ?_
  have hT9 : CR (wo (wset w (va_pl L2 (cellOf w S2))) out f) S1 T α := hT
  refine wcallS (st := []) B [.ref (T 0 0), .int (xs (i + 1)), .int (xs (i + 2)), .int (xs (i + 3)), .ref out] (cL_addHomeW (kx13 hT) (k_addHome hl hT9 hA.1)) (vx_cwSW 5 B.1.2.2.2.2 (gSH0 qlRL_100 qsL_addHome qzRL qcwL_addHome) rfl rfl rfl (by decide +kernel) ⟨Nat.le_of_ble_eq_true rfl, Nat.le_of_ble_eq_true rfl⟩) rfl (Nat.le_of_ble_eq_true rfl) rfl dL_law_316 ⟨rm1 hc (Nat.le_of_ble_eq_true rfl), rm1 hs (Nat.le_of_ble_eq_true rfl)⟩ (fun jc S1 f hp => ?_)
  refine k_istore (B' _ _ _) (Nat.le_of_ble_eq_true rfl) rfl dL_law_319 ?_
  refine k_swap h2 (fun L1 h1 => ?_)
  refine k_aload_n (B' _ _ _) 3 rfl rfl dL_law_321 ?_
  refine k_arg (j := 1) (B' _ _ _) hX hbl hbA hi hL (Nat.le_of_ble_eq_true rfl) (j0 := 1) (j4 := 5) rfl rfl (by decide) dL_law_322 dL_law_323 dL_law_325 dL_law_326 dL_law_327 ?_
  refine k_arg (j := 2) (B' _ _ _) hX hbl hbA hi hL (Nat.le_of_ble_eq_true rfl) (j0 := 1) (j4 := 5) rfl rfl (by decide) dL_law_328 dL_law_329 dL_law_331 dL_law_332 dL_law_333 ?_
  refine k_arg (j := 3) (B' _ _ _) hX hbl hbA hi hL (Nat.le_of_ble_eq_true rfl) (j0 := 1) (j4 := 5) rfl rfl (by decide) dL_law_334 dL_law_335 dL_law_337 dL_law_338 dL_law_339 ?_
  refine callV_I (st := []) (B' _ _ _) [.int (xs (i + 1)), .int (xs (i + 2)), .int (xs (i + 3))] (c_addHome hM hA.1.1.1.2.1) (cwV 3 B.1.2.2.2.2 (gV0 qlRL_103 qiX13_addHome qeX13_addHome qzRX13 qcX13_addHome) rfl rfl rfl (by decide +kernel) ⟨Nat.le_of_ble_eq_true rfl, Nat.le_of_ble_eq_true rfl⟩) rfl rfl (by decide) hM.1.1 (Nat.le_of_ble_eq_true rfl) rfl dL_law_340 ⟨rm2 hc (Nat.le_of_ble_eq_true rfl), rm2 hs (Nat.le_of_ble_eq_true rfl)⟩ (fun rm S2 hq => ?_)
  refine k_tail (B' _ _ _) (cwV 0 B.1.2.2.2.2 (gV0 qlRL_93 qiX13_thrown qeX13_thrown qzRX13 qcX13_thrown) rfl rfl rfl (by decide +kernel) ⟨Nat.le_of_ble_eq_true rfl, Nat.le_of_ble_eq_true rfl⟩) ⟨dL_law_343, dL_law_345, dL_law_346, dL_law_349, dL_law_351, dL_law_356, dL_law_358, dL_law_361, dL_law_362, dL_law_363, dL_law_364, dL_law_366, dL_law_367, dL_law_368, _, dL_law_373, by decide⟩ (by decide) ⟨rm2 hc (Nat.le_of_ble_eq_true rfl), rm2 hs (Nat.le_of_ble_eq_true rfl)⟩ hq ⟨hp.1, hp.2.1⟩ (fun β b1 b2 => ?_)
  refine k_swap h1 (fun L2 h2 => ?_)
  obtain ⟨T1, hT1, hT2⟩ := hp.2.2
  have hT3 : CR w S1 T1 _ := hT2
  exact kk _ _ _ _ _ _ (rm3 (Nat.le_of_ble_eq_true rfl)) (rm3 (Nat.le_of_ble_eq_true rfl)) ⟨T1, s0, ah, A, β, hT1, CR.frm hT3 b2, b1, AIy.congr b2 (y_home hA _ _ _), h2⟩
theorem law_376 (B : Bd p s m args meth c cL_law 9 WS RL w (some .boolean) nmL) {b L x m2 out i : Nat} {xs : Nat → Int32} {f : Nat → Int64} {S1 S2 : St} {L2 : List Nat} {k n : Nat} {Q : State → Prop} (hl : l.stackTraces = false) (hX : va_X b L xs s s.heap) (hbl : b < s.heap.size) (hbA : ¬ wA w b) (hi : i + 6 ≤ L) (hL : L ≤ 3072) (hc : k + 600 ≤ 601024) (hs : n + 4100 ≤ 7293034) (h : LI w x m2 S1 S2 L2) (kk : ∀ (S1 S2 : St) (f : Nat → Int64) (L2 : List Nat) (k' n' : Nat), k' ≤ k + 600 → n' ≤ n + 4100 → LI w x m2 S1 S2 L2 → K p l e rLaw s m args below meth c 9 (sW w out f S2 L2) k' n' Q S1 1770 (lawL b x m2 out i) []) : K p l e rLaw s m args below meth c 9 (sW w out f S2 L2) k n Q S1 376 (lawL b x m2 out i) [] := by
  have B' : ∀ (f : Nat → Int64) (S2 : St) (L2 : List Nat), Bd p s m args meth c cL_law 9 WS RL (sW w out f S2 L2) (some .boolean) nmL := fun _ _ _ => B
  obtain ⟨T, s0, ah, A, α, rfl, hT, hM, hA, h2⟩ := h
  refine k_aload_n (B' _ _ _) 1 rfl rfl dL_law_376 ?_
  refine k_arg (j := 1) (B' _ _ _) hX hbl hbA hi hL (Nat.le_of_ble_eq_true rfl) (j0 := 0) (j4 := 4) rfl rfl (by decide) dL_law_377 dL_law_378 dL_law_380 dL_law_381 dL_law_382 ?_
  refine k_arg (j := 2) (B' _ _ _) hX hbl hbA hi hL (Nat.le_of_ble_eq_true rfl) (j0 := 0) (j4 := 4) rfl rfl (by decide) dL_law_383 dL_law_384 dL_law_386 dL_law_387 dL_law_388 ?_
  refine k_bool (B' _ _ _) dL_law_389 (by decide) dL_law_392 dL_law_393 (by decide) dL_law_396 ?_
  refine k_arg (j := 3) (B' _ _ _) hX hbl hbA hi hL (Nat.le_of_ble_eq_true rfl) (j0 := 0) (j4 := 4) rfl rfl (by decide) dL_law_397 dL_law_398 dL_law_400 dL_law_401 dL_law_402 ?_
  refine k_aload_n (B' _ _ _) 3 rfl rfl dL_law_403 ?_
  have hT9 : CR (wo (wset w (va_pl L2 (cellOf w S2))) out f) S1 T α := hT
  refine wcallS (st := []) B [.ref (T 0 0), .int (xs (i + 1)), .int (bz (xs (i + 2))), .int (xs (i + 3)), .ref out] (cL_orderW (kx13 hT) (k_order hl hT9 hA.1)) (vx_cwSW 5 B.1.2.2.2.2 (gSH0 qlRL_104 qsL_order qzRL qcwL_order) rfl rfl rfl (by decide +kernel) ⟨Nat.le_of_ble_eq_true rfl, Nat.le_of_ble_eq_true rfl⟩) rfl (Nat.le_of_ble_eq_true rfl) rfl dL_law_404 ⟨rm1 hc (Nat.le_of_ble_eq_true rfl), rm1 hs (Nat.le_of_ble_eq_true rfl)⟩ (fun jc S1 f hp => ?_)
  refine k_istore (B' _ _ _) (Nat.le_of_ble_eq_true rfl) rfl dL_law_407 ?_
  refine k_swap h2 (fun L1 h1 => ?_)
  refine k_aload_n (B' _ _ _) 3 rfl rfl dL_law_409 ?_
  refine k_arg (j := 1) (B' _ _ _) hX hbl hbA hi hL (Nat.le_of_ble_eq_true rfl) (j0 := 1) (j4 := 5) rfl rfl (by decide) dL_law_410 dL_law_411 dL_law_413 dL_law_414 dL_law_415 ?_
  refine k_arg (j := 2) (B' _ _ _) hX hbl hbA hi hL (Nat.le_of_ble_eq_true rfl) (j0 := 1) (j4 := 5) rfl rfl (by decide) dL_law_416 dL_law_417 dL_law_419 dL_law_420 dL_law_421 ?_
  refine k_bool (B' _ _ _) dL_law_422 (by decide) dL_law_425 dL_law_426 (by decide) dL_law_429 ?_
  refine k_arg (j := 3) (B' _ _ _) hX hbl hbA hi hL (Nat.le_of_ble_eq_true rfl) (j0 := 1) (j4 := 5) rfl rfl (by decide) dL_law_430 dL_law_431 dL_law_433 dL_law_434 dL_law_435 ?_
  refine callV_I (st := []) (B' _ _ _) [.int (xs (i + 1)), .int (bz (xs (i + 2))), .int (xs (i + 3))] (c_order hM hA.1.1.1.2.1 hA.1.1.2.1) (cwV 3 B.1.2.2.2.2 (gV0 qlRL_107 qiX13_order qeX13_order qzRX13 qcX13_order) rfl rfl rfl (by decide +kernel) ⟨Nat.le_of_ble_eq_true rfl, Nat.le_of_ble_eq_true rfl⟩) rfl rfl (by decide) hM.1.1 (Nat.le_of_ble_eq_true rfl) rfl dL_law_436 ⟨rm2 hc (Nat.le_of_ble_eq_true rfl), rm2 hs (Nat.le_of_ble_eq_true rfl)⟩ (fun rm S2 hq => ?_)
  refine k_tail (B' _ _ _) (cwV 0 B.1.2.2.2.2 (gV0 qlRL_93 qiX13_thrown qeX13_thrown qzRX13 qcX13_thrown) rfl rfl rfl (by decide +kernel) ⟨Nat.le_of_ble_eq_true rfl, Nat.le_of_ble_eq_true rfl⟩) ⟨dL_law_439, dL_law_441, dL_law_442, dL_law_445, dL_law_447, dL_law_452, dL_law_454, dL_law_457, dL_law_458, dL_law_459, dL_law_460, dL_law_462, dL_law_463, dL_law_464, _, dL_law_469, by decide⟩ (by decide) ⟨rm2 hc (Nat.le_of_ble_eq_true rfl), rm2 hs (Nat.le_of_ble_eq_true rfl)⟩ hq ⟨hp.1, hp.2.1⟩ (fun β b1 b2 => ?_)
  refine k_swap h1 (fun L2 h2 => ?_)
  obtain ⟨T1, hT1, hT2⟩ := hp.2.2
  have hT3 : CR w S1 T1 _ := hT2
  exact kk _ _ _ _ _ _ (rm3 (Nat.le_of_ble_eq_true rfl)) (rm3 (Nat.le_of_ble_eq_true rfl)) ⟨T1, s0, ah, A, β, hT1, CR.frm hT3 b2, b1, AIy.congr b2 (y_order hA _ _ _), h2⟩
theorem law_472 (B : Bd p s m args meth c cL_law 9 WS RL w (some .boolean) nmL) {b L x m2 out i : Nat} {xs : Nat → Int32} {f : Nat → Int64} {S1 S2 : St} {L2 : List Nat} {k n : Nat} {Q : State → Prop} (hl : l.stackTraces = false) (hX : va_X b L xs s s.heap) (hbl : b < s.heap.size) (hbA : ¬ wA w b) (hi : i + 6 ≤ L) (hL : L ≤ 3072) (hc : k + 600 ≤ 601024) (hs : n + 4100 ≤ 7293034) (h : LI w x m2 S1 S2 L2) (kk : ∀ (S1 S2 : St) (f : Nat → Int64) (L2 : List Nat) (k' n' : Nat), k' ≤ k + 600 → n' ≤ n + 4100 → LI w x m2 S1 S2 L2 → K p l e rLaw s m args below meth c 9 (sW w out f S2 L2) k' n' Q S1 1770 (lawL b x m2 out i) []) : K p l e rLaw s m args below meth c 9 (sW w out f S2 L2) k n Q S1 472 (lawL b x m2 out i) [] := by
  have B' : ∀ (f : Nat → Int64) (S2 : St) (L2 : List Nat), Bd p s m args meth c cL_law 9 WS RL (sW w out f S2 L2) (some .boolean) nmL := fun _ _ _ => B
  obtain ⟨T, s0, ah, A, α, rfl, hT, hM, hA, h2⟩ := h
  refine k_aload_n (B' _ _ _) 1 rfl rfl dL_law_472 ?_
  refine k_arg (j := 1) (B' _ _ _) hX hbl hbA hi hL (Nat.le_of_ble_eq_true rfl) (j0 := 0) (j4 := 4) rfl rfl (by decide) dL_law_473 dL_law_474 dL_law_476 dL_law_477 dL_law_478 ?_
  refine k_arg (j := 2) (B' _ _ _) hX hbl hbA hi hL (Nat.le_of_ble_eq_true rfl) (j0 := 0) (j4 := 4) rfl rfl (by decide) dL_law_479 dL_law_480 dL_law_482 dL_law_483 dL_law_484 ?_
  refine k_arg (j := 3) (B' _ _ _) hX hbl hbA hi hL (Nat.le_of_ble_eq_true rfl) (j0 := 0) (j4 := 4) rfl rfl (by decide) dL_law_485 dL_law_486 dL_law_488 dL_law_489 dL_law_490 ?_
  refine k_arg (j := 4) (B' _ _ _) hX hbl hbA hi hL (Nat.le_of_ble_eq_true rfl) (j0 := 0) (j4 := 4) rfl rfl (by decide) dL_law_491 dL_law_492 dL_law_494 dL_law_495 dL_law_496 ?_
  refine k_arg (j := 5) (B' _ _ _) hX hbl hbA hi hL (Nat.le_of_ble_eq_true rfl) (j0 := 0) (j4 := 4) rfl rfl (by decide) dL_law_497 dL_law_498 dL_law_500 dL_law_501 dL_law_502 ?_
  refine k_aload_n (B' _ _ _) 3 rfl rfl dL_law_503 ?_
  have hT9 : CR (wo (wset w (va_pl L2 (cellOf w S2))) out f) S1 T α := hT
  refine wcallS (st := []) B [.ref (T 0 0), .int (xs (i + 1)), .int (xs (i + 2)), .int (xs (i + 3)), .int (xs (i + 4)), .int (xs (i + 5)), .ref out] (cL_addLockerW (kx13 hT) (k_addLocker hl hT9 hA.1)) (vx_cwSW 7 B.1.2.2.2.2 (gSH0 qlRL_108 qsL_addLocker qzRL qcwL_addLocker) rfl rfl rfl (by decide +kernel) ⟨Nat.le_of_ble_eq_true rfl, Nat.le_of_ble_eq_true rfl⟩) rfl (Nat.le_of_ble_eq_true rfl) rfl dL_law_504 ⟨rm1 hc (Nat.le_of_ble_eq_true rfl), rm1 hs (Nat.le_of_ble_eq_true rfl)⟩ (fun jc S1 f hp => ?_)
  refine k_istore (B' _ _ _) (Nat.le_of_ble_eq_true rfl) rfl dL_law_507 ?_
  refine k_swap h2 (fun L1 h1 => ?_)
  refine k_aload_n (B' _ _ _) 3 rfl rfl dL_law_509 ?_
  refine k_arg (j := 1) (B' _ _ _) hX hbl hbA hi hL (Nat.le_of_ble_eq_true rfl) (j0 := 1) (j4 := 5) rfl rfl (by decide) dL_law_510 dL_law_511 dL_law_513 dL_law_514 dL_law_515 ?_
  refine k_arg (j := 2) (B' _ _ _) hX hbl hbA hi hL (Nat.le_of_ble_eq_true rfl) (j0 := 1) (j4 := 5) rfl rfl (by decide) dL_law_516 dL_law_517 dL_law_519 dL_law_520 dL_law_521 ?_
  refine k_arg (j := 3) (B' _ _ _) hX hbl hbA hi hL (Nat.le_of_ble_eq_true rfl) (j0 := 1) (j4 := 5) rfl rfl (by decide) dL_law_522 dL_law_523 dL_law_525 dL_law_526 dL_law_527 ?_
  refine k_arg (j := 4) (B' _ _ _) hX hbl hbA hi hL (Nat.le_of_ble_eq_true rfl) (j0 := 1) (j4 := 5) rfl rfl (by decide) dL_law_528 dL_law_529 dL_law_531 dL_law_532 dL_law_533 ?_
  refine k_arg (j := 5) (B' _ _ _) hX hbl hbA hi hL (Nat.le_of_ble_eq_true rfl) (j0 := 1) (j4 := 5) rfl rfl (by decide) dL_law_534 dL_law_535 dL_law_537 dL_law_538 dL_law_539 ?_
  refine callV_I (st := []) (B' _ _ _) [.int (xs (i + 1)), .int (xs (i + 2)), .int (xs (i + 3)), .int (xs (i + 4)), .int (xs (i + 5))] (c_addLocker hM hA.1.1.1.2.1) (cwV 5 B.1.2.2.2.2 (gV0 qlRL_111 qiX13_addLocker qeX13_addLocker qzRX13 qcX13_addLocker) rfl rfl rfl (by decide +kernel) ⟨Nat.le_of_ble_eq_true rfl, Nat.le_of_ble_eq_true rfl⟩) rfl rfl (by decide) hM.1.1 (Nat.le_of_ble_eq_true rfl) rfl dL_law_540 ⟨rm2 hc (Nat.le_of_ble_eq_true rfl), rm2 hs (Nat.le_of_ble_eq_true rfl)⟩ (fun rm S2 hq => ?_)
  refine k_tail (B' _ _ _) (cwV 0 B.1.2.2.2.2 (gV0 qlRL_93 qiX13_thrown qeX13_thrown qzRX13 qcX13_thrown) rfl rfl rfl (by decide +kernel) ⟨Nat.le_of_ble_eq_true rfl, Nat.le_of_ble_eq_true rfl⟩) ⟨dL_law_543, dL_law_545, dL_law_546, dL_law_549, dL_law_551, dL_law_556, dL_law_558, dL_law_561, dL_law_562, dL_law_563, dL_law_564, dL_law_566, dL_law_567, dL_law_568, _, dL_law_573, by decide⟩ (by decide) ⟨rm2 hc (Nat.le_of_ble_eq_true rfl), rm2 hs (Nat.le_of_ble_eq_true rfl)⟩ hq ⟨hp.1, hp.2.1⟩ (fun β b1 b2 => ?_)
  refine k_swap h1 (fun L2 h2 => ?_)
  obtain ⟨T1, hT1, hT2⟩ := hp.2.2
  have hT3 : CR w S1 T1 _ := hT2
  exact kk _ _ _ _ _ _ (rm3 (Nat.le_of_ble_eq_true rfl)) (rm3 (Nat.le_of_ble_eq_true rfl)) ⟨T1, s0, ah, A, β, hT1, CR.frm hT3 b2, b1, AIy.congr b2 (y_locker hA _ _ _ _ _), h2⟩
theorem law_576 (B : Bd p s m args meth c cL_law 9 WS RL w (some .boolean) nmL) {b L x m2 out i : Nat} {xs : Nat → Int32} {f : Nat → Int64} {S1 S2 : St} {L2 : List Nat} {k n : Nat} {Q : State → Prop} (hl : l.stackTraces = false) (hX : va_X b L xs s s.heap) (hbl : b < s.heap.size) (hbA : ¬ wA w b) (hi : i + 6 ≤ L) (hL : L ≤ 3072) (hc : k + 600 ≤ 601024) (hs : n + 4100 ≤ 7293034) (h : LI w x m2 S1 S2 L2) (kk : ∀ (S1 S2 : St) (f : Nat → Int64) (L2 : List Nat) (k' n' : Nat), k' ≤ k + 600 → n' ≤ n + 4100 → LI w x m2 S1 S2 L2 → K p l e rLaw s m args below meth c 9 (sW w out f S2 L2) k' n' Q S1 1770 (lawL b x m2 out i) []) : K p l e rLaw s m args below meth c 9 (sW w out f S2 L2) k n Q S1 576 (lawL b x m2 out i) [] := by
  have B' : ∀ (f : Nat → Int64) (S2 : St) (L2 : List Nat), Bd p s m args meth c cL_law 9 WS RL (sW w out f S2 L2) (some .boolean) nmL := fun _ _ _ => B
  obtain ⟨T, s0, ah, A, α, rfl, hT, hM, hA, h2⟩ := h
  refine k_aload_n (B' _ _ _) 1 rfl rfl dL_law_576 ?_
  refine k_arg (j := 1) (B' _ _ _) hX hbl hbA hi hL (Nat.le_of_ble_eq_true rfl) (j0 := 0) (j4 := 4) rfl rfl (by decide) dL_law_577 dL_law_578 dL_law_580 dL_law_581 dL_law_582 ?_
  refine k_arg (j := 2) (B' _ _ _) hX hbl hbA hi hL (Nat.le_of_ble_eq_true rfl) (j0 := 0) (j4 := 4) rfl rfl (by decide) dL_law_583 dL_law_584 dL_law_586 dL_law_587 dL_law_588 ?_
  refine k_arg (j := 3) (B' _ _ _) hX hbl hbA hi hL (Nat.le_of_ble_eq_true rfl) (j0 := 0) (j4 := 4) rfl rfl (by decide) dL_law_589 dL_law_590 dL_law_592 dL_law_593 dL_law_594 ?_
  refine k_aload_n (B' _ _ _) 3 rfl rfl dL_law_595 ?_
  have hT9 : CR (wo (wset w (va_pl L2 (cellOf w S2))) out f) S1 T α := hT
  refine wcallS (st := []) B [.ref (T 0 0), .int (xs (i + 1)), .int (xs (i + 2)), .int (xs (i + 3)), .ref out] (cL_addVanW (kx13 hT) (k_addVan hl hT9 hA.1)) (vx_cwSW 5 B.1.2.2.2.2 (gSH0 qlRL_112 qsL_addVan qzRL qcwL_addVan) rfl rfl rfl (by decide +kernel) ⟨Nat.le_of_ble_eq_true rfl, Nat.le_of_ble_eq_true rfl⟩) rfl (Nat.le_of_ble_eq_true rfl) rfl dL_law_596 ⟨rm1 hc (Nat.le_of_ble_eq_true rfl), rm1 hs (Nat.le_of_ble_eq_true rfl)⟩ (fun jc S1 f hp => ?_)
  refine k_istore (B' _ _ _) (Nat.le_of_ble_eq_true rfl) rfl dL_law_599 ?_
  refine k_swap h2 (fun L1 h1 => ?_)
  refine k_aload_n (B' _ _ _) 3 rfl rfl dL_law_601 ?_
  refine k_arg (j := 1) (B' _ _ _) hX hbl hbA hi hL (Nat.le_of_ble_eq_true rfl) (j0 := 1) (j4 := 5) rfl rfl (by decide) dL_law_602 dL_law_603 dL_law_605 dL_law_606 dL_law_607 ?_
  refine k_arg (j := 2) (B' _ _ _) hX hbl hbA hi hL (Nat.le_of_ble_eq_true rfl) (j0 := 1) (j4 := 5) rfl rfl (by decide) dL_law_608 dL_law_609 dL_law_611 dL_law_612 dL_law_613 ?_
  refine k_arg (j := 3) (B' _ _ _) hX hbl hbA hi hL (Nat.le_of_ble_eq_true rfl) (j0 := 1) (j4 := 5) rfl rfl (by decide) dL_law_614 dL_law_615 dL_law_617 dL_law_618 dL_law_619 ?_
  refine callV_I (st := []) (B' _ _ _) [.int (xs (i + 1)), .int (xs (i + 2)), .int (xs (i + 3))] (c_addVan hM hA.1.1.1.2.1) (cwV 3 B.1.2.2.2.2 (gV0 qlRL_114 qiX13_addVan qeX13_addVan qzRX13 qcX13_addVan) rfl rfl rfl (by decide +kernel) ⟨Nat.le_of_ble_eq_true rfl, Nat.le_of_ble_eq_true rfl⟩) rfl rfl (by decide) hM.1.1 (Nat.le_of_ble_eq_true rfl) rfl dL_law_620 ⟨rm2 hc (Nat.le_of_ble_eq_true rfl), rm2 hs (Nat.le_of_ble_eq_true rfl)⟩ (fun rm S2 hq => ?_)
  refine k_tail (B' _ _ _) (cwV 0 B.1.2.2.2.2 (gV0 qlRL_93 qiX13_thrown qeX13_thrown qzRX13 qcX13_thrown) rfl rfl rfl (by decide +kernel) ⟨Nat.le_of_ble_eq_true rfl, Nat.le_of_ble_eq_true rfl⟩) ⟨dL_law_623, dL_law_625, dL_law_626, dL_law_629, dL_law_631, dL_law_636, dL_law_638, dL_law_641, dL_law_642, dL_law_643, dL_law_644, dL_law_646, dL_law_647, dL_law_648, _, dL_law_653, by decide⟩ (by decide) ⟨rm2 hc (Nat.le_of_ble_eq_true rfl), rm2 hs (Nat.le_of_ble_eq_true rfl)⟩ hq ⟨hp.1, hp.2.1⟩ (fun β b1 b2 => ?_)
  refine k_swap h1 (fun L2 h2 => ?_)
  obtain ⟨T1, hT1, hT2⟩ := hp.2.2
  have hT3 : CR w S1 T1 _ := hT2
  exact kk _ _ _ _ _ _ (rm3 (Nat.le_of_ble_eq_true rfl)) (rm3 (Nat.le_of_ble_eq_true rfl)) ⟨T1, s0, ah, A, β, hT1, CR.frm hT3 b2, b1, AIy.congr b2 (y_van hA _ _ _), h2⟩
theorem law_656 (B : Bd p s m args meth c cL_law 9 WS RL w (some .boolean) nmL) {b L x m2 out i : Nat} {xs : Nat → Int32} {f : Nat → Int64} {S1 S2 : St} {L2 : List Nat} {k n : Nat} {Q : State → Prop} (hl : l.stackTraces = false) (hX : va_X b L xs s s.heap) (hbl : b < s.heap.size) (hbA : ¬ wA w b) (hi : i + 6 ≤ L) (hL : L ≤ 3072) (hc : k + 600 ≤ 601024) (hs : n + 4100 ≤ 7293034) (h : LI w x m2 S1 S2 L2) (kk : ∀ (S1 S2 : St) (f : Nat → Int64) (L2 : List Nat) (k' n' : Nat), k' ≤ k + 600 → n' ≤ n + 4100 → LI w x m2 S1 S2 L2 → K p l e rLaw s m args below meth c 9 (sW w out f S2 L2) k' n' Q S1 1770 (lawL b x m2 out i) []) : K p l e rLaw s m args below meth c 9 (sW w out f S2 L2) k n Q S1 656 (lawL b x m2 out i) [] := by
  have B' : ∀ (f : Nat → Int64) (S2 : St) (L2 : List Nat), Bd p s m args meth c cL_law 9 WS RL (sW w out f S2 L2) (some .boolean) nmL := fun _ _ _ => B
  obtain ⟨T, s0, ah, A, α, rfl, hT, hM, hA, h2⟩ := h
  refine k_aload_n (B' _ _ _) 1 rfl rfl dL_law_656 ?_
  refine k_arg (j := 1) (B' _ _ _) hX hbl hbA hi hL (Nat.le_of_ble_eq_true rfl) (j0 := 0) (j4 := 4) rfl rfl (by decide) dL_law_657 dL_law_658 dL_law_660 dL_law_661 dL_law_662 ?_
  refine k_arg (j := 2) (B' _ _ _) hX hbl hbA hi hL (Nat.le_of_ble_eq_true rfl) (j0 := 0) (j4 := 4) rfl rfl (by decide) dL_law_663 dL_law_664 dL_law_666 dL_law_667 dL_law_668 ?_
  refine k_arg (j := 3) (B' _ _ _) hX hbl hbA hi hL (Nat.le_of_ble_eq_true rfl) (j0 := 0) (j4 := 4) rfl rfl (by decide) dL_law_669 dL_law_670 dL_law_672 dL_law_673 dL_law_674 ?_
  refine k_arg (j := 4) (B' _ _ _) hX hbl hbA hi hL (Nat.le_of_ble_eq_true rfl) (j0 := 0) (j4 := 4) rfl rfl (by decide) dL_law_675 dL_law_676 dL_law_678 dL_law_679 dL_law_680 ?_
  refine k_arg (j := 5) (B' _ _ _) hX hbl hbA hi hL (Nat.le_of_ble_eq_true rfl) (j0 := 0) (j4 := 4) rfl rfl (by decide) dL_law_681 dL_law_682 dL_law_684 dL_law_685 dL_law_686 ?_
  refine k_aload_n (B' _ _ _) 3 rfl rfl dL_law_687 ?_
  have hT9 : CR (wo (wset w (va_pl L2 (cellOf w S2))) out f) S1 T α := hT
  refine wcallS (st := []) B [.ref (T 0 0), .int (xs (i + 1)), .int (xs (i + 2)), .int (xs (i + 3)), .int (xs (i + 4)), .int (xs (i + 5)), .ref out] (cL_addParcelW (kx13 hT) (k_addParcel hl hT9 hA.1)) (vx_cwSW 7 B.1.2.2.2.2 (gSH0 qlRL_115 qsL_addParcel qzRL qcwL_addParcel) rfl rfl rfl (by decide +kernel) ⟨Nat.le_of_ble_eq_true rfl, Nat.le_of_ble_eq_true rfl⟩) rfl (Nat.le_of_ble_eq_true rfl) rfl dL_law_688 ⟨rm1 hc (Nat.le_of_ble_eq_true rfl), rm1 hs (Nat.le_of_ble_eq_true rfl)⟩ (fun jc S1 f hp => ?_)
  refine k_istore (B' _ _ _) (Nat.le_of_ble_eq_true rfl) rfl dL_law_691 ?_
  refine k_swap h2 (fun L1 h1 => ?_)
  refine k_aload_n (B' _ _ _) 3 rfl rfl dL_law_693 ?_
  refine k_arg (j := 1) (B' _ _ _) hX hbl hbA hi hL (Nat.le_of_ble_eq_true rfl) (j0 := 1) (j4 := 5) rfl rfl (by decide) dL_law_694 dL_law_695 dL_law_697 dL_law_698 dL_law_699 ?_
  refine k_arg (j := 2) (B' _ _ _) hX hbl hbA hi hL (Nat.le_of_ble_eq_true rfl) (j0 := 1) (j4 := 5) rfl rfl (by decide) dL_law_700 dL_law_701 dL_law_703 dL_law_704 dL_law_705 ?_
  refine k_arg (j := 3) (B' _ _ _) hX hbl hbA hi hL (Nat.le_of_ble_eq_true rfl) (j0 := 1) (j4 := 5) rfl rfl (by decide) dL_law_706 dL_law_707 dL_law_709 dL_law_710 dL_law_711 ?_
  refine k_arg (j := 4) (B' _ _ _) hX hbl hbA hi hL (Nat.le_of_ble_eq_true rfl) (j0 := 1) (j4 := 5) rfl rfl (by decide) dL_law_712 dL_law_713 dL_law_715 dL_law_716 dL_law_717 ?_
  refine k_arg (j := 5) (B' _ _ _) hX hbl hbA hi hL (Nat.le_of_ble_eq_true rfl) (j0 := 1) (j4 := 5) rfl rfl (by decide) dL_law_718 dL_law_719 dL_law_721 dL_law_722 dL_law_723 ?_
  refine callV_I (st := []) (B' _ _ _) [.int (xs (i + 1)), .int (xs (i + 2)), .int (xs (i + 3)), .int (xs (i + 4)), .int (xs (i + 5))] (c_addParcel hM hA.1.1.1.2.1) (cwV 5 B.1.2.2.2.2 (gV0 qlRL_117 qiX13_addParcel qeX13_addParcel qzRX13 qcX13_addParcel) rfl rfl rfl (by decide +kernel) ⟨Nat.le_of_ble_eq_true rfl, Nat.le_of_ble_eq_true rfl⟩) rfl rfl (by decide) hM.1.1 (Nat.le_of_ble_eq_true rfl) rfl dL_law_724 ⟨rm2 hc (Nat.le_of_ble_eq_true rfl), rm2 hs (Nat.le_of_ble_eq_true rfl)⟩ (fun rm S2 hq => ?_)
  refine k_tail (B' _ _ _) (cwV 0 B.1.2.2.2.2 (gV0 qlRL_93 qiX13_thrown qeX13_thrown qzRX13 qcX13_thrown) rfl rfl rfl (by decide +kernel) ⟨Nat.le_of_ble_eq_true rfl, Nat.le_of_ble_eq_true rfl⟩) ⟨dL_law_727, dL_law_729, dL_law_730, dL_law_733, dL_law_735, dL_law_740, dL_law_742, dL_law_745, dL_law_746, dL_law_747, dL_law_748, dL_law_750, dL_law_751, dL_law_752, _, dL_law_757, by decide⟩ (by decide) ⟨rm2 hc (Nat.le_of_ble_eq_true rfl), rm2 hs (Nat.le_of_ble_eq_true rfl)⟩ hq ⟨hp.1, hp.2.1⟩ (fun β b1 b2 => ?_)
  refine k_swap h1 (fun L2 h2 => ?_)
  obtain ⟨T1, hT1, hT2⟩ := hp.2.2
  have hT3 : CR w S1 T1 _ := hT2
  exact kk _ _ _ _ _ _ (rm3 (Nat.le_of_ble_eq_true rfl)) (rm3 (Nat.le_of_ble_eq_true rfl)) ⟨T1, s0, ah, A, β, hT1, CR.frm hT3 b2, b1, AIy.congr b2 (y_parcel hA _ _ _ _ _), h2⟩
theorem law_760 (B : Bd p s m args meth c cL_law 9 WS RL w (some .boolean) nmL) {b L x m2 out i : Nat} {xs : Nat → Int32} {f : Nat → Int64} {S1 S2 : St} {L2 : List Nat} {k n : Nat} {Q : State → Prop} (hl : l.stackTraces = false) (hX : va_X b L xs s s.heap) (hbl : b < s.heap.size) (hbA : ¬ wA w b) (hi : i + 6 ≤ L) (hL : L ≤ 3072) (hc : k + 600 ≤ 601024) (hs : n + 4100 ≤ 7293034) (h : LI w x m2 S1 S2 L2) (kk : ∀ (S1 S2 : St) (f : Nat → Int64) (L2 : List Nat) (k' n' : Nat), k' ≤ k + 600 → n' ≤ n + 4100 → LI w x m2 S1 S2 L2 → K p l e rLaw s m args below meth c 9 (sW w out f S2 L2) k' n' Q S1 1770 (lawL b x m2 out i) []) : K p l e rLaw s m args below meth c 9 (sW w out f S2 L2) k n Q S1 760 (lawL b x m2 out i) [] := by
  have B' : ∀ (f : Nat → Int64) (S2 : St) (L2 : List Nat), Bd p s m args meth c cL_law 9 WS RL (sW w out f S2 L2) (some .boolean) nmL := fun _ _ _ => B
  obtain ⟨T, s0, ah, A, α, rfl, hT, hM, hA, h2⟩ := h
  refine k_aload_n (B' _ _ _) 1 rfl rfl dL_law_760 ?_
  refine k_arg (j := 1) (B' _ _ _) hX hbl hbA hi hL (Nat.le_of_ble_eq_true rfl) (j0 := 0) (j4 := 4) rfl rfl (by decide) dL_law_761 dL_law_762 dL_law_764 dL_law_765 dL_law_766 ?_
  refine k_arg (j := 2) (B' _ _ _) hX hbl hbA hi hL (Nat.le_of_ble_eq_true rfl) (j0 := 0) (j4 := 4) rfl rfl (by decide) dL_law_767 dL_law_768 dL_law_770 dL_law_771 dL_law_772 ?_
  refine k_aload_n (B' _ _ _) 3 rfl rfl dL_law_773 ?_
  have hT9 : CR (wo (wset w (va_pl L2 (cellOf w S2))) out f) S1 T α := hT
  refine wcallS (st := []) B [.ref (T 0 0), .int (xs (i + 1)), .int (xs (i + 2)), .ref out] (cL_homeW (kx13 hT) (k_home hl hT9 hA.1)) (vx_cwSW 4 B.1.2.2.2.2 (gSH0 qlRL_118 qsL_home qzRL qcwL_home) rfl rfl rfl (by decide +kernel) ⟨Nat.le_of_ble_eq_true rfl, Nat.le_of_ble_eq_true rfl⟩) rfl (Nat.le_of_ble_eq_true rfl) rfl dL_law_774 ⟨rm1 hc (Nat.le_of_ble_eq_true rfl), rm1 hs (Nat.le_of_ble_eq_true rfl)⟩ (fun jc S1 f hp => ?_)
  refine k_istore (B' _ _ _) (Nat.le_of_ble_eq_true rfl) rfl dL_law_777 ?_
  refine k_swap h2 (fun L1 h1 => ?_)
  refine k_aload_n (B' _ _ _) 3 rfl rfl dL_law_779 ?_
  refine k_arg (j := 1) (B' _ _ _) hX hbl hbA hi hL (Nat.le_of_ble_eq_true rfl) (j0 := 1) (j4 := 5) rfl rfl (by decide) dL_law_780 dL_law_781 dL_law_783 dL_law_784 dL_law_785 ?_
  refine k_arg (j := 2) (B' _ _ _) hX hbl hbA hi hL (Nat.le_of_ble_eq_true rfl) (j0 := 1) (j4 := 5) rfl rfl (by decide) dL_law_786 dL_law_787 dL_law_789 dL_law_790 dL_law_791 ?_
  refine callV_I (st := []) (B' _ _ _) [.int (xs (i + 1)), .int (xs (i + 2))] (c_home hM hA.1.1.1.2.1) (cwV 2 B.1.2.2.2.2 (gV0 qlRL_120 qiX13_home qeX13_home qzRX13 qcX13_home) rfl rfl rfl (by decide +kernel) ⟨Nat.le_of_ble_eq_true rfl, Nat.le_of_ble_eq_true rfl⟩) rfl rfl (by decide) hM.1.1 (Nat.le_of_ble_eq_true rfl) rfl dL_law_792 ⟨rm2 hc (Nat.le_of_ble_eq_true rfl), rm2 hs (Nat.le_of_ble_eq_true rfl)⟩ (fun rm S2 hq => ?_)
  refine k_tail (B' _ _ _) (cwV 0 B.1.2.2.2.2 (gV0 qlRL_93 qiX13_thrown qeX13_thrown qzRX13 qcX13_thrown) rfl rfl rfl (by decide +kernel) ⟨Nat.le_of_ble_eq_true rfl, Nat.le_of_ble_eq_true rfl⟩) ⟨dL_law_795, dL_law_797, dL_law_798, dL_law_801, dL_law_803, dL_law_808, dL_law_810, dL_law_813, dL_law_814, dL_law_815, dL_law_816, dL_law_818, dL_law_819, dL_law_820, _, dL_law_825, by decide⟩ (by decide) ⟨rm2 hc (Nat.le_of_ble_eq_true rfl), rm2 hs (Nat.le_of_ble_eq_true rfl)⟩ hq ⟨hp.1, hp.2.1⟩ (fun β b1 b2 => ?_)
  refine k_swap h1 (fun L2 h2 => ?_)
  obtain ⟨T1, hT1, hT2⟩ := hp.2.2
  have hT3 : CR w S1 T1 _ := hT2
  exact kk _ _ _ _ _ _ (rm3 (Nat.le_of_ble_eq_true rfl)) (rm3 (Nat.le_of_ble_eq_true rfl)) ⟨T1, s0, ah, A, β, hT1, CR.frm hT3 b2, b1, AIy.congr b2 ((AIy_eq hA (o2_home ..))), h2⟩
theorem law_828 (B : Bd p s m args meth c cL_law 9 WS RL w (some .boolean) nmL) {b L x m2 out i : Nat} {xs : Nat → Int32} {f : Nat → Int64} {S1 S2 : St} {L2 : List Nat} {k n : Nat} {Q : State → Prop} (hl : l.stackTraces = false) (hX : va_X b L xs s s.heap) (hbl : b < s.heap.size) (hbA : ¬ wA w b) (hi : i + 6 ≤ L) (hL : L ≤ 3072) (hc : k + 600 ≤ 601024) (hs : n + 4100 ≤ 7293034) (h : LI w x m2 S1 S2 L2) (kk : ∀ (S1 S2 : St) (f : Nat → Int64) (L2 : List Nat) (k' n' : Nat), k' ≤ k + 600 → n' ≤ n + 4100 → LI w x m2 S1 S2 L2 → K p l e rLaw s m args below meth c 9 (sW w out f S2 L2) k' n' Q S1 1770 (lawL b x m2 out i) []) : K p l e rLaw s m args below meth c 9 (sW w out f S2 L2) k n Q S1 828 (lawL b x m2 out i) [] := by
  have B' : ∀ (f : Nat → Int64) (S2 : St) (L2 : List Nat), Bd p s m args meth c cL_law 9 WS RL (sW w out f S2 L2) (some .boolean) nmL := fun _ _ _ => B
  obtain ⟨T, s0, ah, A, α, rfl, hT, hM, hA, h2⟩ := h
  refine k_aload_n (B' _ _ _) 1 rfl rfl dL_law_828 ?_
  refine k_arg (j := 1) (B' _ _ _) hX hbl hbA hi hL (Nat.le_of_ble_eq_true rfl) (j0 := 0) (j4 := 4) rfl rfl (by decide) dL_law_829 dL_law_830 dL_law_832 dL_law_833 dL_law_834 ?_
  refine k_arg (j := 2) (B' _ _ _) hX hbl hbA hi hL (Nat.le_of_ble_eq_true rfl) (j0 := 0) (j4 := 4) rfl rfl (by decide) dL_law_835 dL_law_836 dL_law_838 dL_law_839 dL_law_840 ?_
  refine k_aload_n (B' _ _ _) 3 rfl rfl dL_law_841 ?_
  have hT9 : CR (wo (wset w (va_pl L2 (cellOf w S2))) out f) S1 T α := hT
  refine wcallS (st := []) B [.ref (T 0 0), .int (xs (i + 1)), .int (xs (i + 2)), .ref out] (cL_lockerW (kx13 hT) (k_locker hl hT9 hA.1)) (vx_cwSW 4 B.1.2.2.2.2 (gSH0 qlRL_121 qsL_locker qzRL qcwL_locker) rfl rfl rfl (by decide +kernel) ⟨Nat.le_of_ble_eq_true rfl, Nat.le_of_ble_eq_true rfl⟩) rfl (Nat.le_of_ble_eq_true rfl) rfl dL_law_842 ⟨rm1 hc (Nat.le_of_ble_eq_true rfl), rm1 hs (Nat.le_of_ble_eq_true rfl)⟩ (fun jc S1 f hp => ?_)
  refine k_istore (B' _ _ _) (Nat.le_of_ble_eq_true rfl) rfl dL_law_845 ?_
  refine k_swap h2 (fun L1 h1 => ?_)
  refine k_aload_n (B' _ _ _) 3 rfl rfl dL_law_847 ?_
  refine k_arg (j := 1) (B' _ _ _) hX hbl hbA hi hL (Nat.le_of_ble_eq_true rfl) (j0 := 1) (j4 := 5) rfl rfl (by decide) dL_law_848 dL_law_849 dL_law_851 dL_law_852 dL_law_853 ?_
  refine k_arg (j := 2) (B' _ _ _) hX hbl hbA hi hL (Nat.le_of_ble_eq_true rfl) (j0 := 1) (j4 := 5) rfl rfl (by decide) dL_law_854 dL_law_855 dL_law_857 dL_law_858 dL_law_859 ?_
  refine callV_I (st := []) (B' _ _ _) [.int (xs (i + 1)), .int (xs (i + 2))] (c_locker hM hA.1.1.1.2.1) (cwV 2 B.1.2.2.2.2 (gV0 qlRL_123 qiX13_locker qeX13_locker qzRX13 qcX13_locker) rfl rfl rfl (by decide +kernel) ⟨Nat.le_of_ble_eq_true rfl, Nat.le_of_ble_eq_true rfl⟩) rfl rfl (by decide) hM.1.1 (Nat.le_of_ble_eq_true rfl) rfl dL_law_860 ⟨rm2 hc (Nat.le_of_ble_eq_true rfl), rm2 hs (Nat.le_of_ble_eq_true rfl)⟩ (fun rm S2 hq => ?_)
  refine k_tail (B' _ _ _) (cwV 0 B.1.2.2.2.2 (gV0 qlRL_93 qiX13_thrown qeX13_thrown qzRX13 qcX13_thrown) rfl rfl rfl (by decide +kernel) ⟨Nat.le_of_ble_eq_true rfl, Nat.le_of_ble_eq_true rfl⟩) ⟨dL_law_863, dL_law_865, dL_law_866, dL_law_869, dL_law_871, dL_law_876, dL_law_878, dL_law_881, dL_law_882, dL_law_883, dL_law_884, dL_law_886, dL_law_887, dL_law_888, _, dL_law_893, by decide⟩ (by decide) ⟨rm2 hc (Nat.le_of_ble_eq_true rfl), rm2 hs (Nat.le_of_ble_eq_true rfl)⟩ hq ⟨hp.1, hp.2.1⟩ (fun β b1 b2 => ?_)
  refine k_swap h1 (fun L2 h2 => ?_)
  obtain ⟨T1, hT1, hT2⟩ := hp.2.2
  have hT3 : CR w S1 T1 _ := hT2
  exact kk _ _ _ _ _ _ (rm3 (Nat.le_of_ble_eq_true rfl)) (rm3 (Nat.le_of_ble_eq_true rfl)) ⟨T1, s0, ah, A, β, hT1, CR.frm hT3 b2, b1, AIy.congr b2 ((AIy_eq hA (o2_locker ..))), h2⟩
theorem law_896 (B : Bd p s m args meth c cL_law 9 WS RL w (some .boolean) nmL) {b L x m2 out i : Nat} {xs : Nat → Int32} {f : Nat → Int64} {S1 S2 : St} {L2 : List Nat} {k n : Nat} {Q : State → Prop} (hl : l.stackTraces = false) (hX : va_X b L xs s s.heap) (hbl : b < s.heap.size) (hbA : ¬ wA w b) (hi : i + 6 ≤ L) (hL : L ≤ 3072) (hc : k + 600 ≤ 601024) (hs : n + 4100 ≤ 7293034) (h : LI w x m2 S1 S2 L2) (kk : ∀ (S1 S2 : St) (f : Nat → Int64) (L2 : List Nat) (k' n' : Nat), k' ≤ k + 600 → n' ≤ n + 4100 → LI w x m2 S1 S2 L2 → K p l e rLaw s m args below meth c 9 (sW w out f S2 L2) k' n' Q S1 1770 (lawL b x m2 out i) []) : K p l e rLaw s m args below meth c 9 (sW w out f S2 L2) k n Q S1 896 (lawL b x m2 out i) [] := by
  have B' : ∀ (f : Nat → Int64) (S2 : St) (L2 : List Nat), Bd p s m args meth c cL_law 9 WS RL (sW w out f S2 L2) (some .boolean) nmL := fun _ _ _ => B
  obtain ⟨T, s0, ah, A, α, rfl, hT, hM, hA, h2⟩ := h
  refine k_aload_n (B' _ _ _) 1 rfl rfl dL_law_896 ?_
  refine k_arg (j := 1) (B' _ _ _) hX hbl hbA hi hL (Nat.le_of_ble_eq_true rfl) (j0 := 0) (j4 := 4) rfl rfl (by decide) dL_law_897 dL_law_898 dL_law_900 dL_law_901 dL_law_902 ?_
  refine k_arg (j := 2) (B' _ _ _) hX hbl hbA hi hL (Nat.le_of_ble_eq_true rfl) (j0 := 0) (j4 := 4) rfl rfl (by decide) dL_law_903 dL_law_904 dL_law_906 dL_law_907 dL_law_908 ?_
  refine k_aload_n (B' _ _ _) 3 rfl rfl dL_law_909 ?_
  have hT9 : CR (wo (wset w (va_pl L2 (cellOf w S2))) out f) S1 T α := hT
  refine wcallS (st := []) B [.ref (T 0 0), .int (xs (i + 1)), .int (xs (i + 2)), .ref out] (cL_parcelW (kx13 hT) (k_parcel hl hT9 hA.1)) (vx_cwSW 4 B.1.2.2.2.2 (gSH0 qlRL_124 qsL_parcel qzRL qcwL_parcel) rfl rfl rfl (by decide +kernel) ⟨Nat.le_of_ble_eq_true rfl, Nat.le_of_ble_eq_true rfl⟩) rfl (Nat.le_of_ble_eq_true rfl) rfl dL_law_910 ⟨rm1 hc (Nat.le_of_ble_eq_true rfl), rm1 hs (Nat.le_of_ble_eq_true rfl)⟩ (fun jc S1 f hp => ?_)
  refine k_istore (B' _ _ _) (Nat.le_of_ble_eq_true rfl) rfl dL_law_913 ?_
  refine k_swap h2 (fun L1 h1 => ?_)
  refine k_aload_n (B' _ _ _) 3 rfl rfl dL_law_915 ?_
  refine k_arg (j := 1) (B' _ _ _) hX hbl hbA hi hL (Nat.le_of_ble_eq_true rfl) (j0 := 1) (j4 := 5) rfl rfl (by decide) dL_law_916 dL_law_917 dL_law_919 dL_law_920 dL_law_921 ?_
  refine k_arg (j := 2) (B' _ _ _) hX hbl hbA hi hL (Nat.le_of_ble_eq_true rfl) (j0 := 1) (j4 := 5) rfl rfl (by decide) dL_law_922 dL_law_923 dL_law_925 dL_law_926 dL_law_927 ?_
  refine callV_I (st := []) (B' _ _ _) [.int (xs (i + 1)), .int (xs (i + 2))] (c_parcel hM hA.1.1.1) (cwV 2 B.1.2.2.2.2 (gV0 qlRL_126 qiX13_parcel qeX13_parcel qzRX13 qcX13_parcel) rfl rfl rfl (by decide +kernel) ⟨Nat.le_of_ble_eq_true rfl, Nat.le_of_ble_eq_true rfl⟩) rfl rfl (by decide) hM.1.1 (Nat.le_of_ble_eq_true rfl) rfl dL_law_928 ⟨rm2 hc (Nat.le_of_ble_eq_true rfl), rm2 hs (Nat.le_of_ble_eq_true rfl)⟩ (fun rm S2 hq => ?_)
  refine k_tail (B' _ _ _) (cwV 0 B.1.2.2.2.2 (gV0 qlRL_93 qiX13_thrown qeX13_thrown qzRX13 qcX13_thrown) rfl rfl rfl (by decide +kernel) ⟨Nat.le_of_ble_eq_true rfl, Nat.le_of_ble_eq_true rfl⟩) ⟨dL_law_931, dL_law_933, dL_law_934, dL_law_937, dL_law_939, dL_law_944, dL_law_946, dL_law_949, dL_law_950, dL_law_951, dL_law_952, dL_law_954, dL_law_955, dL_law_956, _, dL_law_961, by decide⟩ (by decide) ⟨rm2 hc (Nat.le_of_ble_eq_true rfl), rm2 hs (Nat.le_of_ble_eq_true rfl)⟩ hq ⟨hp.1, hp.2.1⟩ (fun β b1 b2 => ?_)
  refine k_swap h1 (fun L2 h2 => ?_)
  obtain ⟨T1, hT1, hT2⟩ := hp.2.2
  have hT3 : CR w S1 T1 _ := hT2
  exact kk _ _ _ _ _ _ (rm3 (Nat.le_of_ble_eq_true rfl)) (rm3 (Nat.le_of_ble_eq_true rfl)) ⟨T1, s0, ah, A, β, hT1, CR.frm hT3 b2, b1, AIy.congr b2 ((AIy_eq hA (o2_parcel ..))), h2⟩
theorem law_964 (B : Bd p s m args meth c cL_law 9 WS RL w (some .boolean) nmL) {b L x m2 out i : Nat} {xs : Nat → Int32} {f : Nat → Int64} {S1 S2 : St} {L2 : List Nat} {k n : Nat} {Q : State → Prop} (hl : l.stackTraces = false) (hX : va_X b L xs s s.heap) (hbl : b < s.heap.size) (hbA : ¬ wA w b) (hi : i + 6 ≤ L) (hL : L ≤ 3072) (hc : k + 600 ≤ 601024) (hs : n + 4100 ≤ 7293034) (h : LI w x m2 S1 S2 L2) (kk : ∀ (S1 S2 : St) (f : Nat → Int64) (L2 : List Nat) (k' n' : Nat), k' ≤ k + 600 → n' ≤ n + 4100 → LI w x m2 S1 S2 L2 → K p l e rLaw s m args below meth c 9 (sW w out f S2 L2) k' n' Q S1 1770 (lawL b x m2 out i) []) : K p l e rLaw s m args below meth c 9 (sW w out f S2 L2) k n Q S1 964 (lawL b x m2 out i) [] := by
  have B' : ∀ (f : Nat → Int64) (S2 : St) (L2 : List Nat), Bd p s m args meth c cL_law 9 WS RL (sW w out f S2 L2) (some .boolean) nmL := fun _ _ _ => B
  obtain ⟨T, s0, ah, A, α, rfl, hT, hM, hA, h2⟩ := h
  refine k_aload_n (B' _ _ _) 1 rfl rfl dL_law_964 ?_
  refine k_arg (j := 1) (B' _ _ _) hX hbl hbA hi hL (Nat.le_of_ble_eq_true rfl) (j0 := 0) (j4 := 4) rfl rfl (by decide) dL_law_965 dL_law_966 dL_law_968 dL_law_969 dL_law_970 ?_
  refine k_arg (j := 2) (B' _ _ _) hX hbl hbA hi hL (Nat.le_of_ble_eq_true rfl) (j0 := 0) (j4 := 4) rfl rfl (by decide) dL_law_971 dL_law_972 dL_law_974 dL_law_975 dL_law_976 ?_
  refine k_arg (j := 3) (B' _ _ _) hX hbl hbA hi hL (Nat.le_of_ble_eq_true rfl) (j0 := 0) (j4 := 4) rfl rfl (by decide) dL_law_977 dL_law_978 dL_law_980 dL_law_981 dL_law_982 ?_
  refine k_aload_n (B' _ _ _) 3 rfl rfl dL_law_983 ?_
  have hT9 : CR (wo (wset w (va_pl L2 (cellOf w S2))) out f) S1 T α := hT
  refine wcallS (st := []) B [.ref (T 0 0), .int (xs (i + 1)), .int (xs (i + 2)), .int (xs (i + 3)), .ref out] (cL_putW (kx13 hT) (k_put hl hT9 hA.1)) (vx_cwSW 5 B.1.2.2.2.2 (gSH0 qlRL_127 qsL_put qzRL qcwL_put) rfl rfl rfl (by decide +kernel) ⟨Nat.le_of_ble_eq_true rfl, Nat.le_of_ble_eq_true rfl⟩) rfl (Nat.le_of_ble_eq_true rfl) rfl dL_law_984 ⟨rm1 hc (Nat.le_of_ble_eq_true rfl), rm1 hs (Nat.le_of_ble_eq_true rfl)⟩ (fun jc S1 f hp => ?_)
  refine k_istore (B' _ _ _) (Nat.le_of_ble_eq_true rfl) rfl dL_law_987 ?_
  refine k_swap h2 (fun L1 h1 => ?_)
  refine k_aload_n (B' _ _ _) 3 rfl rfl dL_law_989 ?_
  refine k_arg (j := 1) (B' _ _ _) hX hbl hbA hi hL (Nat.le_of_ble_eq_true rfl) (j0 := 1) (j4 := 5) rfl rfl (by decide) dL_law_990 dL_law_991 dL_law_993 dL_law_994 dL_law_995 ?_
  refine k_arg (j := 2) (B' _ _ _) hX hbl hbA hi hL (Nat.le_of_ble_eq_true rfl) (j0 := 1) (j4 := 5) rfl rfl (by decide) dL_law_996 dL_law_997 dL_law_999 dL_law_1000 dL_law_1001 ?_
  refine k_arg (j := 3) (B' _ _ _) hX hbl hbA hi hL (Nat.le_of_ble_eq_true rfl) (j0 := 1) (j4 := 5) rfl rfl (by decide) dL_law_1002 dL_law_1003 dL_law_1005 dL_law_1006 dL_law_1007 ?_
  refine callV_I (st := []) (B' _ _ _) [.int (xs (i + 1)), .int (xs (i + 2)), .int (xs (i + 3))] (c_put hM hA.1.1.1) (cwV 3 B.1.2.2.2.2 (gV0 qlRL_129 qiX13_put qeX13_put qzRX13 qcX13_put) rfl rfl rfl (by decide +kernel) ⟨Nat.le_of_ble_eq_true rfl, Nat.le_of_ble_eq_true rfl⟩) rfl rfl (by decide) hM.1.1 (Nat.le_of_ble_eq_true rfl) rfl dL_law_1008 ⟨rm2 hc (Nat.le_of_ble_eq_true rfl), rm2 hs (Nat.le_of_ble_eq_true rfl)⟩ (fun rm S2 hq => ?_)
  refine k_tail (B' _ _ _) (cwV 0 B.1.2.2.2.2 (gV0 qlRL_93 qiX13_thrown qeX13_thrown qzRX13 qcX13_thrown) rfl rfl rfl (by decide +kernel) ⟨Nat.le_of_ble_eq_true rfl, Nat.le_of_ble_eq_true rfl⟩) ⟨dL_law_1011, dL_law_1013, dL_law_1014, dL_law_1017, dL_law_1019, dL_law_1024, dL_law_1026, dL_law_1029, dL_law_1030, dL_law_1031, dL_law_1032, dL_law_1034, dL_law_1035, dL_law_1036, _, dL_law_1041, by decide⟩ (by decide) ⟨rm2 hc (Nat.le_of_ble_eq_true rfl), rm2 hs (Nat.le_of_ble_eq_true rfl)⟩ hq ⟨hp.1, hp.2.1⟩ (fun β b1 b2 => ?_)
  refine k_swap h1 (fun L2 h2 => ?_)
  obtain ⟨T1, hT1, hT2⟩ := hp.2.2
  have hT3 : CR w S1 T1 _ := hT2
  exact kk _ _ _ _ _ _ (rm3 (Nat.le_of_ble_eq_true rfl)) (rm3 (Nat.le_of_ble_eq_true rfl)) ⟨T1, s0, ah, A, β, hT1, CR.frm hT3 b2, b1, AIy.congr b2 (y_put hA _ _ _), h2⟩
theorem law_1044 (B : Bd p s m args meth c cL_law 9 WS RL w (some .boolean) nmL) {b L x m2 out i : Nat} {xs : Nat → Int32} {f : Nat → Int64} {S1 S2 : St} {L2 : List Nat} {k n : Nat} {Q : State → Prop} (hl : l.stackTraces = false) (hX : va_X b L xs s s.heap) (hbl : b < s.heap.size) (hbA : ¬ wA w b) (hi : i + 6 ≤ L) (hL : L ≤ 3072) (hc : k + 600 ≤ 601024) (hs : n + 4100 ≤ 7293034) (h : LI w x m2 S1 S2 L2) (kk : ∀ (S1 S2 : St) (f : Nat → Int64) (L2 : List Nat) (k' n' : Nat), k' ≤ k + 600 → n' ≤ n + 4100 → LI w x m2 S1 S2 L2 → K p l e rLaw s m args below meth c 9 (sW w out f S2 L2) k' n' Q S1 1770 (lawL b x m2 out i) []) : K p l e rLaw s m args below meth c 9 (sW w out f S2 L2) k n Q S1 1044 (lawL b x m2 out i) [] := by
  have B' : ∀ (f : Nat → Int64) (S2 : St) (L2 : List Nat), Bd p s m args meth c cL_law 9 WS RL (sW w out f S2 L2) (some .boolean) nmL := fun _ _ _ => B
  obtain ⟨T, s0, ah, A, α, rfl, hT, hM, hA, h2⟩ := h
  refine k_aload_n (B' _ _ _) 1 rfl rfl dL_law_1044 ?_
  refine k_arg (j := 1) (B' _ _ _) hX hbl hbA hi hL (Nat.le_of_ble_eq_true rfl) (j0 := 0) (j4 := 4) rfl rfl (by decide) dL_law_1045 dL_law_1046 dL_law_1048 dL_law_1049 dL_law_1050 ?_
  refine k_aload_n (B' _ _ _) 3 rfl rfl dL_law_1051 ?_
  have hT9 : CR (wo (wset w (va_pl L2 (cellOf w S2))) out f) S1 T α := hT
  refine wcallS (st := []) B [.ref (T 0 0), .int (xs (i + 1)), .ref out] (cL_takeW (kx13 hT) (k_take hl hT9 hA.1)) (vx_cwSW 3 B.1.2.2.2.2 (gSH0 qlRL_130 qsL_take qzRL qcwL_take) rfl rfl rfl (by decide +kernel) ⟨Nat.le_of_ble_eq_true rfl, Nat.le_of_ble_eq_true rfl⟩) rfl (Nat.le_of_ble_eq_true rfl) rfl dL_law_1052 ⟨rm1 hc (Nat.le_of_ble_eq_true rfl), rm1 hs (Nat.le_of_ble_eq_true rfl)⟩ (fun jc S1 f hp => ?_)
  refine k_istore (B' _ _ _) (Nat.le_of_ble_eq_true rfl) rfl dL_law_1055 ?_
  refine k_swap h2 (fun L1 h1 => ?_)
  refine k_aload_n (B' _ _ _) 3 rfl rfl dL_law_1057 ?_
  refine k_arg (j := 1) (B' _ _ _) hX hbl hbA hi hL (Nat.le_of_ble_eq_true rfl) (j0 := 1) (j4 := 5) rfl rfl (by decide) dL_law_1058 dL_law_1059 dL_law_1061 dL_law_1062 dL_law_1063 ?_
  refine callV_I (st := []) (B' _ _ _) [.int (xs (i + 1))] (c_take hM hA.1.1.1) (cwV 1 B.1.2.2.2.2 (gV0 qlRL_133 qiX13_take qeX13_take qzRX13 qcX13_take) rfl rfl rfl (by decide +kernel) ⟨Nat.le_of_ble_eq_true rfl, Nat.le_of_ble_eq_true rfl⟩) rfl rfl (by decide) hM.1.1 (Nat.le_of_ble_eq_true rfl) rfl dL_law_1064 ⟨rm2 hc (Nat.le_of_ble_eq_true rfl), rm2 hs (Nat.le_of_ble_eq_true rfl)⟩ (fun rm S2 hq => ?_)
  refine k_tail (B' _ _ _) (cwV 0 B.1.2.2.2.2 (gV0 qlRL_93 qiX13_thrown qeX13_thrown qzRX13 qcX13_thrown) rfl rfl rfl (by decide +kernel) ⟨Nat.le_of_ble_eq_true rfl, Nat.le_of_ble_eq_true rfl⟩) ⟨dL_law_1067, dL_law_1069, dL_law_1070, dL_law_1073, dL_law_1075, dL_law_1080, dL_law_1082, dL_law_1085, dL_law_1086, dL_law_1087, dL_law_1088, dL_law_1090, dL_law_1091, dL_law_1092, _, dL_law_1097, by decide⟩ (by decide) ⟨rm2 hc (Nat.le_of_ble_eq_true rfl), rm2 hs (Nat.le_of_ble_eq_true rfl)⟩ hq ⟨hp.1, hp.2.1⟩ (fun β b1 b2 => ?_)
  refine k_swap h1 (fun L2 h2 => ?_)
  obtain ⟨T1, hT1, hT2⟩ := hp.2.2
  have hT3 : CR w S1 T1 _ := hT2
  exact kk _ _ _ _ _ _ (rm3 (Nat.le_of_ble_eq_true rfl)) (rm3 (Nat.le_of_ble_eq_true rfl)) ⟨T1, s0, ah, A, β, hT1, CR.frm hT3 b2, b1, AIy.congr b2 (y_take hA _), h2⟩
theorem law_1100 (B : Bd p s m args meth c cL_law 9 WS RL w (some .boolean) nmL) {b L x m2 out i : Nat} {xs : Nat → Int32} {f : Nat → Int64} {S1 S2 : St} {L2 : List Nat} {k n : Nat} {Q : State → Prop} (hl : l.stackTraces = false) (hX : va_X b L xs s s.heap) (hbl : b < s.heap.size) (hbA : ¬ wA w b) (hi : i + 6 ≤ L) (hL : L ≤ 3072) (hc : k + 600 ≤ 601024) (hs : n + 4100 ≤ 7293034) (h : LI w x m2 S1 S2 L2) (kk : ∀ (S1 S2 : St) (f : Nat → Int64) (L2 : List Nat) (k' n' : Nat), k' ≤ k + 600 → n' ≤ n + 4100 → LI w x m2 S1 S2 L2 → K p l e rLaw s m args below meth c 9 (sW w out f S2 L2) k' n' Q S1 1770 (lawL b x m2 out i) []) : K p l e rLaw s m args below meth c 9 (sW w out f S2 L2) k n Q S1 1100 (lawL b x m2 out i) [] := by
  have B' : ∀ (f : Nat → Int64) (S2 : St) (L2 : List Nat), Bd p s m args meth c cL_law 9 WS RL (sW w out f S2 L2) (some .boolean) nmL := fun _ _ _ => B
  obtain ⟨T, s0, ah, A, α, rfl, hT, hM, hA, h2⟩ := h
  refine k_aload_n (B' _ _ _) 1 rfl rfl dL_law_1100 ?_
  refine k_arg (j := 1) (B' _ _ _) hX hbl hbA hi hL (Nat.le_of_ble_eq_true rfl) (j0 := 0) (j4 := 4) rfl rfl (by decide) dL_law_1101 dL_law_1102 dL_law_1104 dL_law_1105 dL_law_1106 ?_
  refine k_arg (j := 2) (B' _ _ _) hX hbl hbA hi hL (Nat.le_of_ble_eq_true rfl) (j0 := 0) (j4 := 4) rfl rfl (by decide) dL_law_1107 dL_law_1108 dL_law_1110 dL_law_1111 dL_law_1112 ?_
  refine k_aload_n (B' _ _ _) 3 rfl rfl dL_law_1113 ?_
  have hT9 : CR (wo (wset w (va_pl L2 (cellOf w S2))) out f) S1 T α := hT
  refine wcallS (st := []) B [.ref (T 0 0), .int (xs (i + 1)), .int (xs (i + 2)), .ref out] (cL_routeW (kx13 hT) (k_route hl hT9 hA.1)) (vx_cwSW 4 B.1.2.2.2.2 (gSH0 qlRL_134 qsL_route qzRL qcwL_route) rfl rfl rfl (by decide +kernel) ⟨Nat.le_of_ble_eq_true rfl, Nat.le_of_ble_eq_true rfl⟩) rfl (Nat.le_of_ble_eq_true rfl) rfl dL_law_1114 ⟨rm1 hc (Nat.le_of_ble_eq_true rfl), rm1 hs (Nat.le_of_ble_eq_true rfl)⟩ (fun jc S1 f hp => ?_)
  refine k_istore (B' _ _ _) (Nat.le_of_ble_eq_true rfl) rfl dL_law_1117 ?_
  refine k_swap h2 (fun L1 h1 => ?_)
  refine k_aload_n (B' _ _ _) 3 rfl rfl dL_law_1119 ?_
  refine k_arg (j := 1) (B' _ _ _) hX hbl hbA hi hL (Nat.le_of_ble_eq_true rfl) (j0 := 1) (j4 := 5) rfl rfl (by decide) dL_law_1120 dL_law_1121 dL_law_1123 dL_law_1124 dL_law_1125 ?_
  refine k_arg (j := 2) (B' _ _ _) hX hbl hbA hi hL (Nat.le_of_ble_eq_true rfl) (j0 := 1) (j4 := 5) rfl rfl (by decide) dL_law_1126 dL_law_1127 dL_law_1129 dL_law_1130 dL_law_1131 ?_
  refine callV_I (st := []) (B' _ _ _) [.int (xs (i + 1)), .int (xs (i + 2))] (c_route hM hA.1.1.1) (cwV 2 B.1.2.2.2.2 (gV0 qlRL_136 qiX13_route qeX13_route qzRX13 qcX13_route) rfl rfl rfl (by decide +kernel) ⟨Nat.le_of_ble_eq_true rfl, Nat.le_of_ble_eq_true rfl⟩) rfl rfl (by decide) hM.1.1 (Nat.le_of_ble_eq_true rfl) rfl dL_law_1132 ⟨rm2 hc (Nat.le_of_ble_eq_true rfl), rm2 hs (Nat.le_of_ble_eq_true rfl)⟩ (fun rm S2 hq => ?_)
  refine k_tail (B' _ _ _) (cwV 0 B.1.2.2.2.2 (gV0 qlRL_93 qiX13_thrown qeX13_thrown qzRX13 qcX13_thrown) rfl rfl rfl (by decide +kernel) ⟨Nat.le_of_ble_eq_true rfl, Nat.le_of_ble_eq_true rfl⟩) ⟨dL_law_1135, dL_law_1137, dL_law_1138, dL_law_1141, dL_law_1143, dL_law_1148, dL_law_1150, dL_law_1153, dL_law_1154, dL_law_1155, dL_law_1156, dL_law_1158, dL_law_1159, dL_law_1160, _, dL_law_1165, by decide⟩ (by decide) ⟨rm2 hc (Nat.le_of_ble_eq_true rfl), rm2 hs (Nat.le_of_ble_eq_true rfl)⟩ hq ⟨hp.1, hp.2.1⟩ (fun β b1 b2 => ?_)
  refine k_swap h1 (fun L2 h2 => ?_)
  obtain ⟨T1, hT1, hT2⟩ := hp.2.2
  have hT3 : CR w S1 T1 _ := hT2
  exact kk _ _ _ _ _ _ (rm3 (Nat.le_of_ble_eq_true rfl)) (rm3 (Nat.le_of_ble_eq_true rfl)) ⟨T1, s0, ah, A, β, hT1, CR.frm hT3 b2, b1, AIy.congr b2 ((AIy_eq hA (o2_route ..))), h2⟩
theorem law_1168 (B : Bd p s m args meth c cL_law 9 WS RL w (some .boolean) nmL) {b L x m2 out i : Nat} {xs : Nat → Int32} {f : Nat → Int64} {S1 S2 : St} {L2 : List Nat} {k n : Nat} {Q : State → Prop} (hl : l.stackTraces = false) (hX : va_X b L xs s s.heap) (hbl : b < s.heap.size) (hbA : ¬ wA w b) (hi : i + 6 ≤ L) (hL : L ≤ 3072) (hc : k + 600 ≤ 601024) (hs : n + 4100 ≤ 7293034) (h : LI w x m2 S1 S2 L2) (kk : ∀ (S1 S2 : St) (f : Nat → Int64) (L2 : List Nat) (k' n' : Nat), k' ≤ k + 600 → n' ≤ n + 4100 → LI w x m2 S1 S2 L2 → K p l e rLaw s m args below meth c 9 (sW w out f S2 L2) k' n' Q S1 1770 (lawL b x m2 out i) []) : K p l e rLaw s m args below meth c 9 (sW w out f S2 L2) k n Q S1 1168 (lawL b x m2 out i) [] := by
  have B' : ∀ (f : Nat → Int64) (S2 : St) (L2 : List Nat), Bd p s m args meth c cL_law 9 WS RL (sW w out f S2 L2) (some .boolean) nmL := fun _ _ _ => B
  obtain ⟨T, s0, ah, A, α, rfl, hT, hM, hA, h2⟩ := h
  refine k_aload_n (B' _ _ _) 1 rfl rfl dL_law_1168 ?_
  refine k_arg (j := 1) (B' _ _ _) hX hbl hbA hi hL (Nat.le_of_ble_eq_true rfl) (j0 := 0) (j4 := 4) rfl rfl (by decide) dL_law_1169 dL_law_1170 dL_law_1172 dL_law_1173 dL_law_1174 ?_
  refine k_arg (j := 2) (B' _ _ _) hX hbl hbA hi hL (Nat.le_of_ble_eq_true rfl) (j0 := 0) (j4 := 4) rfl rfl (by decide) dL_law_1175 dL_law_1176 dL_law_1178 dL_law_1179 dL_law_1180 ?_
  refine k_aload_n (B' _ _ _) 3 rfl rfl dL_law_1181 ?_
  have hT9 : CR (wo (wset w (va_pl L2 (cellOf w S2))) out f) S1 T α := hT
  refine wcallS (st := []) B [.ref (T 0 0), .int (xs (i + 1)), .int (xs (i + 2)), .ref out] (cL_vanW (kx13 hT) (k_van hl hT9 hA.1)) (vx_cwSW 4 B.1.2.2.2.2 (gSH0 qlRL_137 qsL_van qzRL qcwL_van) rfl rfl rfl (by decide +kernel) ⟨Nat.le_of_ble_eq_true rfl, Nat.le_of_ble_eq_true rfl⟩) rfl (Nat.le_of_ble_eq_true rfl) rfl dL_law_1182 ⟨rm1 hc (Nat.le_of_ble_eq_true rfl), rm1 hs (Nat.le_of_ble_eq_true rfl)⟩ (fun jc S1 f hp => ?_)
  refine k_istore (B' _ _ _) (Nat.le_of_ble_eq_true rfl) rfl dL_law_1185 ?_
  refine k_swap h2 (fun L1 h1 => ?_)
  refine k_aload_n (B' _ _ _) 3 rfl rfl dL_law_1187 ?_
  refine k_arg (j := 1) (B' _ _ _) hX hbl hbA hi hL (Nat.le_of_ble_eq_true rfl) (j0 := 1) (j4 := 5) rfl rfl (by decide) dL_law_1188 dL_law_1189 dL_law_1191 dL_law_1192 dL_law_1193 ?_
  refine k_arg (j := 2) (B' _ _ _) hX hbl hbA hi hL (Nat.le_of_ble_eq_true rfl) (j0 := 1) (j4 := 5) rfl rfl (by decide) dL_law_1194 dL_law_1195 dL_law_1197 dL_law_1198 dL_law_1199 ?_
  refine callV_I (st := []) (B' _ _ _) [.int (xs (i + 1)), .int (xs (i + 2))] (c_van hM hA.1.1.1) (cwV 2 B.1.2.2.2.2 (gV0 qlRL_139 qiX13_van qeX13_van qzRX13 qcX13_van) rfl rfl rfl (by decide +kernel) ⟨Nat.le_of_ble_eq_true rfl, Nat.le_of_ble_eq_true rfl⟩) rfl rfl (by decide) hM.1.1 (Nat.le_of_ble_eq_true rfl) rfl dL_law_1200 ⟨rm2 hc (Nat.le_of_ble_eq_true rfl), rm2 hs (Nat.le_of_ble_eq_true rfl)⟩ (fun rm S2 hq => ?_)
  refine k_tail (B' _ _ _) (cwV 0 B.1.2.2.2.2 (gV0 qlRL_93 qiX13_thrown qeX13_thrown qzRX13 qcX13_thrown) rfl rfl rfl (by decide +kernel) ⟨Nat.le_of_ble_eq_true rfl, Nat.le_of_ble_eq_true rfl⟩) ⟨dL_law_1203, dL_law_1205, dL_law_1206, dL_law_1209, dL_law_1211, dL_law_1216, dL_law_1218, dL_law_1221, dL_law_1222, dL_law_1223, dL_law_1224, dL_law_1226, dL_law_1227, dL_law_1228, _, dL_law_1233, by decide⟩ (by decide) ⟨rm2 hc (Nat.le_of_ble_eq_true rfl), rm2 hs (Nat.le_of_ble_eq_true rfl)⟩ hq ⟨hp.1, hp.2.1⟩ (fun β b1 b2 => ?_)
  refine k_swap h1 (fun L2 h2 => ?_)
  obtain ⟨T1, hT1, hT2⟩ := hp.2.2
  have hT3 : CR w S1 T1 _ := hT2
  exact kk _ _ _ _ _ _ (rm3 (Nat.le_of_ble_eq_true rfl)) (rm3 (Nat.le_of_ble_eq_true rfl)) ⟨T1, s0, ah, A, β, hT1, CR.frm hT3 b2, b1, AIy.congr b2 ((AIy_eq hA (o2_van ..))), h2⟩
theorem law_1236 (B : Bd p s m args meth c cL_law 9 WS RL w (some .boolean) nmL) {b L x m2 out i : Nat} {xs : Nat → Int32} {f : Nat → Int64} {S1 S2 : St} {L2 : List Nat} {k n : Nat} {Q : State → Prop} (hl : l.stackTraces = false) (hX : va_X b L xs s s.heap) (hbl : b < s.heap.size) (hbA : ¬ wA w b) (hi : i + 6 ≤ L) (hL : L ≤ 3072) (hc : k + 600 ≤ 601024) (hs : n + 4100 ≤ 7293034) (h : LI w x m2 S1 S2 L2) (kk : ∀ (S1 S2 : St) (f : Nat → Int64) (L2 : List Nat) (k' n' : Nat), k' ≤ k + 600 → n' ≤ n + 4100 → LI w x m2 S1 S2 L2 → K p l e rLaw s m args below meth c 9 (sW w out f S2 L2) k' n' Q S1 1770 (lawL b x m2 out i) []) : K p l e rLaw s m args below meth c 9 (sW w out f S2 L2) k n Q S1 1236 (lawL b x m2 out i) [] := by
  have B' : ∀ (f : Nat → Int64) (S2 : St) (L2 : List Nat), Bd p s m args meth c cL_law 9 WS RL (sW w out f S2 L2) (some .boolean) nmL := fun _ _ _ => B
  obtain ⟨T, s0, ah, A, α, rfl, hT, hM, hA, h2⟩ := h
  refine k_aload_n (B' _ _ _) 1 rfl rfl dL_law_1236 ?_
  refine k_arg (j := 1) (B' _ _ _) hX hbl hbA hi hL (Nat.le_of_ble_eq_true rfl) (j0 := 0) (j4 := 4) rfl rfl (by decide) dL_law_1237 dL_law_1238 dL_law_1240 dL_law_1241 dL_law_1242 ?_
  refine k_arg (j := 2) (B' _ _ _) hX hbl hbA hi hL (Nat.le_of_ble_eq_true rfl) (j0 := 0) (j4 := 4) rfl rfl (by decide) dL_law_1243 dL_law_1244 dL_law_1246 dL_law_1247 dL_law_1248 ?_
  refine k_arg (j := 3) (B' _ _ _) hX hbl hbA hi hL (Nat.le_of_ble_eq_true rfl) (j0 := 0) (j4 := 4) rfl rfl (by decide) dL_law_1249 dL_law_1250 dL_law_1252 dL_law_1253 dL_law_1254 ?_
  refine k_aload_n (B' _ _ _) 3 rfl rfl dL_law_1255 ?_
  have hT9 : CR (wo (wset w (va_pl L2 (cellOf w S2))) out f) S1 T α := hT
  refine wcallS (st := []) B [.ref (T 0 0), .int (xs (i + 1)), .int (xs (i + 2)), .int (xs (i + 3)), .ref out] (cL_stopW (kx13 hT) (k_stop hl hT9 hA.1)) (vx_cwSW 5 B.1.2.2.2.2 (gSH0 qlRL_140 qsL_stop qzRL qcwL_stop) rfl rfl rfl (by decide +kernel) ⟨Nat.le_of_ble_eq_true rfl, Nat.le_of_ble_eq_true rfl⟩) rfl (Nat.le_of_ble_eq_true rfl) rfl dL_law_1256 ⟨rm1 hc (Nat.le_of_ble_eq_true rfl), rm1 hs (Nat.le_of_ble_eq_true rfl)⟩ (fun jc S1 f hp => ?_)
  refine k_istore (B' _ _ _) (Nat.le_of_ble_eq_true rfl) rfl dL_law_1259 ?_
  refine k_swap h2 (fun L1 h1 => ?_)
  refine k_aload_n (B' _ _ _) 3 rfl rfl dL_law_1261 ?_
  refine k_arg (j := 1) (B' _ _ _) hX hbl hbA hi hL (Nat.le_of_ble_eq_true rfl) (j0 := 1) (j4 := 5) rfl rfl (by decide) dL_law_1262 dL_law_1263 dL_law_1265 dL_law_1266 dL_law_1267 ?_
  refine k_arg (j := 2) (B' _ _ _) hX hbl hbA hi hL (Nat.le_of_ble_eq_true rfl) (j0 := 1) (j4 := 5) rfl rfl (by decide) dL_law_1268 dL_law_1269 dL_law_1271 dL_law_1272 dL_law_1273 ?_
  refine k_arg (j := 3) (B' _ _ _) hX hbl hbA hi hL (Nat.le_of_ble_eq_true rfl) (j0 := 1) (j4 := 5) rfl rfl (by decide) dL_law_1274 dL_law_1275 dL_law_1277 dL_law_1278 dL_law_1279 ?_
  refine callV_I (st := []) (B' _ _ _) [.int (xs (i + 1)), .int (xs (i + 2)), .int (xs (i + 3))] (c_stop hM hA.1.1.1) (cwV 3 B.1.2.2.2.2 (gV0 qlRL_142 qiX13_stop qeX13_stop qzRX13 qcX13_stop) rfl rfl rfl (by decide +kernel) ⟨Nat.le_of_ble_eq_true rfl, Nat.le_of_ble_eq_true rfl⟩) rfl rfl (by decide) hM.1.1 (Nat.le_of_ble_eq_true rfl) rfl dL_law_1280 ⟨rm2 hc (Nat.le_of_ble_eq_true rfl), rm2 hs (Nat.le_of_ble_eq_true rfl)⟩ (fun rm S2 hq => ?_)
  refine k_tail (B' _ _ _) (cwV 0 B.1.2.2.2.2 (gV0 qlRL_93 qiX13_thrown qeX13_thrown qzRX13 qcX13_thrown) rfl rfl rfl (by decide +kernel) ⟨Nat.le_of_ble_eq_true rfl, Nat.le_of_ble_eq_true rfl⟩) ⟨dL_law_1283, dL_law_1285, dL_law_1286, dL_law_1289, dL_law_1291, dL_law_1296, dL_law_1298, dL_law_1301, dL_law_1302, dL_law_1303, dL_law_1304, dL_law_1306, dL_law_1307, dL_law_1308, _, dL_law_1313, by decide⟩ (by decide) ⟨rm2 hc (Nat.le_of_ble_eq_true rfl), rm2 hs (Nat.le_of_ble_eq_true rfl)⟩ hq ⟨hp.1, hp.2.1⟩ (fun β b1 b2 => ?_)
  refine k_swap h1 (fun L2 h2 => ?_)
  obtain ⟨T1, hT1, hT2⟩ := hp.2.2
  have hT3 : CR w S1 T1 _ := hT2
  exact kk _ _ _ _ _ _ (rm3 (Nat.le_of_ble_eq_true rfl)) (rm3 (Nat.le_of_ble_eq_true rfl)) ⟨T1, s0, ah, A, β, hT1, CR.frm hT3 b2, b1, AIy.congr b2 ((AIy_eq hA (o2_stop ..))), h2⟩
theorem law_1316 (B : Bd p s m args meth c cL_law 9 WS RL w (some .boolean) nmL) {b L x m2 out i : Nat} {xs : Nat → Int32} {f : Nat → Int64} {S1 S2 : St} {L2 : List Nat} {k n : Nat} {Q : State → Prop} (hl : l.stackTraces = false) (hX : va_X b L xs s s.heap) (hbl : b < s.heap.size) (hbA : ¬ wA w b) (hi : i + 6 ≤ L) (hL : L ≤ 3072) (hc : k + 600 ≤ 601024) (hs : n + 4100 ≤ 7293034) (h : LI w x m2 S1 S2 L2) (kk : ∀ (S1 S2 : St) (f : Nat → Int64) (L2 : List Nat) (k' n' : Nat), k' ≤ k + 600 → n' ≤ n + 4100 → LI w x m2 S1 S2 L2 → K p l e rLaw s m args below meth c 9 (sW w out f S2 L2) k' n' Q S1 1770 (lawL b x m2 out i) []) : K p l e rLaw s m args below meth c 9 (sW w out f S2 L2) k n Q S1 1316 (lawL b x m2 out i) [] := by
  have B' : ∀ (f : Nat → Int64) (S2 : St) (L2 : List Nat), Bd p s m args meth c cL_law 9 WS RL (sW w out f S2 L2) (some .boolean) nmL := fun _ _ _ => B
  obtain ⟨T, s0, ah, A, α, rfl, hT, hM, hA, h2⟩ := h
  refine k_aload_n (B' _ _ _) 1 rfl rfl dL_law_1316 ?_
  refine k_arg (j := 1) (B' _ _ _) hX hbl hbA hi hL (Nat.le_of_ble_eq_true rfl) (j0 := 0) (j4 := 4) rfl rfl (by decide) dL_law_1317 dL_law_1318 dL_law_1320 dL_law_1321 dL_law_1322 ?_
  refine k_arg (j := 2) (B' _ _ _) hX hbl hbA hi hL (Nat.le_of_ble_eq_true rfl) (j0 := 0) (j4 := 4) rfl rfl (by decide) dL_law_1323 dL_law_1324 dL_law_1326 dL_law_1327 dL_law_1328 ?_
  refine k_arg (j := 3) (B' _ _ _) hX hbl hbA hi hL (Nat.le_of_ble_eq_true rfl) (j0 := 0) (j4 := 4) rfl rfl (by decide) dL_law_1329 dL_law_1330 dL_law_1332 dL_law_1333 dL_law_1334 ?_
  refine k_aload_n (B' _ _ _) 3 rfl rfl dL_law_1335 ?_
  have hT9 : CR (wo (wset w (va_pl L2 (cellOf w S2))) out f) S1 T α := hT
  refine wcallS (st := []) B [.ref (T 0 0), .int (xs (i + 1)), .int (xs (i + 2)), .int (xs (i + 3)), .ref out] (cL_addsW (kx13 hT) (k_adds hl hT9 hA.1)) (vx_cwSW 5 B.1.2.2.2.2 (gSH0 qlRL_143 qsL_adds qzRL qcwL_adds) rfl rfl rfl (by decide +kernel) ⟨Nat.le_of_ble_eq_true rfl, Nat.le_of_ble_eq_true rfl⟩) rfl (Nat.le_of_ble_eq_true rfl) rfl dL_law_1336 ⟨rm1 hc (Nat.le_of_ble_eq_true rfl), rm1 hs (Nat.le_of_ble_eq_true rfl)⟩ (fun jc S1 f hp => ?_)
  refine k_istore (B' _ _ _) (Nat.le_of_ble_eq_true rfl) rfl dL_law_1339 ?_
  refine k_swap h2 (fun L1 h1 => ?_)
  refine k_aload_n (B' _ _ _) 3 rfl rfl dL_law_1341 ?_
  refine k_arg (j := 1) (B' _ _ _) hX hbl hbA hi hL (Nat.le_of_ble_eq_true rfl) (j0 := 1) (j4 := 5) rfl rfl (by decide) dL_law_1342 dL_law_1343 dL_law_1345 dL_law_1346 dL_law_1347 ?_
  refine k_arg (j := 2) (B' _ _ _) hX hbl hbA hi hL (Nat.le_of_ble_eq_true rfl) (j0 := 1) (j4 := 5) rfl rfl (by decide) dL_law_1348 dL_law_1349 dL_law_1351 dL_law_1352 dL_law_1353 ?_
  refine k_arg (j := 3) (B' _ _ _) hX hbl hbA hi hL (Nat.le_of_ble_eq_true rfl) (j0 := 1) (j4 := 5) rfl rfl (by decide) dL_law_1354 dL_law_1355 dL_law_1357 dL_law_1358 dL_law_1359 ?_
  refine callV_I (st := []) (B' _ _ _) [.int (xs (i + 1)), .int (xs (i + 2)), .int (xs (i + 3))] (c_adds hM hA.1.1.1) (cwV 3 B.1.2.2.2.2 (gV0 qlRL_145 qiX13_adds qeX13_adds qzRX13 qcX13_adds) rfl rfl rfl (by decide +kernel) ⟨Nat.le_of_ble_eq_true rfl, Nat.le_of_ble_eq_true rfl⟩) rfl rfl (by decide) hM.1.1 (Nat.le_of_ble_eq_true rfl) rfl dL_law_1360 ⟨rm2 hc (Nat.le_of_ble_eq_true rfl), rm2 hs (Nat.le_of_ble_eq_true rfl)⟩ (fun rm S2 hq => ?_)
  refine k_tail (B' _ _ _) (cwV 0 B.1.2.2.2.2 (gV0 qlRL_93 qiX13_thrown qeX13_thrown qzRX13 qcX13_thrown) rfl rfl rfl (by decide +kernel) ⟨Nat.le_of_ble_eq_true rfl, Nat.le_of_ble_eq_true rfl⟩) ⟨dL_law_1363, dL_law_1365, dL_law_1366, dL_law_1369, dL_law_1371, dL_law_1376, dL_law_1378, dL_law_1381, dL_law_1382, dL_law_1383, dL_law_1384, dL_law_1386, dL_law_1387, dL_law_1388, _, dL_law_1393, by decide⟩ (by decide) ⟨rm2 hc (Nat.le_of_ble_eq_true rfl), rm2 hs (Nat.le_of_ble_eq_true rfl)⟩ hq ⟨hp.1, hp.2.1⟩ (fun β b1 b2 => ?_)
  refine k_swap h1 (fun L2 h2 => ?_)
  obtain ⟨T1, hT1, hT2⟩ := hp.2.2
  have hT3 : CR w S1 T1 _ := hT2
  exact kk _ _ _ _ _ _ (rm3 (Nat.le_of_ble_eq_true rfl)) (rm3 (Nat.le_of_ble_eq_true rfl)) ⟨T1, s0, ah, A, β, hT1, CR.frm hT3 b2, b1, AIy.congr b2 ((AIy_eq hA (o2_adds ..))), h2⟩
theorem law_1396 (B : Bd p s m args meth c cL_law 9 WS RL w (some .boolean) nmL) {b L x m2 out i : Nat} {xs : Nat → Int32} {f : Nat → Int64} {S1 S2 : St} {L2 : List Nat} {k n : Nat} {Q : State → Prop} (hl : l.stackTraces = false) (hX : va_X b L xs s s.heap) (hbl : b < s.heap.size) (hbA : ¬ wA w b) (hi : i + 6 ≤ L) (hL : L ≤ 3072) (hc : k + 600 ≤ 601024) (hs : n + 4100 ≤ 7293034) (h : LI w x m2 S1 S2 L2) (kk : ∀ (S1 S2 : St) (f : Nat → Int64) (L2 : List Nat) (k' n' : Nat), k' ≤ k + 600 → n' ≤ n + 4100 → LI w x m2 S1 S2 L2 → K p l e rLaw s m args below meth c 9 (sW w out f S2 L2) k' n' Q S1 1770 (lawL b x m2 out i) []) : K p l e rLaw s m args below meth c 9 (sW w out f S2 L2) k n Q S1 1396 (lawL b x m2 out i) [] := by
  have B' : ∀ (f : Nat → Int64) (S2 : St) (L2 : List Nat), Bd p s m args meth c cL_law 9 WS RL (sW w out f S2 L2) (some .boolean) nmL := fun _ _ _ => B
  obtain ⟨T, s0, ah, A, α, rfl, hT, hM, hA, h2⟩ := h
  refine k_aload_n (B' _ _ _) 1 rfl rfl dL_law_1396 ?_
  refine k_arg (j := 1) (B' _ _ _) hX hbl hbA hi hL (Nat.le_of_ble_eq_true rfl) (j0 := 0) (j4 := 4) rfl rfl (by decide) dL_law_1397 dL_law_1398 dL_law_1400 dL_law_1401 dL_law_1402 ?_
  refine k_aload_n (B' _ _ _) 3 rfl rfl dL_law_1403 ?_
  have hT9 : CR (wo (wset w (va_pl L2 (cellOf w S2))) out f) S1 T α := hT
  refine wcallS (st := []) B [.ref (T 0 0), .int (xs (i + 1)), .ref out] (cL_cheapestW (kx13 hT) (k_cheapest hl hT9 hA.1)) (vx_cwSW 3 B.1.2.2.2.2 (gSH0 qlRL_146 qsL_cheapest qzRL qcwL_cheapest) rfl rfl rfl (by decide +kernel) ⟨Nat.le_of_ble_eq_true rfl, Nat.le_of_ble_eq_true rfl⟩) rfl (Nat.le_of_ble_eq_true rfl) rfl dL_law_1404 ⟨rm1 hc (Nat.le_of_ble_eq_true rfl), rm1 hs (Nat.le_of_ble_eq_true rfl)⟩ (fun jc S1 f hp => ?_)
  refine k_istore (B' _ _ _) (Nat.le_of_ble_eq_true rfl) rfl dL_law_1407 ?_
  refine k_swap h2 (fun L1 h1 => ?_)
  refine k_aload_n (B' _ _ _) 3 rfl rfl dL_law_1409 ?_
  refine k_arg (j := 1) (B' _ _ _) hX hbl hbA hi hL (Nat.le_of_ble_eq_true rfl) (j0 := 1) (j4 := 5) rfl rfl (by decide) dL_law_1410 dL_law_1411 dL_law_1413 dL_law_1414 dL_law_1415 ?_
  refine callV_I (st := []) (B' _ _ _) [.int (xs (i + 1))] (c_cheapest hM hA.1.1.1) (cwV 1 B.1.2.2.2.2 (gV0 qlRL_148 qiX13_cheapest qeX13_cheapest qzRX13 qcX13_cheapest) rfl rfl rfl (by decide +kernel) ⟨Nat.le_of_ble_eq_true rfl, Nat.le_of_ble_eq_true rfl⟩) rfl rfl (by decide) hM.1.1 (Nat.le_of_ble_eq_true rfl) rfl dL_law_1416 ⟨rm2 hc (Nat.le_of_ble_eq_true rfl), rm2 hs (Nat.le_of_ble_eq_true rfl)⟩ (fun rm S2 hq => ?_)
  refine k_tail (B' _ _ _) (cwV 0 B.1.2.2.2.2 (gV0 qlRL_93 qiX13_thrown qeX13_thrown qzRX13 qcX13_thrown) rfl rfl rfl (by decide +kernel) ⟨Nat.le_of_ble_eq_true rfl, Nat.le_of_ble_eq_true rfl⟩) ⟨dL_law_1419, dL_law_1421, dL_law_1422, dL_law_1425, dL_law_1427, dL_law_1432, dL_law_1434, dL_law_1437, dL_law_1438, dL_law_1439, dL_law_1440, dL_law_1442, dL_law_1443, dL_law_1444, _, dL_law_1449, by decide⟩ (by decide) ⟨rm2 hc (Nat.le_of_ble_eq_true rfl), rm2 hs (Nat.le_of_ble_eq_true rfl)⟩ hq ⟨hp.1, hp.2.1⟩ (fun β b1 b2 => ?_)
  refine k_swap h1 (fun L2 h2 => ?_)
  obtain ⟨T1, hT1, hT2⟩ := hp.2.2
  have hT3 : CR w S1 T1 _ := hT2
  exact kk _ _ _ _ _ _ (rm3 (Nat.le_of_ble_eq_true rfl)) (rm3 (Nat.le_of_ble_eq_true rfl)) ⟨T1, s0, ah, A, β, hT1, CR.frm hT3 b2, b1, AIy.congr b2 ((AIy_eq hA (o2_cheapest ..))), h2⟩
theorem law_1465 (B : Bd p s m args meth c cL_law 9 WS RL w (some .boolean) nmL) {b L x m2 out i : Nat} {xs : Nat → Int32} {f : Nat → Int64} {S1 S2 : St} {L2 : List Nat} {k n : Nat} {Q : State → Prop} (hl : l.stackTraces = false) (hX : va_X b L xs s s.heap) (hbl : b < s.heap.size) (hbA : ¬ wA w b) (hi : i + 6 ≤ L) (hL : L ≤ 3072) (hc : k + 600 ≤ 601024) (hs : n + 4100 ≤ 7293034) (h : LI w x m2 S1 S2 L2) (kk : ∀ (S1 S2 : St) (f : Nat → Int64) (L2 : List Nat) (k' n' : Nat), k' ≤ k + 600 → n' ≤ n + 4100 → LI w x m2 S1 S2 L2 → K p l e rLaw s m args below meth c 9 (sW w out f S2 L2) k' n' Q S1 1770 (lawL b x m2 out i) []) : K p l e rLaw s m args below meth c 9 (sW w out f S2 L2) k n Q S1 1465 (lawL b x m2 out i) [] := by
  have B' : ∀ (f : Nat → Int64) (S2 : St) (L2 : List Nat), Bd p s m args meth c cL_law 9 WS RL (sW w out f S2 L2) (some .boolean) nmL := fun _ _ _ => B
  obtain ⟨T, s0, ah, A, α, rfl, hT, hM, hA, h2⟩ := h
  refine k_aload_n (B' _ _ _) 1 rfl rfl dL_law_1465 ?_
  refine k_arg (j := 1) (B' _ _ _) hX hbl hbA hi hL (Nat.le_of_ble_eq_true rfl) (j0 := 0) (j4 := 4) rfl rfl (by decide) dL_law_1466 dL_law_1467 dL_law_1469 dL_law_1470 dL_law_1471 ?_
  refine k_aload_n (B' _ _ _) 3 rfl rfl dL_law_1472 ?_
  have hT9 : CR (wo (wset w (va_pl L2 (cellOf w S2))) out f) S1 T α := hT
  refine wcallS (st := []) B [.ref (T 0 0), .int (xs (i + 1)), .ref out] (cL_improveW (kx13 hT) (k_improve hl hT9 hA.1)) (vx_cwSW 3 B.1.2.2.2.2 (gSH0 qlRL_153 qsL_improve qzRL qcwL_improve) rfl rfl rfl (by decide +kernel) ⟨Nat.le_of_ble_eq_true rfl, Nat.le_of_ble_eq_true rfl⟩) rfl (Nat.le_of_ble_eq_true rfl) rfl dL_law_1473 ⟨rm1 hc (Nat.le_of_ble_eq_true rfl), rm1 hs (Nat.le_of_ble_eq_true rfl)⟩ (fun jc S1 f hp => ?_)
  refine k_istore (B' _ _ _) (Nat.le_of_ble_eq_true rfl) rfl dL_law_1476 ?_
  refine k_swap h2 (fun L1 h1 => ?_)
  refine k_aload_n (B' _ _ _) 3 rfl rfl dL_law_1478 ?_
  refine k_arg (j := 1) (B' _ _ _) hX hbl hbA hi hL (Nat.le_of_ble_eq_true rfl) (j0 := 1) (j4 := 5) rfl rfl (by decide) dL_law_1479 dL_law_1480 dL_law_1482 dL_law_1483 dL_law_1484 ?_
  refine callV_I (st := []) (B' _ _ _) [.int (xs (i + 1))] (c_improve hM hA.1.1.1) (cwV 1 B.1.2.2.2.2 (gV0 qlRL_155 qiX13_improve qeX13_improve qzRX13 qcX13_improve) rfl rfl rfl (by decide +kernel) ⟨Nat.le_of_ble_eq_true rfl, Nat.le_of_ble_eq_true rfl⟩) rfl rfl (by decide) hM.1.1 (Nat.le_of_ble_eq_true rfl) rfl dL_law_1485 ⟨rm2 hc (Nat.le_of_ble_eq_true rfl), rm2 hs (Nat.le_of_ble_eq_true rfl)⟩ (fun rm S2 hq => ?_)
  refine k_tail (B' _ _ _) (cwV 0 B.1.2.2.2.2 (gV0 qlRL_93 qiX13_thrown qeX13_thrown qzRX13 qcX13_thrown) rfl rfl rfl (by decide +kernel) ⟨Nat.le_of_ble_eq_true rfl, Nat.le_of_ble_eq_true rfl⟩) ⟨dL_law_1488, dL_law_1490, dL_law_1491, dL_law_1494, dL_law_1496, dL_law_1501, dL_law_1503, dL_law_1506, dL_law_1507, dL_law_1508, dL_law_1509, dL_law_1511, dL_law_1512, dL_law_1513, _, dL_law_1518, by decide⟩ (by decide) ⟨rm2 hc (Nat.le_of_ble_eq_true rfl), rm2 hs (Nat.le_of_ble_eq_true rfl)⟩ hq ⟨hp.1, hp.2.1⟩ (fun β b1 b2 => ?_)
  refine k_swap h1 (fun L2 h2 => ?_)
  obtain ⟨T1, hT1, hT2⟩ := hp.2.2
  have hT3 : CR w S1 T1 _ := hT2
  exact kk _ _ _ _ _ _ (rm3 (Nat.le_of_ble_eq_true rfl)) (rm3 (Nat.le_of_ble_eq_true rfl)) ⟨T1, s0, ah, A, β, hT1, CR.frm hT3 b2, b1, AIy.congr b2 (y_improve hA _), h2⟩
theorem law_1534 (B : Bd p s m args meth c cL_law 9 WS RL w (some .boolean) nmL) {b L x m2 out i : Nat} {xs : Nat → Int32} {f : Nat → Int64} {S1 S2 : St} {L2 : List Nat} {k n : Nat} {Q : State → Prop} (hl : l.stackTraces = false) (hX : va_X b L xs s s.heap) (hbl : b < s.heap.size) (hbA : ¬ wA w b) (hi : i + 6 ≤ L) (hL : L ≤ 3072) (hc : k + 600 ≤ 601024) (hs : n + 4100 ≤ 7293034) (h : LI w x m2 S1 S2 L2) (kk : ∀ (S1 S2 : St) (f : Nat → Int64) (L2 : List Nat) (k' n' : Nat), k' ≤ k + 600 → n' ≤ n + 4100 → LI w x m2 S1 S2 L2 → K p l e rLaw s m args below meth c 9 (sW w out f S2 L2) k' n' Q S1 1770 (lawL b x m2 out i) []) : K p l e rLaw s m args below meth c 9 (sW w out f S2 L2) k n Q S1 1534 (lawL b x m2 out i) [] := by
  have B' : ∀ (f : Nat → Int64) (S2 : St) (L2 : List Nat), Bd p s m args meth c cL_law 9 WS RL (sW w out f S2 L2) (some .boolean) nmL := fun _ _ _ => B
  obtain ⟨T, s0, ah, A, α, rfl, hT, hM, hA, h2⟩ := h
  refine k_aload_n (B' _ _ _) 1 rfl rfl dL_law_1534 ?_
  refine k_arg (j := 1) (B' _ _ _) hX hbl hbA hi hL (Nat.le_of_ble_eq_true rfl) (j0 := 0) (j4 := 4) rfl rfl (by decide) dL_law_1535 dL_law_1536 dL_law_1538 dL_law_1539 dL_law_1540 ?_
  refine k_aload_n (B' _ _ _) 3 rfl rfl dL_law_1541 ?_
  have hT9 : CR (wo (wset w (va_pl L2 (cellOf w S2))) out f) S1 T α := hT
  refine wcallS (st := []) B [.ref (T 0 0), .int (xs (i + 1)), .ref out] (cL_countW (kx13 hT) (k_count hl hT9 hA.1)) (vx_cwSW 3 B.1.2.2.2.2 (gSH0 qlRL_160 qsL_count qzRL qcwL_count) rfl rfl rfl (by decide +kernel) ⟨Nat.le_of_ble_eq_true rfl, Nat.le_of_ble_eq_true rfl⟩) rfl (Nat.le_of_ble_eq_true rfl) rfl dL_law_1542 ⟨rm1 hc (Nat.le_of_ble_eq_true rfl), rm1 hs (Nat.le_of_ble_eq_true rfl)⟩ (fun jc S1 f hp => ?_)
  refine k_istore (B' _ _ _) (Nat.le_of_ble_eq_true rfl) rfl dL_law_1545 ?_
  refine k_swap h2 (fun L1 h1 => ?_)
  refine k_aload_n (B' _ _ _) 3 rfl rfl dL_law_1547 ?_
  refine k_arg (j := 1) (B' _ _ _) hX hbl hbA hi hL (Nat.le_of_ble_eq_true rfl) (j0 := 1) (j4 := 5) rfl rfl (by decide) dL_law_1548 dL_law_1549 dL_law_1551 dL_law_1552 dL_law_1553 ?_
  refine callV_I (st := []) (B' _ _ _) [.int (xs (i + 1))] (c_count hM hA.1.1.1) (cwV 1 B.1.2.2.2.2 (gV0 qlRL_162 qiX13_count qeX13_count qzRX13 qcX13_count) rfl rfl rfl (by decide +kernel) ⟨Nat.le_of_ble_eq_true rfl, Nat.le_of_ble_eq_true rfl⟩) rfl rfl (by decide) hM.1.1 (Nat.le_of_ble_eq_true rfl) rfl dL_law_1554 ⟨rm2 hc (Nat.le_of_ble_eq_true rfl), rm2 hs (Nat.le_of_ble_eq_true rfl)⟩ (fun rm S2 hq => ?_)
  refine k_tail (B' _ _ _) (cwV 0 B.1.2.2.2.2 (gV0 qlRL_93 qiX13_thrown qeX13_thrown qzRX13 qcX13_thrown) rfl rfl rfl (by decide +kernel) ⟨Nat.le_of_ble_eq_true rfl, Nat.le_of_ble_eq_true rfl⟩) ⟨dL_law_1557, dL_law_1559, dL_law_1560, dL_law_1563, dL_law_1565, dL_law_1570, dL_law_1572, dL_law_1575, dL_law_1576, dL_law_1577, dL_law_1578, dL_law_1580, dL_law_1581, dL_law_1582, _, dL_law_1587, by decide⟩ (by decide) ⟨rm2 hc (Nat.le_of_ble_eq_true rfl), rm2 hs (Nat.le_of_ble_eq_true rfl)⟩ hq ⟨hp.1, hp.2.1⟩ (fun β b1 b2 => ?_)
  refine k_swap h1 (fun L2 h2 => ?_)
  obtain ⟨T1, hT1, hT2⟩ := hp.2.2
  have hT3 : CR w S1 T1 _ := hT2
  exact kk _ _ _ _ _ _ (rm3 (Nat.le_of_ble_eq_true rfl)) (rm3 (Nat.le_of_ble_eq_true rfl)) ⟨T1, s0, ah, A, β, hT1, CR.frm hT3 b2, b1, AIy.congr b2 ((AIy_eq hA (o2_count ..))), h2⟩
theorem law_1603 (B : Bd p s m args meth c cL_law 9 WS RL w (some .boolean) nmL) {b L x m2 out i : Nat} {xs : Nat → Int32} {f : Nat → Int64} {S1 S2 : St} {L2 : List Nat} {k n : Nat} {Q : State → Prop} (hl : l.stackTraces = false) (hX : va_X b L xs s s.heap) (hbl : b < s.heap.size) (hbA : ¬ wA w b) (hi : i + 6 ≤ L) (hL : L ≤ 3072) (hc : k + 600 ≤ 601024) (hs : n + 4100 ≤ 7293034) (h : LI w x m2 S1 S2 L2) (kk : ∀ (S1 S2 : St) (f : Nat → Int64) (L2 : List Nat) (k' n' : Nat), k' ≤ k + 600 → n' ≤ n + 4100 → LI w x m2 S1 S2 L2 → K p l e rLaw s m args below meth c 9 (sW w out f S2 L2) k' n' Q S1 1770 (lawL b x m2 out i) []) : K p l e rLaw s m args below meth c 9 (sW w out f S2 L2) k n Q S1 1603 (lawL b x m2 out i) [] := by
  have B' : ∀ (f : Nat → Int64) (S2 : St) (L2 : List Nat), Bd p s m args meth c cL_law 9 WS RL (sW w out f S2 L2) (some .boolean) nmL := fun _ _ _ => B
  obtain ⟨T, s0, ah, A, α, rfl, hT, hM, hA, h2⟩ := h
  refine k_aload_n (B' _ _ _) 1 rfl rfl dL_law_1603 ?_
  refine k_arg (j := 1) (B' _ _ _) hX hbl hbA hi hL (Nat.le_of_ble_eq_true rfl) (j0 := 0) (j4 := 4) rfl rfl (by decide) dL_law_1604 dL_law_1605 dL_law_1607 dL_law_1608 dL_law_1609 ?_
  refine k_aload_n (B' _ _ _) 3 rfl rfl dL_law_1610 ?_
  have hT0 := hT.frm (FrM.th (v := 0))
  have hA0 : AIy (au α 896 0 0) := AIy.congr FrM.th hA
  have hT9 : CR (wo (wset w (va_pl L2 (cellOf w S2))) out f) S1 T (au α 896 0 0) := hT0
  refine wcallS (st := []) B [.ref (T 0 0), .int (xs (i + 1)), .ref out] (cL_foreseeW (kx13 hT) (k_foresee hl hT9 hA0)) (vx_cwSW 3 B.1.2.2.2.2 (gSH0 qlRL_167 qsL_foresee qzRL qcwL_foresee) rfl rfl rfl (by decide +kernel) ⟨Nat.le_of_ble_eq_true rfl, Nat.le_of_ble_eq_true rfl⟩) rfl (Nat.le_of_ble_eq_true rfl) rfl dL_law_1611 ⟨rm1 hc (Nat.le_of_ble_eq_true rfl), rm1 hs (Nat.le_of_ble_eq_true rfl)⟩ (fun jc S1 f hp => ?_)
  refine k_istore (B' _ _ _) (Nat.le_of_ble_eq_true rfl) rfl dL_law_1614 ?_
  refine k_swap h2 (fun L1 h1 => ?_)
  refine k_aload_n (B' _ _ _) 3 rfl rfl dL_law_1616 ?_
  refine k_arg (j := 1) (B' _ _ _) hX hbl hbA hi hL (Nat.le_of_ble_eq_true rfl) (j0 := 1) (j4 := 5) rfl rfl (by decide) dL_law_1617 dL_law_1618 dL_law_1620 dL_law_1621 dL_law_1622 ?_
  refine callV_I (st := []) (B' _ _ _) [.int (xs (i + 1))] (c_mforesee2 hM hA.1.1) (cwV 1 B.1.2.2.2.2 (gV0 qlRL_169 qiX13_foresee qeX13_foresee qzRX13 qcX13_foresee) rfl rfl rfl (by decide +kernel) ⟨Nat.le_of_ble_eq_true rfl, Nat.le_of_ble_eq_true rfl⟩) rfl rfl (by decide) hM.1.1 (Nat.le_of_ble_eq_true rfl) rfl dL_law_1623 ⟨rm2 hc (Nat.le_of_ble_eq_true rfl), rm2 hs (Nat.le_of_ble_eq_true rfl)⟩ (fun rm S2 hq => ?_)
  refine k_tail (B' _ _ _) (cwV 0 B.1.2.2.2.2 (gV0 qlRL_93 qiX13_thrown qeX13_thrown qzRX13 qcX13_thrown) rfl rfl rfl (by decide +kernel) ⟨Nat.le_of_ble_eq_true rfl, Nat.le_of_ble_eq_true rfl⟩) ⟨dL_law_1626, dL_law_1628, dL_law_1629, dL_law_1632, dL_law_1634, dL_law_1639, dL_law_1641, dL_law_1644, dL_law_1645, dL_law_1646, dL_law_1647, dL_law_1649, dL_law_1650, dL_law_1651, _, dL_law_1656, by decide⟩ (by decide) ⟨rm2 hc (Nat.le_of_ble_eq_true rfl), rm2 hs (Nat.le_of_ble_eq_true rfl)⟩ hq ⟨hp.1, hp.2.1⟩ (fun β b1 b2 => ?_)
  refine k_swap h1 (fun L2 h2 => ?_)
  obtain ⟨T1, hT1, hT2⟩ := hp.2.2
  have hT3 : CR w S1 T1 _ := hT2
  exact kk _ _ _ _ _ _ (rm3 (Nat.le_of_ble_eq_true rfl)) (rm3 (Nat.le_of_ble_eq_true rfl)) ⟨T1, s0, ah, A, β, hT1, CR.frm hT3 b2, b1, AIy.congr b2 ((AIy_eq hA0 (for2 _ _ _))), h2⟩
theorem law_1659 (B : Bd p s m args meth c cL_law 9 WS RL w (some .boolean) nmL) {b L x m2 out i : Nat} {xs : Nat → Int32} {f : Nat → Int64} {S1 S2 : St} {L2 : List Nat} {k n : Nat} {Q : State → Prop} (hl : l.stackTraces = false) (hX : va_X b L xs s s.heap) (hbl : b < s.heap.size) (hbA : ¬ wA w b) (hi : i + 6 ≤ L) (hL : L ≤ 3072) (hc : k + 600 ≤ 601024) (hs : n + 4100 ≤ 7293034) (h : LI w x m2 S1 S2 L2) (kk : ∀ (S1 S2 : St) (f : Nat → Int64) (L2 : List Nat) (k' n' : Nat), k' ≤ k + 600 → n' ≤ n + 4100 → LI w x m2 S1 S2 L2 → K p l e rLaw s m args below meth c 9 (sW w out f S2 L2) k' n' Q S1 1770 (lawL b x m2 out i) []) : K p l e rLaw s m args below meth c 9 (sW w out f S2 L2) k n Q S1 1659 (lawL b x m2 out i) [] := by
  have B' : ∀ (f : Nat → Int64) (S2 : St) (L2 : List Nat), Bd p s m args meth c cL_law 9 WS RL (sW w out f S2 L2) (some .boolean) nmL := fun _ _ _ => B
  obtain ⟨T, s0, ah, A, α, rfl, hT, hM, hA, h2⟩ := h
  refine k_aload_n (B' _ _ _) 1 rfl rfl dL_law_1659 ?_
  refine k_arg (j := 1) (B' _ _ _) hX hbl hbA hi hL (Nat.le_of_ble_eq_true rfl) (j0 := 0) (j4 := 4) rfl rfl (by decide) dL_law_1660 dL_law_1661 dL_law_1663 dL_law_1664 dL_law_1665 ?_
  refine k_aload_n (B' _ _ _) 3 rfl rfl dL_law_1666 ?_
  have hT9 : CR (wo (wset w (va_pl L2 (cellOf w S2))) out f) S1 T α := hT
  refine wcallS (st := []) B [.ref (T 0 0), .int (xs (i + 1)), .ref out] (cL_hourW (kx13 hT) (k_hour hl hT9 hA.1)) (vx_cwSW 3 B.1.2.2.2.2 (gSH0 qlRL_170 qsL_hour qzRL qcwL_hour) rfl rfl rfl (by decide +kernel) ⟨Nat.le_of_ble_eq_true rfl, Nat.le_of_ble_eq_true rfl⟩) rfl (Nat.le_of_ble_eq_true rfl) rfl dL_law_1667 ⟨rm1 hc (Nat.le_of_ble_eq_true rfl), rm1 hs (Nat.le_of_ble_eq_true rfl)⟩ (fun jc S1 f hp => ?_)
  refine k_istore (B' _ _ _) (Nat.le_of_ble_eq_true rfl) rfl dL_law_1670 ?_
  refine k_swap h2 (fun L1 h1 => ?_)
  refine k_aload_n (B' _ _ _) 3 rfl rfl dL_law_1672 ?_
  refine k_arg (j := 1) (B' _ _ _) hX hbl hbA hi hL (Nat.le_of_ble_eq_true rfl) (j0 := 1) (j4 := 5) rfl rfl (by decide) dL_law_1673 dL_law_1674 dL_law_1676 dL_law_1677 dL_law_1678 ?_
  refine callV_I (st := []) (B' _ _ _) [.int (xs (i + 1))] (c_hour hM hA.1.1.1.2.1) (cwV 1 B.1.2.2.2.2 (gV0 qlRL_172 qiX13_hour qeX13_hour qzRX13 qcX13_hour) rfl rfl rfl (by decide +kernel) ⟨Nat.le_of_ble_eq_true rfl, Nat.le_of_ble_eq_true rfl⟩) rfl rfl (by decide) hM.1.1 (Nat.le_of_ble_eq_true rfl) rfl dL_law_1679 ⟨rm2 hc (Nat.le_of_ble_eq_true rfl), rm2 hs (Nat.le_of_ble_eq_true rfl)⟩ (fun rm S2 hq => ?_)
  refine k_tail (B' _ _ _) (cwV 0 B.1.2.2.2.2 (gV0 qlRL_93 qiX13_thrown qeX13_thrown qzRX13 qcX13_thrown) rfl rfl rfl (by decide +kernel) ⟨Nat.le_of_ble_eq_true rfl, Nat.le_of_ble_eq_true rfl⟩) ⟨dL_law_1682, dL_law_1684, dL_law_1685, dL_law_1688, dL_law_1690, dL_law_1695, dL_law_1697, dL_law_1700, dL_law_1701, dL_law_1702, dL_law_1703, dL_law_1705, dL_law_1706, dL_law_1707, _, dL_law_1712, by decide⟩ (by decide) ⟨rm2 hc (Nat.le_of_ble_eq_true rfl), rm2 hs (Nat.le_of_ble_eq_true rfl)⟩ hq ⟨hp.1, hp.2.1⟩ (fun β b1 b2 => ?_)
  refine k_swap h1 (fun L2 h2 => ?_)
  obtain ⟨T1, hT1, hT2⟩ := hp.2.2
  have hT3 : CR w S1 T1 _ := hT2
  exact kk _ _ _ _ _ _ (rm3 (Nat.le_of_ble_eq_true rfl)) (rm3 (Nat.le_of_ble_eq_true rfl)) ⟨T1, s0, ah, A, β, hT1, CR.frm hT3 b2, b1, AIy.congr b2 ((AIy_eq hA (o2_hour ..))), h2⟩
end LWD
