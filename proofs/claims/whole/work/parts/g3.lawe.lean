/-! THE BODY OF THE LAW: the cases that call straight -/
theorem qlRL_149 : Cond.methodLink RL 149 yX11_plan ∈ WS := in_t2 19 rfl rfl
theorem qiX11_plan : Cond.instanceMethod yX11_plan ∈ WS := in_t2 20 rfl rfl
theorem qeX11_plan : Cond.selects RX11 yX11_plan yX11_plan ∈ WS := in_t2 21 rfl rfl
theorem qcX11_plan : Cond.code yX11_plan cX11_plan 4 (some .int) ∈ WS := in_t2 22 rfl rfl
theorem qlRL_152 : Cond.methodLink RL 152 yX13_plan ∈ WS := in_t6 224 rfl rfl
theorem qiX13_plan : Cond.instanceMethod yX13_plan ∈ WS := in_t6 225 rfl rfl
theorem qeX13_plan : Cond.selects RX13 yX13_plan yX13_plan ∈ WS := in_t6 226 rfl rfl
theorem qcX13_plan : Cond.code yX13_plan cX13_plan 7 (some .int) ∈ WS := in_t6 227 rfl rfl
theorem qlRL_156 : Cond.methodLink RL 156 yX11_move ∈ WS := in_t2 129 rfl rfl
theorem qiX11_move : Cond.instanceMethod yX11_move ∈ WS := in_t2 130 rfl rfl
theorem qeX11_move : Cond.selects RX11 yX11_move yX11_move ∈ WS := in_t2 131 rfl rfl
theorem qcX11_move : Cond.code yX11_move cX11_move 2 (some .int) ∈ WS := in_t2 132 rfl rfl
theorem qlRL_159 : Cond.methodLink RL 159 yX13_move ∈ WS := in_t6 236 rfl rfl
theorem qiX13_move : Cond.instanceMethod yX13_move ∈ WS := in_t6 237 rfl rfl
theorem qeX13_move : Cond.selects RX13 yX13_move yX13_move ∈ WS := in_t6 238 rfl rfl
theorem qcX13_move : Cond.code yX13_move cX13_move 9 (some .int) ∈ WS := in_t6 239 rfl rfl
theorem qlRL_163 : Cond.methodLink RL 163 yX11_drive ∈ WS := in_t2 144 rfl rfl
theorem qiX11_drive : Cond.instanceMethod yX11_drive ∈ WS := in_t2 145 rfl rfl
theorem qeX11_drive : Cond.selects RX11 yX11_drive yX11_drive ∈ WS := in_t2 146 rfl rfl
theorem qcX11_drive : Cond.code yX11_drive cX11_drive 2 (some .int) ∈ WS := in_t2 147 rfl rfl
theorem qlRL_166 : Cond.methodLink RL 166 yX13_drive ∈ WS := in_t7 20 rfl rfl
theorem qiX13_drive : Cond.instanceMethod yX13_drive ∈ WS := in_t7 21 rfl rfl
theorem qeX13_drive : Cond.selects RX13 yX13_drive yX13_drive ∈ WS := in_t7 22 rfl rfl
theorem qcX13_drive : Cond.code yX13_drive cX13_drive 1 (some .int) ∈ WS := in_t7 23 rfl rfl
theorem qlRL_178 : Cond.methodLink RL 178 yX11_digest ∈ WS := in_t2 219 rfl rfl
theorem qiX11_digest : Cond.instanceMethod yX11_digest ∈ WS := in_t2 220 rfl rfl
theorem qeX11_digest : Cond.selects RX11 yX11_digest yX11_digest ∈ WS := in_t2 221 rfl rfl
theorem qcX11_digest : Cond.code yX11_digest cX11_digest 4 (some .long) ∈ WS := in_t2 222 rfl rfl
theorem qlRL_182 : Cond.methodLink RL 182 yX13_digest ∈ WS := in_t7 80 rfl rfl
theorem qiX13_digest : Cond.instanceMethod yX13_digest ∈ WS := in_t7 81 rfl rfl
theorem qeX13_digest : Cond.selects RX13 yX13_digest yX13_digest ∈ WS := in_t7 82 rfl rfl
theorem qcX13_digest : Cond.code yX13_digest cX13_digest 5 (some .long) ∈ WS := in_t7 83 rfl rfl
section LWE
variable {p : Program} {l : Launch} {e : Env} {s : State} {m : MethodId} {args : Array Value} {below : List Frame} {meth : Method} {c : Code} {w : Wd} {nmL : String}
theorem law_1452 (B : Bd p s m args meth c cL_law 9 WS RL w (some .boolean) nmL) {b L x m2 out i : Nat} {xs : Nat → Int32} {f : Nat → Int64} {S1 S2 : St} {L2 : List Nat} {k n : Nat} {Q : State → Prop} (hl : l.stackTraces = false) (hX : va_X b L xs s s.heap) (hbl : b < s.heap.size) (hbA : ¬ wA w b) (hi : i + 6 ≤ L) (hL : L ≤ 3072) (hc : k + 600 ≤ 601024) (hs : n + 4100 ≤ 7293034) (h : LI w x m2 S1 S2 L2) (kk : ∀ (S1 S2 : St) (f : Nat → Int64) (L2 : List Nat) (k' n' : Nat), k' ≤ k + 600 → n' ≤ n + 4100 → LI w x m2 S1 S2 L2 → K p l e rLaw s m args below meth c 9 (sW w out f S2 L2) k' n' Q S1 1770 (lawL b x m2 out i) []) : K p l e rLaw s m args below meth c 9 (sW w out f S2 L2) k n Q S1 1452 (lawL b x m2 out i) [] := by
  have B' : ∀ (f : Nat → Int64) (S2 : St) (L2 : List Nat), Bd p s m args meth c cL_law 9 WS RL (sW w out f S2 L2) (some .boolean) nmL := fun _ _ _ => B
  obtain ⟨T, s0, ah, A, α, rfl, hT, hM, hA, h2⟩ := h
  have hT9 : CR (sW w out f S2 L2) S1 T α := hT
  refine k_aload_n (B' _ _ _) 1 rfl rfl dL_law_1452 ?_
  refine callV_I (st := []) (B' _ _ _) [] (k_plan hT9 hA.1) (cwV 0 B.1.2.2.2.2 (gV0 qlRL_149 qiX11_plan qeX11_plan qzRX11 qcX11_plan) rfl rfl rfl (by decide +kernel) ⟨Nat.le_of_ble_eq_true rfl, Nat.le_of_ble_eq_true rfl⟩) rfl rfl (by decide) (kx13 hT) (Nat.le_of_ble_eq_true rfl) rfl dL_law_1453 ⟨rm1 hc (Nat.le_of_ble_eq_true rfl), rm1 hs (Nat.le_of_ble_eq_true rfl)⟩ (fun r S1 hp => ?_)
  refine k_swap h2 (fun L1 h1 => ?_)
  refine k_aload_n (B' _ _ _) 2 rfl rfl dL_law_1456 ?_
  refine callV_I (st := [.int r]) (B' _ _ _) [] (c_plan hM hA.1.1.1) (cwV 0 B.1.2.2.2.2 (gV0 qlRL_152 qiX13_plan qeX13_plan qzRX13 qcX13_plan) rfl rfl rfl (by decide +kernel) ⟨Nat.le_of_ble_eq_true rfl, Nat.le_of_ble_eq_true rfl⟩) rfl rfl (by decide) hM.1.1 (Nat.le_of_ble_eq_true rfl) rfl dL_law_1457 ⟨rm2 hc (Nat.le_of_ble_eq_true rfl), rm2 hs (Nat.le_of_ble_eq_true rfl)⟩ (fun rm S2 hq => ?_)
  obtain ⟨hr, β, b1, -, b2⟩ := hq
  obtain ⟨-, hr2, T1, hT1, hT2⟩ := hp
  refine k_icmp_eq (tgt := 1770) (B' _ _ _) dL_law_1460 (by decide) (fun _ => ?_) (fun z => absurd (hr2.trans hr.symm) z)
  refine k_swap h1 (fun L2 h2 => ?_)
  have hT3 : CR w S1 T1 _ := hT2
  exact kk _ _ _ _ _ _ (rm3 (Nat.le_of_ble_eq_true rfl)) (rm3 (Nat.le_of_ble_eq_true rfl)) ⟨T1, s0, ah, A, β, hT1, CR.frm hT3 b2, b1, AIy.congr b2 (y_plan hA), h2⟩
theorem law_1521 (B : Bd p s m args meth c cL_law 9 WS RL w (some .boolean) nmL) {b L x m2 out i : Nat} {xs : Nat → Int32} {f : Nat → Int64} {S1 S2 : St} {L2 : List Nat} {k n : Nat} {Q : State → Prop} (hl : l.stackTraces = false) (hX : va_X b L xs s s.heap) (hbl : b < s.heap.size) (hbA : ¬ wA w b) (hi : i + 6 ≤ L) (hL : L ≤ 3072) (hc : k + 600 ≤ 601024) (hs : n + 4100 ≤ 7293034) (h : LI w x m2 S1 S2 L2) (kk : ∀ (S1 S2 : St) (f : Nat → Int64) (L2 : List Nat) (k' n' : Nat), k' ≤ k + 600 → n' ≤ n + 4100 → LI w x m2 S1 S2 L2 → K p l e rLaw s m args below meth c 9 (sW w out f S2 L2) k' n' Q S1 1770 (lawL b x m2 out i) []) : K p l e rLaw s m args below meth c 9 (sW w out f S2 L2) k n Q S1 1521 (lawL b x m2 out i) [] := by
  have B' : ∀ (f : Nat → Int64) (S2 : St) (L2 : List Nat), Bd p s m args meth c cL_law 9 WS RL (sW w out f S2 L2) (some .boolean) nmL := fun _ _ _ => B
  obtain ⟨T, s0, ah, A, α, rfl, hT, hM, hA, h2⟩ := h
  have hT9 : CR (sW w out f S2 L2) S1 T α := hT
  refine k_aload_n (B' _ _ _) 1 rfl rfl dL_law_1521 ?_
  refine callV_I (st := []) (B' _ _ _) [] (k_move hT9 hA.1) (cwV 0 B.1.2.2.2.2 (gV0 qlRL_156 qiX11_move qeX11_move qzRX11 qcX11_move) rfl rfl rfl (by decide +kernel) ⟨Nat.le_of_ble_eq_true rfl, Nat.le_of_ble_eq_true rfl⟩) rfl rfl (by decide) (kx13 hT) (Nat.le_of_ble_eq_true rfl) rfl dL_law_1522 ⟨rm1 hc (Nat.le_of_ble_eq_true rfl), rm1 hs (Nat.le_of_ble_eq_true rfl)⟩ (fun r S1 hp => ?_)
  refine k_swap h2 (fun L1 h1 => ?_)
  refine k_aload_n (B' _ _ _) 2 rfl rfl dL_law_1525 ?_
  refine callV_I (st := [.int r]) (B' _ _ _) [] (c_move hM hA.1.1.1) (cwV 0 B.1.2.2.2.2 (gV0 qlRL_159 qiX13_move qeX13_move qzRX13 qcX13_move) rfl rfl rfl (by decide +kernel) ⟨Nat.le_of_ble_eq_true rfl, Nat.le_of_ble_eq_true rfl⟩) rfl rfl (by decide) hM.1.1 (Nat.le_of_ble_eq_true rfl) rfl dL_law_1526 ⟨rm2 hc (Nat.le_of_ble_eq_true rfl), rm2 hs (Nat.le_of_ble_eq_true rfl)⟩ (fun rm S2 hq => ?_)
  obtain ⟨hr, β, b1, -, b2⟩ := hq
  obtain ⟨-, hr2, T1, hT1, hT2⟩ := hp
  refine k_icmp_eq (tgt := 1770) (B' _ _ _) dL_law_1529 (by decide) (fun _ => ?_) (fun z => absurd (hr2.trans hr.symm) z)
  refine k_swap h1 (fun L2 h2 => ?_)
  have hT3 : CR w S1 T1 _ := hT2
  exact kk _ _ _ _ _ _ (rm3 (Nat.le_of_ble_eq_true rfl)) (rm3 (Nat.le_of_ble_eq_true rfl)) ⟨T1, s0, ah, A, β, hT1, CR.frm hT3 b2, b1, AIy.congr b2 (y_move hA), h2⟩
theorem law_1590 (B : Bd p s m args meth c cL_law 9 WS RL w (some .boolean) nmL) {b L x m2 out i : Nat} {xs : Nat → Int32} {f : Nat → Int64} {S1 S2 : St} {L2 : List Nat} {k n : Nat} {Q : State → Prop} (hl : l.stackTraces = false) (hX : va_X b L xs s s.heap) (hbl : b < s.heap.size) (hbA : ¬ wA w b) (hi : i + 6 ≤ L) (hL : L ≤ 3072) (hc : k + 600 ≤ 601024) (hs : n + 4100 ≤ 7293034) (h : LI w x m2 S1 S2 L2) (kk : ∀ (S1 S2 : St) (f : Nat → Int64) (L2 : List Nat) (k' n' : Nat), k' ≤ k + 600 → n' ≤ n + 4100 → LI w x m2 S1 S2 L2 → K p l e rLaw s m args below meth c 9 (sW w out f S2 L2) k' n' Q S1 1770 (lawL b x m2 out i) []) : K p l e rLaw s m args below meth c 9 (sW w out f S2 L2) k n Q S1 1590 (lawL b x m2 out i) [] := by
  have B' : ∀ (f : Nat → Int64) (S2 : St) (L2 : List Nat), Bd p s m args meth c cL_law 9 WS RL (sW w out f S2 L2) (some .boolean) nmL := fun _ _ _ => B
  obtain ⟨T, s0, ah, A, α, rfl, hT, hM, hA, h2⟩ := h
  have hA0 : AIy (au α 896 0 0) := AIy.congr FrM.th hA
  have hT9 : CR (sW w out f S2 L2) S1 T (au α 896 0 0) := hT.frm (FrM.th (v := 0))
  refine k_aload_n (B' _ _ _) 1 rfl rfl dL_law_1590 ?_
  refine callV_I (st := []) (B' _ _ _) [] (k_drive hT9 hA0) (cwV 0 B.1.2.2.2.2 (gV0 qlRL_163 qiX11_drive qeX11_drive qzRX11 qcX11_drive) rfl rfl rfl (by decide +kernel) ⟨Nat.le_of_ble_eq_true rfl, Nat.le_of_ble_eq_true rfl⟩) rfl rfl (by decide) (kx13 hT) (Nat.le_of_ble_eq_true rfl) rfl dL_law_1591 ⟨rm1 hc (Nat.le_of_ble_eq_true rfl), rm1 hs (Nat.le_of_ble_eq_true rfl)⟩ (fun r S1 hp => ?_)
  refine k_swap h2 (fun L1 h1 => ?_)
  refine k_aload_n (B' _ _ _) 2 rfl rfl dL_law_1594 ?_
  refine callV_I (st := [.int r]) (B' _ _ _) [] (c_mdrive2 hM hA.1.1) (cwV 0 B.1.2.2.2.2 (gV0 qlRL_166 qiX13_drive qeX13_drive qzRX13 qcX13_drive) rfl rfl rfl (by decide +kernel) ⟨Nat.le_of_ble_eq_true rfl, Nat.le_of_ble_eq_true rfl⟩) rfl rfl (by decide) hM.1.1 (Nat.le_of_ble_eq_true rfl) rfl dL_law_1595 ⟨rm2 hc (Nat.le_of_ble_eq_true rfl), rm2 hs (Nat.le_of_ble_eq_true rfl)⟩ (fun rm S2 hq => ?_)
  obtain ⟨hr, β, b1, -, b2⟩ := hq
  obtain ⟨-, hr2, T1, hT1, hT2⟩ := hp
  refine k_icmp_eq (tgt := 1770) (B' _ _ _) dL_law_1598 (by decide) (fun _ => ?_) (fun z => absurd (hr2.trans hr.symm) z)
  refine k_swap h1 (fun L2 h2 => ?_)
  have hT3 : CR w S1 T1 _ := hT2
  exact kk _ _ _ _ _ _ (rm3 (Nat.le_of_ble_eq_true rfl)) (rm3 (Nat.le_of_ble_eq_true rfl)) ⟨T1, s0, ah, A, β, hT1, CR.frm hT3 b2, b1, AIy.congr b2 (y_drive hA0), h2⟩
theorem law_1756 (B : Bd p s m args meth c cL_law 9 WS RL w (some .boolean) nmL) {b L x m2 out i : Nat} {xs : Nat → Int32} {f : Nat → Int64} {S1 S2 : St} {L2 : List Nat} {k n : Nat} {Q : State → Prop} (hl : l.stackTraces = false) (hX : va_X b L xs s s.heap) (hbl : b < s.heap.size) (hbA : ¬ wA w b) (hi : i + 6 ≤ L) (hL : L ≤ 3072) (hc : k + 600 ≤ 601024) (hs : n + 4100 ≤ 7293034) (h : LI w x m2 S1 S2 L2) (kk : ∀ (S1 S2 : St) (f : Nat → Int64) (L2 : List Nat) (k' n' : Nat), k' ≤ k + 600 → n' ≤ n + 4100 → LI w x m2 S1 S2 L2 → K p l e rLaw s m args below meth c 9 (sW w out f S2 L2) k' n' Q S1 1770 (lawL b x m2 out i) []) : K p l e rLaw s m args below meth c 9 (sW w out f S2 L2) k n Q S1 1756 (lawL b x m2 out i) [] := by
  have B' : ∀ (f : Nat → Int64) (S2 : St) (L2 : List Nat), Bd p s m args meth c cL_law 9 WS RL (sW w out f S2 L2) (some .boolean) nmL := fun _ _ _ => B
  obtain ⟨T, s0, ah, A, α, rfl, hT, hM, hA, h2⟩ := h
  have hT9 : CR (sW w out f S2 L2) S1 T α := hT
  refine k_aload_n (B' _ _ _) 1 rfl rfl dL_law_1756 ?_
  refine callV_L (st := []) (B' _ _ _) [] (k_digest hT9 hA.1) (cwV 0 B.1.2.2.2.2 (gV0 qlRL_178 qiX11_digest qeX11_digest qzRX11 qcX11_digest) rfl rfl rfl (by decide +kernel) ⟨Nat.le_of_ble_eq_true rfl, Nat.le_of_ble_eq_true rfl⟩) rfl rfl (by decide) (kx13 hT) (Nat.le_of_ble_eq_true rfl) rfl dL_law_1757 ⟨rm1 hc (Nat.le_of_ble_eq_true rfl), rm1 hs (Nat.le_of_ble_eq_true rfl)⟩ (fun r S1 hp => ?_)
  refine k_swap h2 (fun L1 h1 => ?_)
  refine k_aload_n (B' _ _ _) 2 rfl rfl dL_law_1760 ?_
  refine callV_L (st := [.long r]) (B' _ _ _) [] (c_digest hM hA.1.1.1 hA.1.1.2.1) (cwV 0 B.1.2.2.2.2 (gV0 qlRL_182 qiX13_digest qeX13_digest qzRX13 qcX13_digest) rfl rfl rfl (by decide +kernel) ⟨Nat.le_of_ble_eq_true rfl, Nat.le_of_ble_eq_true rfl⟩) rfl rfl (by decide) hM.1.1 (Nat.le_of_ble_eq_true rfl) rfl dL_law_1761 ⟨rm2 hc (Nat.le_of_ble_eq_true rfl), rm2 hs (Nat.le_of_ble_eq_true rfl)⟩ (fun rm S2 hq => ?_)
  obtain ⟨hr, β, b1, b3⟩ := hq
  obtain ⟨hr2, T1, hT1, hT2⟩ := hp
  have b2 : FrM α β := b3.1
  refine k_lcmp (B' _ _ _) dL_law_1764 ?_
  rw [hr2, hr, lg_self]
  refine k_if_eq (tgt := 1770) (B' _ _ _) dL_law_1765 (by decide) (fun _ => ?_) (fun z => absurd rfl z)
  refine k_swap h1 (fun L2 h2 => ?_)
  have hT3 : CR w S1 T1 _ := hT2
  exact kk _ _ _ _ _ _ (rm3 (Nat.le_of_ble_eq_true rfl)) (rm3 (Nat.le_of_ble_eq_true rfl)) ⟨T1, s0, ah, A, β, hT1, CR.frm hT3 b2, b1, AIy.congr b2 (hA), h2⟩
end LWE
