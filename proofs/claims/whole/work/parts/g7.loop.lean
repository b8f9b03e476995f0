/-! THE LAW: mean, the switch, the loop -/
theorem qlRL_173 : Cond.methodLink RL 173 yX11_mean ∈ WS := in_t2 211 rfl rfl
theorem qiX11_mean : Cond.instanceMethod yX11_mean ∈ WS := in_t2 212 rfl rfl
theorem qeX11_mean : Cond.selects RX11 yX11_mean yX11_mean ∈ WS := in_t2 213 rfl rfl
theorem qcX11_mean : Cond.code yX11_mean cX11_mean 3 (some .double) ∈ WS := in_t2 214 rfl rfl
theorem qlRL_177 : Cond.methodLink RL 177 yX13_mean ∈ WS := in_t7 76 rfl rfl
theorem qiX13_mean : Cond.instanceMethod yX13_mean ∈ WS := in_t7 77 rfl rfl
theorem qeX13_mean : Cond.selects RX13 yX13_mean yX13_mean ∈ WS := in_t7 78 rfl rfl
theorem qcX13_mean : Cond.code yX13_mean cX13_mean 3 (some .double) ∈ WS := in_t7 79 rfl rfl
theorem st6 {k k' k0 j M : Nat} (h1 : k' ≤ k + M) (h2 : k ≤ k0 + M * j) : k' ≤ k0 + M * (j + 1) := by
  rw [Nat.mul_add, Nat.mul_one, ← Nat.add_assoc]
  exact Nat.le_trans h1 (Nat.add_le_add_right h2 M)
theorem ls6 {L i : Nat} (hL : L ≤ 3072) (hi : i ≤ L) (h : L < i + 6) : nI L - 6 < nI i := by
  rw [Int32.lt_iff_toInt_lt, Int32.toInt_sub, nI_toInt (by omega), nI_toInt (by omega)]
  have e6 : (6 : Int32).toInt = 6 := by decide
  rw [e6, Int.bmod_eq_of_le (by omega) (by omega)]
  omega
section LWL
variable {p : Program} {l : Launch} {e : Env} {s : State} {m : MethodId} {args : Array Value} {below : List Frame} {meth : Method} {c : Code} {w : Wd} {nmL : String}
theorem law_1715 (B : Bd p s m args meth c cL_law 9 WS RL w (some .boolean) nmL) {b L x m2 out i : Nat} {xs : Nat → Int32} {f : Nat → Int64} {S1 S2 : St} {L2 : List Nat} {k n : Nat} {Q : State → Prop} (hl : l.stackTraces = false) (hX : va_X b L xs s s.heap) (hbl : b < s.heap.size) (hbA : ¬ wA w b) (hi : i + 6 ≤ L) (hL : L ≤ 3072) (hc : k + 600 ≤ 601024) (hs : n + 4100 ≤ 7293034) (h : LI w x m2 S1 S2 L2) (kk : ∀ (S1 S2 : St) (f : Nat → Int64) (L2 : List Nat) (k' n' : Nat), k' ≤ k + 600 → n' ≤ n + 4100 → LI w x m2 S1 S2 L2 → K p l e rLaw s m args below meth c 9 (sW w out f S2 L2) k' n' Q S1 1770 (lawL b x m2 out i) []) : K p l e rLaw s m args below meth c 9 (sW w out f S2 L2) k n Q S1 1715 (lawL b x m2 out i) [] := by
  have B' : ∀ (f : Nat → Int64) (S2 : St) (L2 : List Nat), Bd p s m args meth c cL_law 9 WS RL (sW w out f S2 L2) (some .boolean) nmL := fun _ _ _ => B
  obtain ⟨T, s0, ah, A, α, rfl, hT, hM, hA, h2⟩ := h
  have hT9 : CR (sW w out f S2 L2) S1 T α := hT
  refine k_aload_n (B' _ _ _) 1 rfl rfl dL_law_1715 ?_
  refine callV_Db (st := []) (B' _ _ _) [] (k_mean hT9 hA) (cwV 0 B.1.2.2.2.2 (gV0 qlRL_173 qiX11_mean qeX11_mean qzRX11 qcX11_mean) rfl rfl rfl (by decide +kernel) ⟨Nat.le_of_ble_eq_true rfl, Nat.le_of_ble_eq_true rfl⟩) rfl rfl (by decide) (kx13 hT) (Nat.le_of_ble_eq_true rfl) rfl dL_law_1716 ⟨rm1 hc (Nat.le_of_ble_eq_true rfl), rm1 hs (Nat.le_of_ble_eq_true rfl)⟩ (fun r S1 hp => ?_)
  obtain ⟨rfl, T1, hT1, hT2⟩ := hp
  refine k_dstore (lst' := (5, .double (meanV α)) :: lawL b (T 0 0) m2 out i) (B' _ _ _) (by decide) rfl dL_law_1719 ?_
  refine k_swap h2 (fun L1 h1 => ?_)
  refine k_aload_n (B' _ _ _) 3 rfl rfl dL_law_1721 ?_
  refine callV_Db (st := []) (B' _ _ _) [] (c_mmean hM hA) (cwV 0 B.1.2.2.2.2 (gV0 qlRL_177 qiX13_mean qeX13_mean qzRX13 qcX13_mean) rfl rfl rfl (by decide +kernel) ⟨Nat.le_of_ble_eq_true rfl, Nat.le_of_ble_eq_true rfl⟩) rfl rfl (by decide) hM.1.1 (Nat.le_of_ble_eq_true rfl) rfl dL_law_1722 ⟨rm2 hc (Nat.le_of_ble_eq_true rfl), rm2 hs (Nat.le_of_ble_eq_true rfl)⟩ (fun rm S2 hq => ?_)
  obtain ⟨rfl, β, b1, b3⟩ := hq
  have b2 : FrM α β := b3.1
  refine k_dstore (lst' := (7, .double (meanV α)) :: (5, .double (meanV α)) :: lawL b (T 0 0) m2 out i) (B' _ _ _) (by decide) rfl dL_law_1725 ?_
  refine k_swap h1 (fun L2 h2 => ?_)
  have hT3 : CR w S1 T1 _ := hT2
  have fin : K p l e rLaw s m args below meth c 9 (sW w out f S2 L2) (k + rX11_mean.cells + rX13_mean.cells) (n + rX11_mean.slots + rX13_mean.slots) Q S1 1753 ((7, .double (meanV α)) :: (5, .double (meanV α)) :: lawL b (T 0 0) m2 out i) [] := by
    refine k_goto (tgt := 1770) (B' _ _ _) dL_law_1753 (by decide) ?_
    refine k_sub [2, 3, 4, 5, 6] rfl ?_
    exact kk _ _ _ _ _ _ (rm3 (Nat.le_of_ble_eq_true rfl)) (rm3 (Nat.le_of_ble_eq_true rfl)) ⟨T1, s0, ah, A, β, hT1, CR.frm hT3 b2, b1, AIy.congr b2 hA, h2⟩
  refine k_dload (B' _ _ _) 1 rfl dL_law_1727 ?_
  refine k_dload (B' _ _ _) 0 rfl dL_law_1729 ?_
  refine k_dcmp (B' _ _ _) dL_law_1731 ?_
  refine k_if_eq (tgt := 1753) (B' _ _ _) dL_law_1732 (by decide) (fun _ => fin) (fun z => ?_)
  refine k_dload (B' _ _ _) 1 rfl dL_law_1735 ?_
  refine k_dload (B' _ _ _) 1 rfl dL_law_1737 ?_
  refine k_dcmp (B' _ _ _) dL_law_1739 ?_
  refine k_if_eq (tgt := 1751) (B' _ _ _) dL_law_1740 (by decide) (fun z2 => absurd z2 z) (fun _ => ?_)
  refine k_dload (B' _ _ _) 0 rfl dL_law_1743 ?_
  refine k_dload (B' _ _ _) 0 rfl dL_law_1745 ?_
  refine k_dcmp (B' _ _ _) dL_law_1747 ?_
  exact k_if_ne (tgt := 1753) (B' _ _ _) dL_law_1748 (by decide) (fun _ => fin) (fun z2 => absurd z2 z)
/-- one round of the loop, from its switch -/
theorem law_sw (B : Bd p s m args meth c cL_law 9 WS RL w (some .boolean) nmL) {b L x m2 out i : Nat} {xs : Nat → Int32} {f : Nat → Int64} {S1 S2 : St} {L2 : List Nat} {k n : Nat} {Q : State → Prop} (hl : l.stackTraces = false) (hX : va_X b L xs s s.heap) (hbl : b < s.heap.size) (hbA : ¬ wA w b) (hi : i + 6 ≤ L) (hL : L ≤ 3072) (hc : k + 600 ≤ 601024) (hs : n + 4100 ≤ 7293034) (h : LI w x m2 S1 S2 L2) (kk : ∀ (S1 S2 : St) (f : Nat → Int64) (L2 : List Nat) (k' n' : Nat), k' ≤ k + 600 → n' ≤ n + 4100 → LI w x m2 S1 S2 L2 → K p l e rLaw s m args below meth c 9 (sW w out f S2 L2) k' n' Q S1 1770 (lawL b x m2 out i) []) (V : Int32) : K p l e rLaw s m args below meth c 9 (sW w out f S2 L2) k n Q S1 40 (lawL b x m2 out i) [.int V] := by
  have B' : ∀ (f : Nat → Int64) (S2 : St) (L2 : List Nat), Bd p s m args meth c cL_law 9 WS RL (sW w out f S2 L2) (some .boolean) nmL := fun _ _ _ => B
  have out9 := kk S1 S2 f L2 k n (Nat.le_add_right _ _) (Nat.le_add_right _ _) h
  rcases (show V.toInt < 0 ∨ 25 < V.toInt ∨ V.toInt = 0 ∨ V.toInt = 1 ∨ V.toInt = 2 ∨ V.toInt = 3 ∨ V.toInt = 4 ∨ V.toInt = 5 ∨ V.toInt = 6 ∨ V.toInt = 7 ∨ V.toInt = 8 ∨ V.toInt = 9 ∨ V.toInt = 10 ∨ V.toInt = 11 ∨ V.toInt = 12 ∨ V.toInt = 13 ∨ V.toInt = 14 ∨ V.toInt = 15 ∨ V.toInt = 16 ∨ V.toInt = 17 ∨ V.toInt = 18 ∨ V.toInt = 19 ∨ V.toInt = 20 ∨ V.toInt = 21 ∨ V.toInt = 22 ∨ V.toInt = 23 ∨ V.toInt = 24 ∨ V.toInt = 25 by omega) with z | z | z | z | z | z | z | z | z | z | z | z | z | z | z | z | z | z | z | z | z | z | z | z | z | z | z | z
  · exact k_tabOut (tgt := 1770) (B' _ _ _) dL_law_40 (Or.inl z) (by decide) out9
  · exact k_tabOut (tgt := 1770) (B' _ _ _) dL_law_40 (Or.inr z) (by decide) out9
  · exact k_tabIn (off := 120) (tgt := 160) (B' _ _ _) dL_law_40 (by omega) (by omega) (by rw [z]; rfl) (by decide) (law_160 B hl hX hbl hbA hi hL hc hs h kk)
  · exact k_tabIn (off := 188) (tgt := 228) (B' _ _ _) dL_law_40 (by omega) (by omega) (by rw [z]; rfl) (by decide) (law_228 B hl hX hbl hbA hi hL hc hs h kk)
  · exact k_tabIn (off := 256) (tgt := 296) (B' _ _ _) dL_law_40 (by omega) (by omega) (by rw [z]; rfl) (by decide) (law_296 B hl hX hbl hbA hi hL hc hs h kk)
  · exact k_tabIn (off := 336) (tgt := 376) (B' _ _ _) dL_law_40 (by omega) (by omega) (by rw [z]; rfl) (by decide) (law_376 B hl hX hbl hbA hi hL hc hs h kk)
  · exact k_tabIn (off := 432) (tgt := 472) (B' _ _ _) dL_law_40 (by omega) (by omega) (by rw [z]; rfl) (by decide) (law_472 B hl hX hbl hbA hi hL hc hs h kk)
  · exact k_tabIn (off := 536) (tgt := 576) (B' _ _ _) dL_law_40 (by omega) (by omega) (by rw [z]; rfl) (by decide) (law_576 B hl hX hbl hbA hi hL hc hs h kk)
  · exact k_tabIn (off := 616) (tgt := 656) (B' _ _ _) dL_law_40 (by omega) (by omega) (by rw [z]; rfl) (by decide) (law_656 B hl hX hbl hbA hi hL hc hs h kk)
  · exact k_tabIn (off := 720) (tgt := 760) (B' _ _ _) dL_law_40 (by omega) (by omega) (by rw [z]; rfl) (by decide) (law_760 B hl hX hbl hbA hi hL hc hs h kk)
  · exact k_tabIn (off := 788) (tgt := 828) (B' _ _ _) dL_law_40 (by omega) (by omega) (by rw [z]; rfl) (by decide) (law_828 B hl hX hbl hbA hi hL hc hs h kk)
  · exact k_tabIn (off := 856) (tgt := 896) (B' _ _ _) dL_law_40 (by omega) (by omega) (by rw [z]; rfl) (by decide) (law_896 B hl hX hbl hbA hi hL hc hs h kk)
  · exact k_tabIn (off := 924) (tgt := 964) (B' _ _ _) dL_law_40 (by omega) (by omega) (by rw [z]; rfl) (by decide) (law_964 B hl hX hbl hbA hi hL hc hs h kk)
  · exact k_tabIn (off := 1004) (tgt := 1044) (B' _ _ _) dL_law_40 (by omega) (by omega) (by rw [z]; rfl) (by decide) (law_1044 B hl hX hbl hbA hi hL hc hs h kk)
  · exact k_tabIn (off := 1060) (tgt := 1100) (B' _ _ _) dL_law_40 (by omega) (by omega) (by rw [z]; rfl) (by decide) (law_1100 B hl hX hbl hbA hi hL hc hs h kk)
  · exact k_tabIn (off := 1128) (tgt := 1168) (B' _ _ _) dL_law_40 (by omega) (by omega) (by rw [z]; rfl) (by decide) (law_1168 B hl hX hbl hbA hi hL hc hs h kk)
  · exact k_tabIn (off := 1196) (tgt := 1236) (B' _ _ _) dL_law_40 (by omega) (by omega) (by rw [z]; rfl) (by decide) (law_1236 B hl hX hbl hbA hi hL hc hs h kk)
  · exact k_tabIn (off := 1276) (tgt := 1316) (B' _ _ _) dL_law_40 (by omega) (by omega) (by rw [z]; rfl) (by decide) (law_1316 B hl hX hbl hbA hi hL hc hs h kk)
  · exact k_tabIn (off := 1356) (tgt := 1396) (B' _ _ _) dL_law_40 (by omega) (by omega) (by rw [z]; rfl) (by decide) (law_1396 B hl hX hbl hbA hi hL hc hs h kk)
  · exact k_tabIn (off := 1412) (tgt := 1452) (B' _ _ _) dL_law_40 (by omega) (by omega) (by rw [z]; rfl) (by decide) (law_1452 B hl hX hbl hbA hi hL hc hs h kk)
  · exact k_tabIn (off := 1425) (tgt := 1465) (B' _ _ _) dL_law_40 (by omega) (by omega) (by rw [z]; rfl) (by decide) (law_1465 B hl hX hbl hbA hi hL hc hs h kk)
  · exact k_tabIn (off := 1481) (tgt := 1521) (B' _ _ _) dL_law_40 (by omega) (by omega) (by rw [z]; rfl) (by decide) (law_1521 B hl hX hbl hbA hi hL hc hs h kk)
  · exact k_tabIn (off := 1494) (tgt := 1534) (B' _ _ _) dL_law_40 (by omega) (by omega) (by rw [z]; rfl) (by decide) (law_1534 B hl hX hbl hbA hi hL hc hs h kk)
  · exact k_tabIn (off := 1550) (tgt := 1590) (B' _ _ _) dL_law_40 (by omega) (by omega) (by rw [z]; rfl) (by decide) (law_1590 B hl hX hbl hbA hi hL hc hs h kk)
  · exact k_tabIn (off := 1563) (tgt := 1603) (B' _ _ _) dL_law_40 (by omega) (by omega) (by rw [z]; rfl) (by decide) (law_1603 B hl hX hbl hbA hi hL hc hs h kk)
  · exact k_tabIn (off := 1619) (tgt := 1659) (B' _ _ _) dL_law_40 (by omega) (by omega) (by rw [z]; rfl) (by decide) (law_1659 B hl hX hbl hbA hi hL hc hs h kk)
  · exact k_tabIn (off := 1675) (tgt := 1715) (B' _ _ _) dL_law_40 (by omega) (by omega) (by rw [z]; rfl) (by decide) (law_1715 B hl hX hbl hbA hi hL hc hs h kk)
  · exact k_tabIn (off := 1716) (tgt := 1756) (B' _ _ _) dL_law_40 (by omega) (by omega) (by rw [z]; rfl) (by decide) (law_1756 B hl hX hbl hbA hi hL hc hs h kk)
/-- the loop: as many rounds as the script holds -/
theorem law_loop (B : Bd p s m args meth c cL_law 9 WS RL w (some .boolean) nmL) {b L x m2 out : Nat} {xs : Nat → Int32} {Q : State → Prop} (hl : l.stackTraces = false) (hX : va_X b L xs s s.heap) (hbl : b < s.heap.size) (hbA : ¬ wA w b) (hL : L ≤ 3072) {k0 n0 : Nat} (hk0 : k0 ≤ 2000) (hn0 : n0 ≤ 20000)
    (hx : ∀ (S1 S2 : St) (f : Nat → Int64) (L2 : List Nat) (k n i : Nat), k ≤ 601024 → n ≤ 7293034 → K p l e rLaw s m args below meth c 9 (sW w out f S2 L2) k n Q S1 1776 (lawL b x m2 out i) []) :
    ∀ (d j : Nat), 512 ≤ j + d → ∀ (i k n : Nat), i = 6 * j → i ≤ L → k ≤ k0 + 600 * j → n ≤ n0 + 4100 * j → ∀ (S1 S2 : St) (f : Nat → Int64) (L2 : List Nat), LI w x m2 S1 S2 L2 → K p l e rLaw s m args below meth c 9 (sW w out f S2 L2) k n Q S1 23 (lawL b x m2 out i) [] := by
  intro d
  induction d with
  | zero =>
    intro j hj i k n hi hiL hk hn S1 S2 f L2 h
    have B' : ∀ (f : Nat → Int64) (S2 : St) (L2 : List Nat), Bd p s m args meth c cL_law 9 WS RL (sW w out f S2 L2) (some .boolean) nmL := fun _ _ _ => B
    have hj2 : j = 512 := by omega
    refine k_iload (B' _ _ _) 4 rfl dL_law_23 ?_
    refine k_aload_n (B' _ _ _) 0 rfl rfl dL_law_25 ?_
    refine k_slen (B' _ _ _) hX hbl hbA dL_law_26 ?_
    refine k_bipush (v := 6) (B' _ _ _) (by decide) dL_law_27 ?_
    refine k_isub (B' _ _ _) dL_law_29 ?_
    exact k_icmp_gt (tgt := 1776) (B' _ _ _) dL_law_30 (by decide) (fun _ => hx _ _ _ _ _ _ _ (by omega) (by omega)) (fun z => absurd (ls6 hL hiL (by omega)) z)
  | succ d ih =>
    intro j hj i k n hi hiL hk hn S1 S2 f L2 h
    have B' : ∀ (f : Nat → Int64) (S2 : St) (L2 : List Nat), Bd p s m args meth c cL_law 9 WS RL (sW w out f S2 L2) (some .boolean) nmL := fun _ _ _ => B
    refine k_iload (B' _ _ _) 4 rfl dL_law_23 ?_
    refine k_aload_n (B' _ _ _) 0 rfl rfl dL_law_25 ?_
    refine k_slen (B' _ _ _) hX hbl hbA dL_law_26 ?_
    refine k_bipush (v := 6) (B' _ _ _) (by decide) dL_law_27 ?_
    refine k_isub (B' _ _ _) dL_law_29 ?_
    have hj5 : j ≤ 512 := by omega
    refine k_icmp_gt (tgt := 1776) (B' _ _ _) dL_law_30 (by decide) (fun _ => hx _ _ _ _ _ _ _ (by omega) (by omega)) (fun z => ?_)
    have hi6 : i + 6 ≤ L := by
      by_cases g : i + 6 ≤ L
      · exact g
      · exact absurd (ls6 hL hiL (by omega)) z
    refine k_aload_n (B' _ _ _) 0 rfl rfl dL_law_33 ?_
    refine k_iload (B' _ _ _) 4 rfl dL_law_34 ?_
    refine k_sld (B' _ _ _) hX hbl hbA (vp_in_nI (show i < L by omega) (by omega)) dL_law_36 ?_
    refine k_bipush (v := 31) (B' _ _ _) (by decide) dL_law_37 ?_
    refine k_iand (B' _ _ _) dL_law_39 ?_
    have hc : k + 600 ≤ 601024 := by omega
    have hs : n + 4100 ≤ 7293034 := by omega
    refine law_sw B hl hX hbl hbA hi6 hL hc hs h (fun S1 S2 f L2 k' n' hk' hn' h' => ?_) _
    refine k_iinc (v := nI (i + 6)) (lst' := (4, .int (nI (i + 6))) :: [(0, .ref b), (1, .ref x), (2, .ref m2), (3, .ref out)]) (B' _ _ _) 4 rfl (show nI i + Int32.ofInt 6 = nI (i + 6) by rw [show Int32.ofInt 6 = nI 6 by decide]; exact nI_add i 6) (by decide) rfl dL_law_1770 ?_
    refine k_goto (tgt := 23) (B' _ _ _) dL_law_1773 (by decide) ?_
    refine k_sub (lst' := lawL b x m2 out (i + 6)) [1, 2, 3, 4, 0] rfl ?_
    exact ih (j + 1) (by omega) (i + 6) k' n' (by omega) hi6 (st6 hk' hk) (st6 hn' hn) S1 S2 f L2 h'
end LWL
