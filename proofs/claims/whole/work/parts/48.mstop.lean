theorem tryD_st {D : Ab} {q h k F : Nat} (h1 : 846 ≤ F) : (tryD D q h k).2 F = D F := by
  have hg : ∀ (D : Ab) gx gy, goD D gx gy F = D F := fun D gx gy => by unfold goD; rw [au_neF (by omega), au_neF (by omega), au_neF (by omega)]
  unfold tryD
  split
  · split
    · split
      · show leftD _ _ _ F = _
        unfold leftD; rw [aset_ne (by omega), aset_ne (by omega), au_neF (by omega), hg]
      · exact hg D _ _
    · rfl
  · split
    · rfl
    · show layD _ _ _ _ F = _
      unfold layD; rw [aset_ne (by omega), aset_ne (by omega), aset_ne (by omega), aset_ne (by omega), aset_ne (by omega), au_neF (by omega), hg]
theorem tryD_time {D : Ab} {q h k : Nat} {b : Int} (hA : AIw D) (hh : h < 16) (hk : k < cl (D 904 h)) (ht : trOk (trD D) b) (hb : b ≤ 800000) : trOk (trD (tryD D q h k).2) (b + 362) := by
  have e2 : (2 : Int32).toInt = 2 := by decide
  have add2 : ∀ D : Ab, trOk (trD D) (b + 360) → trOk (trD (au D 842 0 (D 842 0 + 2))) (b + 362) := by
    intro D h
    obtain ⟨h1, h2, h3, h4⟩ := h
    refine ⟨h1, h2, ?_⟩
    show isN (D 842 0 + 2) _
    have h3' : 0 ≤ (D 842 0).toInt := h3
    have h4' : (D 842 0).toInt ≤ b + 360 := h4
    unfold isN
    rw [add_i (by omega) (by omega)]
    omega
  obtain ⟨wh, hw⟩ := (hA.2.2 h hh).2.2 k hk
  have h904 := (hA.2.2 h hh).2.1
  unfold tryD
  rcases hw with ⟨e, hw⟩ | ⟨e, hw⟩
  · have c : ¬ (200 : Int32) ≤ D 905 (3 * h + k) := by rw [e, show (200 : Int32) = nI 200 from rfl]; exact nI_ge (by omega) (by omega)
    rw [if_neg c, whD_eq e (by decide) (by decide) (by omega)]
    split
    · exact ht.up (by omega)
    · have g := goD_ok hA.1.1 ht (by omega) (hA.2.1 wh hw).1 (hA.2.1 wh hw).2
      exact add2 _ g
  · have c : (200 : Int32) ≤ D 905 (3 * h + k) := by rw [e, show (200 : Int32) = nI 200 from rfl]; exact nI_le (by omega) (by omega)
    rw [if_pos c, whD_eq e (by decide) (by decide) (by omega)]
    have g := goD_ok hA.1.1 ht (by omega) (hA.1.2.2.2.1 wh hw).1 (hA.1.2.2.2.1 wh hw).2
    split
    · split
      · exact add2 _ g
      · exact g.up (by omega)
    · exact ht.up (by omega)
section MST
variable {p : Program} {l : Launch} {e : Env} {s : State} {m : MethodId} {args : Array Value} {below : List Frame} {meth : Method} {c : Code} {w : Wd} {S : St}
theorem l_place (B : Bd p s m args meth c cX12_isPlaced 6 (wsOf yX12_isPlaced cX12_isPlaced 6 (some .boolean)) RX12 w (some .boolean) "isPlaced") {Q : State → Prop} {m0 s0 ah off x q hm : Nat} {A : Nat → Nat} {α D0 : Ab} (hA : AIw α) (hq : q < 30) (hh : hm < 16)
    (hx : ∀ S' D, MD m0 s0 ah A α off x D S' → plcD q hm (cl (α 904 hm)) 0 D0 = (true, D) → ∀ pc, (pc = 219 ∨ pc = 331) → K p l e rX12_isPlaced s m args below meth c 6 w 0 0 Q S' pc [] [])
    (hy : ∀ S' D, MD m0 s0 ah A α off x D S' → plcD q hm (cl (α 904 hm)) 0 D0 = (false, D) → K p l e rX12_isPlaced s m args below meth c 6 w 0 0 Q S' 339 [] []) :
    ∀ d k, k + d = cl (α 904 hm) → ∀ S D, MD m0 s0 ah A α off x D S → trOk (trD D) (3000 + 362 * k) → plcD q hm (cl (α 904 hm)) 0 D0 = plcD q hm d k D → K p l e rX12_isPlaced s m args below meth c 6 w 0 0 Q S 12 [(0, .ref x), (1, .int (nI q)), (2, .int (nI hm)), (3, .int (nI k))] [] := by
  have ho := hA.2.2 hm hh
  have n3 := ho.2.1
  have eh : (nI hm).toNatClampNeg = hm := nI_clamp (by omega)
  have eq : (nI q).toNatClampNeg = q := nI_clamp (by omega)
  intro d
  induction d with
  | zero =>
    intro k hk S D h ht hp
    obtain ⟨k1, k2, k3⟩ := h.knd
    obtain ⟨a1, a2, a3, a4⟩ := h.st 904 (by decide) (by decide) (by decide)
    have en : rI S (A 904) (nI hm).toNatClampNeg = nI (cl (α 904 hm)) := by rw [a4, eh, h.2.2 904 (by decide) (by decide)]; exact ho.1
    exact bX12_isPlaced_12 B k1 k2 k3 a1 a2 (by rw [a3]; exact vp_in_nI hh (by decide)) (fun _ => hy S D h hp) (fun c => absurd (by rw [en, show k = cl (α 904 hm) by omega]; exact Int32.le_refl _) c)
  | succ d ih =>
    intro k hk S D h ht hp
    have hkl : k < cl (α 904 hm) := by omega
    have hAD := hA.D h.2.2
    have e904 : D 904 = α 904 := h.2.2 904 (by decide) (by decide)
    obtain ⟨k1, k2, k3⟩ := h.knd
    obtain ⟨a1, a2, a3, a4⟩ := h.st 904 (by decide) (by decide) (by decide)
    have en : rI S (A 904) (nI hm).toNatClampNeg = nI (cl (α 904 hm)) := by rw [a4, eh, e904]; exact ho.1
    have tt := tryD_time (q := q) hAD hh (by rw [e904]; exact hkl) ht (by omega)
    have hpe : plcD q hm (d + 1) k D = if (tryD D q hm k).1 = true then tryD D q hm k else plcD q hm d (k + 1) (tryD D q hm k).2 := rfl
    -- the next order
    have next : ∀ S', MD m0 s0 ah A α off x (tryD D q hm k).2 S' → (tryD D q hm k).1 = false → K p l e rX12_isPlaced s m args below meth c 6 w 0 0 Q S' 333 [(0, .ref x), (1, .int (nI q)), (2, .int (nI hm)), (3, .int (nI k))] [] := by
      intro S' h' hf
      refine bX12_isPlaced_333 B ?_
      rw [nI_1]
      exact ih (k + 1) (by omega) S' _ h' (tt.up (by omega)) (by rw [hp, hpe, hf, if_neg (by decide)])
    have fin : ∀ D', tryD D q hm k = (true, D') → plcD q hm (cl (α 904 hm)) 0 D0 = (true, D') := fun D' e => by rw [hp, hpe, e, if_pos rfl]
    obtain ⟨wh, hw⟩ := (hAD.2.2 hm hh).2.2 k (by rw [e904]; exact hkl)
    obtain ⟨b1, b2, b3, b4⟩ := h.st 905 (by decide) (by decide) (by decide)
    have ei : (3 : Int32) * nI hm + nI k = nI (3 * hm + k) := by rw [show (3 : Int32) * nI hm = nI (3 * hm) from pk_mul 3 hm, nI_add]
    have hin : vp_in ((3 : Int32) * nI hm + nI k) (ln S (A 905)) := by rw [ei, b3]; exact vp_in_nI (show 3 * hm + k < 48 by omega) (by decide)
    have ev : rI S (A 905) ((3 : Int32) * nI hm + nI k).toNatClampNeg = D 905 (3 * hm + k) := by rw [ei, nI_clamp (by omega), b4]
    have h16 : ∀ F, 896 < F → F < 919 → mLen F = 16 → ∀ y, y < 16 → gP S F m0 = some (A F) ∧ kd S (A F) = 21 ∧ vp_in (nI y) (ln S (A F)) ∧ rI S (A F) (nI y).toNatClampNeg = D F y := by
      intro F x1 x2 x3 y hy
      obtain ⟨c1, c2, c3, c4⟩ := h.st F x1 x2 (by rw [x3]; decide)
      exact ⟨c1, c2, by rw [c3, x3]; exact vp_in_nI hy (by decide), by rw [c4, nI_clamp (by omega)]⟩
    obtain ⟨p1, p2, p3, p4⟩ := h16 901 (by decide) (by decide) rfl hm hh
    obtain ⟨q1, q2, q3, q4⟩ := h16 902 (by decide) (by decide) rfl hm hh
    refine bX12_isPlaced_12 B k1 k2 k3 a1 a2 (by rw [a3]; exact vp_in_nI hh (by decide)) (fun c => absurd c (by rw [en]; exact nI_ge hkl (by omega))) (fun _ => ?_)
    have hr1 := hr_in (n := 24) ht.2.2.1 rfl
    rcases hw with ⟨e0, hw⟩ | ⟨e0, hw⟩
    · -- a locker
      have c0 : ¬ (200 : Int32) ≤ D 905 (3 * hm + k) := by rw [e0, show (200 : Int32) = nI 200 from rfl]; exact nI_ge (by omega) (by omega)
      have ewh := whD_eq e0 (by decide) (by decide) (show wh < 100 by omega)
      have er : D 905 (3 * hm + k) - D 905 (3 * hm + k) / 100 * 100 = nI wh := by rw [e0, show (100 : Int32) = nI 100 from rfl, pk_rem (by omega) (by decide) (by decide), show (100 + wh) % 100 = wh by omega]
      have etry : tryD D q hm k = if D 914 q = 1 ∨ boxD D q wh = -1 ∨ ¬ dist (D 901 hm) (D 902 hm) (D 907 wh) (D 908 wh) ≤ 15 then (false, D) else (true, layD D q wh (cl (boxD D q wh))) := by
        unfold tryD; rw [if_neg c0, ewh]
      refine bX12_isPlaced_25 B k1 k2 k3 b1 b2 hin k2 k3 b1 b2 hin (fun c => absurd (by rw [ev] at c; exact c) c0) (fun _ => ?_)
      rw [ev, er]
      refine bX12_isPlaced_62 B (c_boxForD h hq hw) k1 (fun r S' hq1 => ?_)
      obtain ⟨rfl, rfl⟩ := hq1
      obtain ⟨d1, d2, d3, d4⟩ := h.st 914 (by decide) (by decide) (by decide)
      have ek : rI S (A 914) (nI q).toNatClampNeg = D 914 q := by rw [d4, eq]
      have no : (D 914 q = 1 ∨ boxD D q wh = -1 ∨ ¬ dist (D 901 hm) (D 902 hm) (D 907 wh) (D 908 wh) ≤ 15) → K p l e rX12_isPlaced s m args below meth c 6 w 0 0 Q S 333 [(0, .ref x), (1, .int (nI q)), (2, .int (nI hm)), (3, .int (nI k))] [] := by
        intro hc
        rw [if_pos hc] at etry
        exact next S (by rw [etry]; exact h) (by rw [etry])
      refine bX12_isPlaced_69 B k1 k2 k3 d1 d2 (by rw [d3]; exact vp_in_nI hq (by decide)) (fun c => no (Or.inl (by rw [ek] at c; exact c))) (fun cA => ?_)
      rw [ek] at cA
      refine bX12_isPlaced_84 B (fun c => no (Or.inr (Or.inl c))) (fun cB => ?_)
      obtain ⟨r1, r2, r3, r4⟩ := h.st 907 (by decide) (by decide) (by decide)
      obtain ⟨t1, t2, t3, t4⟩ := h.st 908 (by decide) (by decide) (by decide)
      have w1 : vp_in (nI wh) (ln S (A 907)) := by rw [r3]; exact vp_in_nI hw (by decide)
      have w2 : vp_in (nI wh) (ln S (A 908)) := by rw [t3]; exact vp_in_nI hw (by decide)
      have x1 : rI S (A 907) (nI wh).toNatClampNeg = D 907 wh := by rw [r4, nI_clamp (by omega)]
      have x2 : rI S (A 908) (nI wh).toNatClampNeg = D 908 wh := by rw [t4, nI_clamp (by omega)]
      refine bX12_isPlaced_90 B k1 k2 k3 p1 p2 p3 k2 k3 q1 q2 q3 k2 k3 r1 r2 w1 k2 k3 t1 t2 w2 c_mapart (fun r S' hq1 => ?_)
      obtain ⟨rfl, rfl⟩ := hq1
      rw [p4, q4, x1, x2]
      refine bX12_isPlaced_131 B (fun cC => ?_) (fun c => bX12_isPlaced_136 B (no (Or.inr (Or.inr c))))
      rw [if_neg (fun z => by rcases z with z | z | z; exact cA z; exact cB z; exact z cC)] at etry
      obtain ⟨bx, hbx, ebx⟩ : ∃ b, b < 3 ∧ boxD D q wh = nI b := by
        rcases boxD_cases D q wh with z | z
        · exact absurd z cB
        · exact z
      rw [ebx, cl_nI (by omega)] at etry
      rw [ebx]
      have hgo := c_goToD (l := l) (w := w) (gx := D 907 wh) (gy := D 908 wh) h hr1
      rw [← x1, ← x2] at hgo
      refine bX12_isPlaced_139 B k1 k2 k3 r1 r2 w1 k2 k3 t1 t2 w2 hgo (fun S' h' => ?_)
      rw [x1, x2] at h'
      have gne : ∀ F, F < 842 → (goD D (D 907 wh) (D 908 wh)) F = D F := fun F hF => by unfold goD; rw [au_neF (by omega), au_neF (by omega), au_neF (by omega)]
      have inq : ∀ {S'' D''} (_ : MD m0 s0 ah A α off x D'' S'') F, 832 ≤ F → F < 846 → mLen F = 30 → vp_in (nI q) (ln S'' (A (F + off))) := by
        intro S'' D'' h'' F x1 x2 x3
        rw [(h''.ar F x1 x2 (by rw [x3]; decide)).2.2.1, x3]; exact vp_in_nI hq (by decide)
      obtain ⟨u1, u2, u3, u4⟩ := h'.ar 834 (by decide) (by decide) (by decide)
      refine bX12_isPlaced_163 B h'.knd.1 u1 u2 (inq h' 834 (by decide) (by decide) rfl) ?_
      rw [u4, eq, h'.sc 842 (by decide) (by decide) rfl, gne 834 (by decide)]
      have m1 := (h'.setS (F := 842) (by decide) (by decide) rfl ((goD D (D 907 wh) (D 908 wh)) 842 0 + 2)).setA (F := 834) (by decide) (by decide) (by decide) (va_up (D 834) q 2)
      obtain ⟨u1, u2, u3, u4⟩ := m1.ar 836 (by decide) (by decide) (by decide)
      refine bX12_isPlaced_180 B m1.knd.1 u1 u2 (inq m1 836 (by decide) (by decide) rfl) ?_
      rw [u4, eq, aset_ne (by decide), au_neF (by decide), gne 836 (by decide)]
      have m2 := m1.setA (F := 836) (by decide) (by decide) (by decide) (va_up (D 836) q (nI wh))
      obtain ⟨u1, u2, u3, u4⟩ := m2.ar 837 (by decide) (by decide) (by decide)
      refine bX12_isPlaced_188 B m2.knd.1 u1 u2 (inq m2 837 (by decide) (by decide) rfl) ?_
      rw [u4, eq, aset_ne (by decide), aset_ne (by decide), au_neF (by decide), gne 837 (by decide)]
      have m3 := m2.setA (F := 837) (by decide) (by decide) (by decide) (va_up (D 837) q (nI bx))
      obtain ⟨u1, u2, u3, u4⟩ := m3.ar 838 (by decide) (by decide) (by decide)
      refine bX12_isPlaced_196 B m3.knd.1 u1 u2 (inq m3 838 (by decide) (by decide) rfl) ?_
      rw [u4, eq, aset_ne (by decide), aset_ne (by decide), aset_ne (by decide), au_neF (by decide), gne 838 (by decide)]
      have m4 := m3.setA (F := 838) (by decide) (by decide) (by decide) (va_up (D 838) q 0)
      obtain ⟨u1, u2, u3, u4⟩ := m4.ar 839 (by decide) (by decide) (by decide)
      have ebi : (3 : Int32) * nI wh + nI bx = nI (3 * wh + bx) := by rw [show (3 : Int32) * nI wh = nI (3 * wh) from pk_mul 3 wh, nI_add]
      refine bX12_isPlaced_203 B m4.knd.1 u1 u2 (by rw [ebi, u3]; exact vp_in_nI (show 3 * wh + bx < 12 by omega) (by decide)) ?_
      rw [ebi, nI_clamp (by omega), u4, aset_ne (by decide), aset_ne (by decide), aset_ne (by decide), aset_ne (by decide), au_neF (by decide), gne 839 (by decide)]
      have m5 := m4.setA (F := 839) (by decide) (by decide) (by decide) (va_up (D 839) (3 * wh + bx) (D 839 (3 * wh + bx) - 1))
      exact hx _ _ m5 (fin _ etry) 219 (Or.inl rfl)
    · -- a neighbour
      have c0 : (200 : Int32) ≤ D 905 (3 * hm + k) := by rw [e0, show (200 : Int32) = nI 200 from rfl]; exact nI_le (by omega) (by omega)
      have ewh := whD_eq e0 (by decide) (by decide) (show wh < 100 by omega)
      have er : D 905 (3 * hm + k) - D 905 (3 * hm + k) / 100 * 100 = nI wh := by rw [e0, show (100 : Int32) = nI 100 from rfl, pk_rem (by omega) (by decide) (by decide), show (200 + wh) % 100 = wh by omega]
      have etry : tryD D q hm k = if dist (D 901 hm) (D 902 hm) (D 901 wh) (D 902 wh) ≤ 8 then
          if ((goD D (D 901 wh) (D 902 wh)) 903 wh >>> (hr ((goD D (D 901 wh) (D 902 wh)) 842 0) &&& 31)) &&& 1 = 1 then (true, leftD (goD D (D 901 wh) (D 902 wh)) q wh) else (false, goD D (D 901 wh) (D 902 wh))
          else (false, D) := by
        unfold tryD; rw [if_pos c0, ewh]
      refine bX12_isPlaced_25 B k1 k2 k3 b1 b2 hin k2 k3 b1 b2 hin (fun _ => ?_) (fun c => absurd c0 (by rw [ev] at c; exact c))
      rw [ev, er]
      obtain ⟨r1, r2, r3, r4⟩ := h16 901 (by decide) (by decide) rfl wh hw
      obtain ⟨t1, t2, t3, t4⟩ := h16 902 (by decide) (by decide) rfl wh hw
      refine bX12_isPlaced_221 B k1 k2 k3 p1 p2 p3 k2 k3 q1 q2 q3 k2 k3 r1 r2 r3 k2 k3 t1 t2 t3 c_mapart (fun r S' hq1 => ?_)
      obtain ⟨rfl, rfl⟩ := hq1
      rw [p4, q4, r4, t4]
      refine bX12_isPlaced_262 B (fun cA => ?_) (fun cA => bX12_isPlaced_267 B ?_)
      · rw [if_pos cA] at etry
        have hgo := c_goToD (l := l) (w := w) (gx := D 901 wh) (gy := D 902 wh) h hr1
        rw [← r4, ← t4] at hgo
        refine bX12_isPlaced_270 B k1 k2 k3 r1 r2 r3 k2 k3 t1 t2 t3 hgo (fun S' h' => ?_)
        rw [r4, t4] at h'
        refine bX12_isPlaced_294 B (c_isHomeD h' hw) h'.knd.1 (fun r S2 hq1 => ?_)
        obtain ⟨rfl, hq1⟩ := hq1
        rcases hq1 with ⟨rfl, hH⟩ | ⟨rfl, hH⟩
        · unfold homeD at hH
          rw [if_pos hH] at etry
          refine bX12_isPlaced_300 B (fun _ => ?_) (fun c => absurd c ne1)
          obtain ⟨u1, u2, u3, u4⟩ := h'.ar 834 (by decide) (by decide) (by decide)
          refine bX12_isPlaced_306 B h'.knd.1 u1 u2 (by rw [u3]; exact vp_in_nI hq (by decide)) ?_
          rw [u4, eq, h'.sc 842 (by decide) (by decide) rfl]
          have m1 := (h'.setS (F := 842) (by decide) (by decide) rfl ((goD D (D 901 wh) (D 902 wh)) 842 0 + 2)).setA (F := 834) (by decide) (by decide) (by decide) (va_up ((goD D (D 901 wh) (D 902 wh)) 834) q 3)
          obtain ⟨u1, u2, u3, u4⟩ := m1.ar 836 (by decide) (by decide) (by decide)
          refine bX12_isPlaced_323 B m1.knd.1 u1 u2 (by rw [u3]; exact vp_in_nI hq (by decide)) ?_
          rw [u4, eq, aset_ne (by decide), au_neF (by decide)]
          have m2 := m1.setA (F := 836) (by decide) (by decide) (by decide) (va_up ((goD D (D 901 wh) (D 902 wh)) 836) q (nI wh))
          exact hx _ _ m2 (fin _ etry) 331 (Or.inr rfl)
        · unfold homeD at hH
          rw [if_neg hH] at etry
          refine bX12_isPlaced_300 B (fun c => absurd rfl c) (fun _ => bX12_isPlaced_303 B (next _ (by rw [etry]; exact h') (by rw [etry])))
      · rw [if_neg cA] at etry
        exact next S (by rw [etry]; exact h) (by rw [etry])
end MST
