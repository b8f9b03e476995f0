/-! THE DAY: a state of the reference (its own, off = 0; the one ahead, off = 1000), as numbers D -/
def wr (D : Ab) (off : Nat) (α : Ab) : Ab := fun F => if 832 + off ≤ F ∧ F < 846 + off then D (F - off) else α F
def MD (m s ah : Nat) (A : Nat → Nat) (α : Ab) (off x : Nat) (D : Ab) (S : St) : Prop := MR S m s ah A (wr D off α) ∧ (off = 0 ∧ x = s ∨ off = 1000 ∧ x = ah) ∧ FrD α D
theorem wr_in {D α : Ab} {off F : Nat} (h1 : 832 ≤ F) (h2 : F < 846) : wr D off α (F + off) = D F := by
  unfold wr; rw [if_pos (by omega), show F + off - off = F by omega]
theorem wr_out {D α : Ab} {off F : Nat} (h : ¬ (832 + off ≤ F ∧ F < 846 + off)) : wr D off α F = α F := if_neg h
theorem au_wr {D α : Ab} {off F i : Nat} {v : Int32} (h1 : 832 ≤ F) (h2 : F < 846) : au (wr D off α) (F + off) i v = wr (au D F i v) off α := by
  funext F' i'
  unfold au wr
  by_cases c : 832 + off ≤ F' ∧ F' < 846 + off
  · rw [if_pos c, if_pos c]
    by_cases c2 : F' = F + off ∧ i' = i
    · rw [if_pos c2]; exact (if_pos ⟨by omega, c2.2⟩).symm
    · rw [if_neg c2]; exact (if_neg (fun z => c2 ⟨by omega, z.2⟩)).symm
  · rw [if_neg c, if_neg c, if_neg (fun z => c (by omega))]
theorem aset_wr {D α : Ab} {off F : Nat} {g : Nat → Int32} (h1 : 832 ≤ F) (h2 : F < 846) : aset (wr D off α) (F + off) g = wr (aset D F g) off α := by
  funext F'
  unfold aset wr
  by_cases c : 832 + off ≤ F' ∧ F' < 846 + off
  · rw [if_pos c, if_pos c]
    by_cases c2 : F' = F + off
    · rw [if_pos c2]; exact (if_pos (by omega)).symm
    · rw [if_neg c2]; exact (if_neg (by omega)).symm
  · rw [if_neg c, if_neg c, if_neg (by omega)]
theorem wr_0 {α : Ab} : wr α 0 α = α := by
  funext F
  unfold wr
  split
  · rfl
  · rfl
theorem mLen_off : ∀ F, 832 ≤ F → F < 846 → mLen (F + 1000) = mLen F := by
  have : ∀ F, F < 846 → 832 ≤ F → mLen (F + 1000) = mLen F := by decide +kernel
  exact fun F a b => this F b a
theorem mSc_off : ∀ F, 832 ≤ F → F < 846 → mSc (F + 1000) = mSc F := by
  have : ∀ F, F < 846 → 832 ≤ F → mSc (F + 1000) = mSc F := by decide +kernel
  exact fun F a b => this F b a
section MDS
variable {m0 s0 ah off x : Nat} {A : Nat → Nat} {α D : Ab} {S : St}
theorem MD.own (h : MD m0 s0 ah A α off x D S) {F : Nat} (h1 : 832 ≤ F) (h2 : F < 846) : fo (F + off) = F ∧ mOwn m0 s0 ah (F + off) = x := by
  rcases h.2.1 with ⟨rfl, rfl⟩ | ⟨rfl, rfl⟩
  · unfold fo mOwn; exact ⟨if_pos (by omega), if_pos (by omega)⟩
  · unfold fo mOwn; exact ⟨by rw [if_neg (by omega)]; omega, by rw [if_neg (by omega), if_neg (by omega)]⟩
theorem MD.knd (h : MD m0 s0 ah A α off x D S) : kd S x = 14 ∧ gP S 846 x = some m0 ∧ kd S m0 = 15 := by
  obtain ⟨⟨⟨g1, g2, g3, g4, g5, g6, g7, g8⟩, -⟩, h2, -⟩ := h
  rcases h2 with ⟨rfl, rfl⟩ | ⟨rfl, rfl⟩
  · exact ⟨g2, g7, g1⟩
  · exact ⟨g3, g8, g1⟩
theorem MD.len (h : MD m0 s0 ah A α off x D S) {F : Nat} (h1 : 832 ≤ F) (h2 : F < 846) : mLen (F + off) = mLen F := by
  rcases h.2.1 with ⟨rfl, rfl⟩ | ⟨rfl, rfl⟩
  · rfl
  · exact mLen_off F h1 h2
theorem MD.scl (h : MD m0 s0 ah A α off x D S) {F : Nat} (h1 : 832 ≤ F) (h2 : F < 846) : mSc (F + off) = mSc F := by
  rcases h.2.1 with ⟨rfl, rfl⟩ | ⟨rfl, rfl⟩
  · rfl
  · exact mSc_off F h1 h2
theorem MD.ar (h : MD m0 s0 ah A α off x D S) (F : Nat) (h1 : 832 ≤ F) (h2 : F < 846) (h3 : mLen F ≠ 0) : gP S F x = some (A (F + off)) ∧ kd S (A (F + off)) = 21 ∧ ln S (A (F + off)) = mLen F ∧ rI S (A (F + off)) = D F := by
  obtain ⟨a1, a2, a3, a4⟩ := h.1.ar (F + off) (by rw [h.len h1 h2]; exact h3)
  rw [(h.own h1 h2).1, (h.own h1 h2).2] at a1
  rw [h.len h1 h2] at a3
  rw [wr_in h1 h2] at a4
  exact ⟨a1, a2, a3, a4⟩
theorem MD.sc (h : MD m0 s0 ah A α off x D S) (F : Nat) (h1 : 832 ≤ F) (h2 : F < 846) (h3 : mSc F = true) : gI S F x = D F 0 := by
  have a1 := h.1.sc (F + off) (by rw [h.scl h1 h2]; exact h3)
  rw [(h.own h1 h2).1, (h.own h1 h2).2, wr_in h1 h2] at a1
  exact a1
theorem MD.nost (h : MD m0 s0 ah A α off x D S) {F : Nat} (h1 : 896 < F) (h2 : F < 919) : wr D off α F = D F := by
  rw [wr_out (by rcases h.2.1 with ⟨rfl, -⟩ | ⟨rfl, -⟩ <;> omega)]
  exact (h.2.2 F h1 h2).symm
theorem MD.st (h : MD m0 s0 ah A α off x D S) (F : Nat) (h1 : 896 < F) (h2 : F < 919) (h3 : mLen F ≠ 0) : gP S F m0 = some (A F) ∧ kd S (A F) = 21 ∧ ln S (A F) = mLen F ∧ rI S (A F) = D F := by
  obtain ⟨a1, a2, a3, a4⟩ := h.1.ar F h3
  rw [h.nost h1 h2] at a4
  rw [show fo F = F from if_pos (by omega), show mOwn m0 s0 ah F = m0 by unfold mOwn; rw [if_neg (by omega), if_pos (by omega)]] at a1
  exact ⟨a1, a2, a3, a4⟩
theorem MD.stS (h : MD m0 s0 ah A α off x D S) (F : Nat) (h1 : 896 < F) (h2 : F < 919) (h3 : mSc F = true) : gI S F m0 = D F 0 := by
  have a1 := h.1.sc F h3
  rw [h.nost h1 h2, show fo F = F from if_pos (by omega), show mOwn m0 s0 ah F = m0 by unfold mOwn; rw [if_neg (by omega), if_pos (by omega)]] at a1
  exact a1
theorem MD.setS (h : MD m0 s0 ah A α off x D S) {F : Nat} (h1 : 832 ≤ F) (h2 : F < 846) (h3 : mSc F = true) (v : Int32) : MD m0 s0 ah A α off x (au D F 0 v) (sI S F x v) := by
  have g := h.1.setS (F := F + off) (by rw [h.scl h1 h2]; exact h3) v
  rw [(h.own h1 h2).1, (h.own h1 h2).2, au_wr h1 h2] at g
  exact ⟨g, h.2.1, fun F' a b => by rw [au_neF (by omega)]; exact h.2.2 F' a b⟩
theorem MD.setA (h : MD m0 s0 ah A α off x D S) {F : Nat} (h1 : 832 ≤ F) (h2 : F < 846) (h3 : mLen F ≠ 0) (g : Nat → Int32) : MD m0 s0 ah A α off x (aset D F g) (sRI S (A (F + off)) g) := by
  have k := h.1.setA (F := F + off) (by rw [h.len h1 h2]; exact h3) g
  rw [aset_wr h1 h2] at k
  exact ⟨k, h.2.1, fun F' a b => by rw [aset_ne (by omega)]; exact h.2.2 F' a b⟩
end MDS
def trD (D : Ab) : Tr := (D 844 0, D 845 0, D 843 0, D 842 0, 0, 0)
def goD (D : Ab) (gx gy : Int32) : Ab := au (au (au D 842 0 (D 842 0 + mins (D 897) (dist (D 844 0) (D 845 0) gx gy) (D 842 0))) 844 0 gx) 845 0 gy
def wkD (D : Ab) (gx gy : Int32) : Ab := if D 842 0 - D 843 0 + mins (D 897) (dist (D 844 0) (D 845 0) gx gy) (D 842 0) ≤ 240 then goD D gx gy else goD (au (au D 842 0 (D 842 0 + 30)) 843 0 (D 842 0 + 30)) gx gy
def homeD (D : Ab) (h : Nat) : Prop := ((D 903 h) >>> (hr (D 842 0) &&& 31)) &&& 1 = 1
def boxN (D : Ab) (k : Nat) : Nat → Nat → Int32
  | 0, _ => -1
  | n + 1, i => if D 839 (3 * k + i) ≤ 0 then boxN D k n (i + 1) else nI i
def boxD (D : Ab) (q k : Nat) : Int32 := if D 915 q ≤ 5 then boxN D k 3 0 else if D 915 q ≤ 15 then boxN D k 2 1 else boxN D k 1 2
section MDC
variable {l : Launch} {w : Wd} {S : St} {m0 s0 ah off x : Nat} {A : Nat → Nat} {α D : Ab}
theorem c_goToD {gx gy : Int32} (h : MD m0 s0 ah A α off x D S) (ht : vp_in (hr (D 842 0)) 24) : ConV l yX12_goTo (wsOf yX12_goTo cX12_goTo 3 none) rX12_goTo w S [.ref x, .int gx, .int gy] (MD m0 s0 ah A α off x (goD D gx gy)) := by
  refine con_V (by decide +kernel) rfl (Nat.le_of_ble_eq_true rfl) (fun p e s m args below meth c B => ?_)
  obtain ⟨k1, k2, k3⟩ := h.knd
  have e1 := h.sc 842 (by decide) (by decide) rfl
  have e2 := h.sc 844 (by decide) (by decide) rfl
  have e3 := h.sc 845 (by decide) (by decide) rfl
  rw [← e1] at ht
  refine bX12_goTo_0 B k1 k2 c_mapart (fun r S' hq => ?_)
  obtain ⟨rfl, rfl⟩ := hq
  refine bX12_goTo_22 B k1 (c_mminutes h.1 ht) k3 (fun r S' hq => ?_)
  obtain ⟨rfl, rfl⟩ := hq
  refine bX12_goTo_29 B k1 k1 ?_
  rw [e1, e2, e3, h.nost (F := 897) (by decide) (by decide)]
  exact ((h.setS (F := 842) (by decide) (by decide) rfl _).setS (F := 844) (by decide) (by decide) rfl _).setS (F := 845) (by decide) (by decide) rfl _
theorem c_workD {gx gy : Int32} (h : MD m0 s0 ah A α off x D S) (ht : vp_in (hr (D 842 0)) 24) (ht2 : vp_in (hr (D 842 0 + 30)) 24) : ConV l yX12_work (wsOf yX12_work cX12_work 3 none) rX12_work w S [.ref x, .int gx, .int gy] (MD m0 s0 ah A α off x (wkD D gx gy)) := by
  refine con_V (by decide +kernel) rfl (Nat.le_of_ble_eq_true rfl) (fun p e s m args below meth c B => ?_)
  obtain ⟨k1, k2, k3⟩ := h.knd
  have e1 := h.sc 842 (by decide) (by decide) rfl
  have e2 := h.sc 844 (by decide) (by decide) rfl
  have e3 := h.sc 845 (by decide) (by decide) rfl
  have e4 := h.sc 843 (by decide) (by decide) rfl
  refine bX12_work_0 B k1 k2 c_mapart (fun r S' hq => ?_)
  obtain ⟨rfl, rfl⟩ := hq
  refine bX12_work_26 B k1 (c_mminutes h.1 (by rw [e1]; exact ht)) k3 (fun r S' hq => ?_)
  obtain ⟨rfl, rfl⟩ := hq
  rw [e1, e2, e3, e4, h.nost (F := 897) (by decide) (by decide)]
  unfold wkD
  refine bX12_work_33 B (fun c => ?_) (fun c => ?_)
  · rw [if_pos c]
    exact bX12_work_59 B (c_goToD h ht) k1 (fun S' hq => bX12_work_65 B hq)
  · rw [if_neg c]
    refine bX12_work_40 B k1 ?_
    rw [e1]
    have h1 := (h.setS (F := 842) (by decide) (by decide) rfl (D 842 0 + 30)).setS (F := 843) (by decide) (by decide) rfl (D 842 0 + 30)
    refine bX12_work_59 B (c_goToD h1 (by rw [au_neF (by decide), au_same]; exact ht2)) k1 (fun S' hq => bX12_work_65 B hq)
theorem c_isHomeD {hm : Nat} (h : MD m0 s0 ah A α off x D S) (hh : hm < 16) : ConI l yX12_isHome (wsOf yX12_isHome cX12_isHome 2 (some .boolean)) rX12_isHome w S [.ref x, .int (nI hm)] (fun r S' => S = S' ∧ (r = 1 ∧ homeD D hm ∨ r = 0 ∧ ¬ homeD D hm)) := by
  refine con_I (by decide +kernel) rfl (Nat.le_of_ble_eq_true rfl) (fun p e s m args below meth c B => ?_)
  obtain ⟨k1, k2, k3⟩ := h.knd
  have e1 := h.sc 842 (by decide) (by decide) rfl
  obtain ⟨a1, a2, a3, a4⟩ := h.st 903 (by decide) (by decide) (by decide)
  have e : ((rI S (A 903) (nI hm).toNatClampNeg) >>> (((gI S 842 x) / 60 - (gI S 842 x) / 60 / 24 * 24) &&& 31)) &&& 1 = (D 903 hm >>> (hr (D 842 0) &&& 31)) &&& 1 := by
    rw [a4, nI_clamp (by omega), e1]; rfl
  refine bX12_isHome_0 B k1 k2 k3 a1 a2 (by rw [a3]; exact vp_in_nI hh (by decide)) (fun c => ?_) (fun c => ?_)
  · rw [e] at c
    exact bX12_isHome_30 B (bX12_isHome_31 B (Or.inl rfl) ⟨rfl, Or.inr ⟨rfl, c⟩⟩)
  · rw [e] at c
    exact bX12_isHome_26 B (bX12_isHome_31 B (Or.inr rfl) ⟨rfl, Or.inl ⟨rfl, c⟩⟩)
theorem c_openD {q k b : Nat} {v : Int32} (h : MD m0 s0 ah A α off x D S) (hq : q < 30) (hk : D 836 q = nI k) (hk4 : k < 4) (hb : D 837 q = nI b) (hb3 : b < 3) :
    ConV l yX12_open (wsOf yX12_open cX12_open 3 none) rX12_open w S [.ref x, .int (nI q), .int v] (MD m0 s0 ah A α off x (aset (aset (aset D 839 (va_up (D 839) (3 * k + b) (D 839 (3 * k + b) + 1))) 836 (va_up (D 836) q (-1))) 834 (va_up (D 834) q v))) := by
  refine con_V (by decide +kernel) rfl (Nat.le_of_ble_eq_true rfl) (fun p e s m args below meth c B => ?_)
  obtain ⟨k1, k2, k3⟩ := h.knd
  obtain ⟨a1, a2, a3, a4⟩ := h.ar 839 (by decide) (by decide) (by decide)
  obtain ⟨b1, b2, b3, b4⟩ := h.ar 836 (by decide) (by decide) (by decide)
  obtain ⟨c1, c2, c3, c4⟩ := h.ar 837 (by decide) (by decide) (by decide)
  have eq : (nI q).toNatClampNeg = q := nI_clamp (by omega)
  have hin : vp_in (nI q) 30 := vp_in_nI hq (by decide)
  have ew : rI S (A (836 + off)) (nI q).toNatClampNeg = nI k := by rw [b4, eq]; exact hk
  have ex : rI S (A (837 + off)) (nI q).toNatClampNeg = nI b := by rw [c4, eq]; exact hb
  have ei : (3 : Int32) * nI k + nI b = nI (3 * k + b) := by rw [show (3 : Int32) * nI k = nI (3 * k) from pk_mul 3 k, nI_add]
  refine bX12_open_0 B k1 a1 b1 b2 (by rw [b3]; exact hin) c1 c2 (by rw [c3]; exact hin) a2 (by rw [ew, ex, ei, a3]; exact vp_in_nI (show 3 * k + b < 12 by omega) (by decide)) ?_
  rw [ew, ex, ei, nI_clamp (by omega), a4]
  have h1 := h.setA (F := 839) (by decide) (by decide) (by decide) (va_up (D 839) (3 * k + b) (D 839 (3 * k + b) + 1))
  obtain ⟨d1, d2, d3, d4⟩ := h1.ar 836 (by decide) (by decide) (by decide)
  refine bX12_open_24 B h1.knd.1 d1 d2 (by rw [d3]; exact hin) ?_
  rw [d4, eq, aset_ne (by decide)]
  have h2 := h1.setA (F := 836) (by decide) (by decide) (by decide) (va_up (D 836) q (-1))
  obtain ⟨f1, f2, f3, f4⟩ := h2.ar 834 (by decide) (by decide) (by decide)
  refine bX12_open_31 B h2.knd.1 f1 f2 (by rw [f3]; exact hin) (bX12_open_38 B ?_)
  rw [f4, eq, aset_ne (by decide), aset_ne (by decide)]
  exact h2.setA (F := 834) (by decide) (by decide) (by decide) _
end MDC
