/-! THE CLASS'S giving back, foresee -/
def RKp (D0 : Ab) (R : Ke) : Prop := (∀ q, q < nP D0 → R.1 q 0 = D0 835 q ∧ R.1 q 1 = D0 834 q ∧ R.1 q 2 = D0 836 q ∧ (D0 834 q = 2 → R.1 q 3 = D0 837 q) ∧ R.1 q 4 = D0 838 q) ∧ ∀ k, k < nL D0 → ∀ b, b < 3 → R.2 k b = D0 839 (3 * k + b)
def bkD (D0 D : Ab) (q : Nat) : Ab := fun F x => if (834 ≤ F ∧ F ≤ 838) ∧ x = q then D0 F x else D F x
def lkD (D0 D : Ab) (k : Nat) : Ab := fun F x => if F = 839 ∧ 3 * k ≤ x ∧ x < 3 * k + 3 then D0 F x else D F x
section BCK
variable {l : Launch} {w : Wd} {S S' : St} {T : Tb} {D0 D D' : Ab} {R : Ke} {cn : Int32}
theorem DC0.locX (h : DC0 w S T D0 R D cn) (k : ∀ a, kd S' a = kd S a) (ln' : ∀ a, ln S' a = ln S a) (hp : ∀ g a, gP S' g a = gP S g a) (hg : ∀ g a, gI S' g a = gI S g a)
    (hr : ∀ a, (∀ i, i < nL D0 → a ≠ T 25 i) → rI S' a = rI S a) (hrP : ∀ a, rP S' a = rP S a) (hD : ∀ F, F ≠ 839 → D' F = D F) (lf : ∀ i, i < nL D0 → ∀ b, b < 3 → rI S' (T 25 i) b = D' 839 (3 * i + b)) : DC0 w S' T D0 R D' cn := by
  obtain ⟨⟨f1, f2⟩, hC, h4, h5, h6, h7⟩ := h
  obtain ⟨nh, nl, nv, np⟩ := dE_n f1
  have n25 : ∀ c j, j < cCnt (dE D0 D) c → c ≠ 25 → rI S' (T c j) = rI S (T c j) := fun c j hj hc => hr _ (fun i hi => hC.ne hj (cnL (by decide) (by decide) (by rw [nl]; exact hi)) (Or.inl hc))
  have e : ∀ F, F ≠ 839 → dE D0 D' F = dE D0 D F := fun F hF => by
    by_cases z : F = 840
    · rw [z]; exact (aset_same).trans (aset_same).symm
    · rw [dE_F z, dE_F z]; exact hD F hF
  refine ⟨⟨f1.lo (fun F h1 _ => hD F (by omega)), (hD 841 (by decide)).trans f2⟩, ?_, (hg _ _).trans h4, (hg _ _).trans (h5.trans (by rw [hD 833 (by decide)])), fun x hx' => ?_, fun i hi => ?_⟩
  · refine hC.day k ln' (fun f a _ => hp f a) (fun f a _ => hg f a) (fun a ha => hr a (fun i hi => ha i (by rw [nl]; exact hi))) hrP (fun F hF => e F (fun z => by rw [z] at hF; exact absurd hF (by decide))) (fun x hx' => ?_) (fun i hi b hb => ?_)
    · have := hC.pad hx'
      unfold PaD at this ⊢
      rw [hg, hg, hg, hg, hg, e 834 (by decide), e 835 (by decide), e 836 (by decide), e 837 (by decide), e 838 (by decide)]
      exact this
    · rw [dE_F (by decide)]; exact lf i (by rw [← nl]; exact hi) b hb
  · rw [n25 31 x (cnP (by decide) (by decide) (by rw [np]; exact hx')) (by decide)]; exact h6 x hx'
  · rw [n25 26 i (cnL (by decide) (by decide) (by rw [nl]; exact hi)) (by decide)]; exact h7 i hi
theorem c_pback (h : DC0 w S T D0 R D cn) (hA : AIy D0) (hR : RKp D0 R) {q : Nat} (hq : q < nP D0) : ConV l yX3_giveBack (wsOf yX3_giveBack cX3_giveBack 1 none) rX3_giveBack w S [.ref (T 30 q)] (fun S' => DC0 w S' T D0 R (bkD D0 D q) cn) := by
  obtain ⟨⟨a1, -, -⟩, -, -⟩ := h.par hA hq
  have hq' : q < nP (dE D0 D) := by rw [(dE_n h.f).2.2.2]; exact hq
  have l31 := h.c.lk (30, 269, 31) (by decide) (cnP (by decide) (by decide) hq')
  have k31 : kd S (T 31 q) = 21 := h.c.k (cnP (by decide) (by decide) hq')
  have n31 : ln S (T 31 q) = 5 := h.c.lnn (cnP (by decide) (by decide) hq') (by decide)
  have eK : rI S (T 31 q) = R.1 q := h.2.2.2.2.1 q hq
  obtain ⟨r0, r1, r2, r3, r4⟩ := hR.1 q hq
  refine con_V (by decide +kernel) rfl (Nat.le_of_ble_eq_true rfl) (fun p e s m args below meth c B => ?_)
  refine bX3_giveBack_0 B a1 l31 k31 (by rw [n31]; exact vp_in_nI (show 0 < 5 by omega) (by decide)) l31 k31 (by rw [n31]; exact vp_in_nI (show 1 < 5 by omega) (by decide)) l31 k31 (by rw [n31]; exact vp_in_nI (show 2 < 5 by omega) (by decide)) l31 k31 (by rw [n31]; exact vp_in_nI (show 3 < 5 by omega) (by decide)) l31 k31 (by rw [n31]; exact vp_in_nI (show 4 < 5 by omega) (by decide)) ?_
  rw [show (0 : Int32).toNatClampNeg = 0 from rfl, show (1 : Int32).toNatClampNeg = 1 from rfl, show (2 : Int32).toNatClampNeg = 2 from rfl, show (3 : Int32).toNatClampNeg = 3 from rfl, show (4 : Int32).toNatClampNeg = 4 from rfl, eK]
  have B1 : ∀ F, 834 ≤ F → F ≤ 838 → bkD D0 D q F q = D0 F q := fun F h1 h2 => if_pos ⟨⟨h1, h2⟩, rfl⟩
  have B2 : ∀ F, F < 834 ∨ 839 ≤ F → bkD D0 D q F = D F := fun F hF => by
    funext x
    exact if_neg (fun z => by omega)
  refine h.parX (q := q) (fun _ => rfl) (fun _ => rfl) (fun _ _ => rfl) (fun g a hg => by rw [gI_sI, if_neg (fun z => hg (by omega)), gI_sI, if_neg (fun z => hg (by omega)), gI_sI, if_neg (fun z => hg (by omega)), gI_sI, if_neg (fun z => hg (by omega)), gI_sI, if_neg (fun z => hg (by omega))]) (fun _ _ => rfl) (fun _ => rfl) hq (fun F hF => B2 F (by omega)) (fun F x _ _ hx => if_neg (fun z => hx z.2)) ⟨?_, ?_, ?_, ?_, ?_⟩ (fun i hi b' hb' => ?_)
  · rw [B1 _ (by decide) (by decide), gI_sI, if_neg (fun z => absurd z.1 (by decide)), gI_sI, if_neg (fun z => absurd z.1 (by decide)), gI_sI, if_neg (fun z => absurd z.1 (by decide)), gI_sI, if_neg (fun z => absurd z.1 (by decide)), gI_sI, if_pos ⟨rfl, rfl⟩]; exact r0
  · rw [B1 _ (by decide) (by decide), gI_sI, if_neg (fun z => absurd z.1 (by decide)), gI_sI, if_neg (fun z => absurd z.1 (by decide)), gI_sI, if_neg (fun z => absurd z.1 (by decide)), gI_sI, if_pos ⟨rfl, rfl⟩]; exact r1
  · rw [B1 _ (by decide) (by decide), gI_sI, if_neg (fun z => absurd z.1 (by decide)), gI_sI, if_neg (fun z => absurd z.1 (by decide)), gI_sI, if_pos ⟨rfl, rfl⟩]; exact r2
  · rw [B1 _ (by decide) (by decide), B1 _ (by decide) (by decide), gI_sI, if_neg (fun z => absurd z.1 (by decide)), gI_sI, if_pos ⟨rfl, rfl⟩]; exact r3
  · rw [B1 _ (by decide) (by decide), gI_sI, if_pos ⟨rfl, rfl⟩]; exact r4
  · rw [B2 _ (by omega)]
    exact (h.lok hi).2.2.2.2.2.2.2.2 b' hb'
theorem c_lback (h : DC0 w S T D0 R D cn) (hR : RKp D0 R) {k : Nat} (hk : k < nL D0) : ConV l yX2_giveBack (wsOf yX2_giveBack cX2_giveBack 1 none) rX2_giveBack w S [.ref (T 23 k)] (fun S' => DC0 w S' T D0 R (lkD D0 D k) cn) := by
  obtain ⟨k1, k2, k3, k4, k5, k6, k7, k8, k9⟩ := h.lok hk
  have hk' : k < nL (dE D0 D) := by rw [(dE_n h.f).2.1]; exact hk
  have c26 : k < cCnt (dE D0 D) 26 := cnL (by decide) (by decide) hk'
  have c23 : k < cCnt (dE D0 D) 23 := cnL (by decide) (by decide) hk'
  have n26 : ln S (T 26 k) = 3 := h.c.lnn c26 (by decide)
  have eK : rI S (T 26 k) = R.2 k := h.2.2.2.2.2 k hk
  refine con_V (by decide +kernel) rfl (Nat.le_of_ble_eq_true rfl) (fun p e s m args below meth c B => ?_)
  refine bX2_giveBack_0 B k1 (h.c.lk (23, 194, 26) (by decide) c23) k6 (h.c.k c26) k7 (by rw [n26]; decide) (by rw [k8]; decide) ?_
  rw [show (0 : Int32).toNatClampNeg = 0 from rfl, show (3 : Int32).toNatClampNeg = 3 from rfl, eK]
  refine h.locX (fun _ => rfl) (fun _ => rfl) (fun _ _ => rfl) (fun _ _ => rfl) (fun a ha => by rw [rI_sRI, if_neg (ha k hk)]) (fun _ => rfl) (fun F hF => by funext x; exact if_neg (fun z => hF z.1)) (fun i hi b hb => ?_)
  rw [rI_sRI]
  by_cases z : i = k
  · subst z
    rw [if_pos rfl, pk_cpy_in (by omega) (by omega), show 0 + (b - 0) = b by omega, hR.2 i hk b hb]
    exact (if_pos ⟨rfl, by omega, by omega⟩).symm
  · rw [if_neg (h.c.ne (cnL (by decide) (by decide) (by rw [(dE_n h.f).2.1]; exact hi)) (cnL (by decide) (by decide) hk') (Or.inr z)), show lkD D0 D k 839 (3 * i + b) = D 839 (3 * i + b) from if_neg (fun y => by omega)]
    exact (h.lok hi).2.2.2.2.2.2.2.2 b hb
/-- given back: parcels below i, lockers below j -/
def Bk (D0 E : Ab) (i j : Nat) (D : Ab) : Prop := (∀ F x, 834 ≤ F → F ≤ 838 → x < i → D F x = D0 F x) ∧ (∀ k, k < j → ∀ b, b < 3 → D 839 (3 * k + b) = D0 839 (3 * k + b)) ∧ D 832 = E 832 ∧ D 833 = E 833
theorem Bk.done {E : Ab} (h : DC0 w S T D0 R D cn) (b : Bk D0 E (nP D0) (nL D0) D) (e32 : E 832 = D0 832) : CR w S T D0 := by
  obtain ⟨nh, nl, nv, np⟩ := dE_n h.f
  obtain ⟨b1, b2, b3, b4⟩ := b
  have F : ∀ F, 896 < F → F < 919 → dE D0 D F = D0 F := fun F h1 h2 => by rw [dE_F (by omega)]; exact h.f F h1 h2
  have em : ∀ v, mny (dE D0 D) v = mny D0 v := fun v => by unfold mny dE; rw [aset_same]
  refine h.c.vi ⟨⟨?_, ?_, ?_, ?_⟩, ⟨?_, ?_, ?_, ?_⟩, fun i hi => ?_, fun k hk => ?_, fun v hv => ?_, fun q hq => ?_⟩
  · rw [F 900 (by decide) (by decide)]
  · rw [F 906 (by decide) (by decide)]
  · rw [F 909 (by decide) (by decide)]
  · rw [F 913 (by decide) (by decide)]
  · rw [F 897 (by decide) (by decide)]
  · rw [F 898 (by decide) (by decide)]
  · rw [F 899 (by decide) (by decide)]
  · rw [dE_F (by decide), b3, e32]
  · rw [F 901 (by decide) (by decide), F 902 (by decide) (by decide), F 903 (by decide) (by decide), F 904 (by decide) (by decide), F 905 (by decide) (by decide)]; exact ⟨rfl, rfl, rfl, rfl, fun _ _ => rfl⟩
  · rw [nl] at hk
    rw [F 907 (by decide) (by decide), F 908 (by decide) (by decide), dE_F (by decide)]; exact ⟨rfl, rfl, b2 k hk⟩
  · rw [F 910 (by decide) (by decide), F 911 (by decide) (by decide), F 912 (by decide) (by decide), show dE D0 D 840 = D0 840 from aset_same, dE_F (by decide), h.1.2]; exact ⟨rfl, rfl, rfl, rfl, fun _ _ => rfl⟩
  · rw [np] at hq
    rw [F 914 (by decide) (by decide), F 915 (by decide) (by decide), F 916 (by decide) (by decide), F 917 (by decide) (by decide), F 918 (by decide) (by decide), dE_F (by decide), dE_F (by decide), dE_F (by decide), dE_F (by decide), dE_F (by decide)]
    exact ⟨⟨rfl, rfl, rfl, rfl, rfl⟩, b1 _ _ (by decide) (by decide) hq, b1 _ _ (by decide) (by decide) hq, b1 _ _ (by decide) (by decide) hq, b1 _ _ (by decide) (by decide) hq, b1 _ _ (by decide) (by decide) hq⟩
end BCK
section BLOOP
variable {p : Program} {l : Launch} {e : Env} {s : State} {m : MethodId} {args : Array Value} {below : List Frame} {meth : Method} {c : Code} {w : Wd}
theorem l_bk1 (B : Bd p s m args meth c cX11_giveBackAll 2 (wsOf yX11_giveBackAll cX11_giveBackAll 2 none) RX11 w none "giveBackAll") {Q : State → Prop} {T : Tb} {D0 E : Ab} {R : Ke} {cn : Int32} (hA : AIy D0) (hR : RKp D0 R) (hx : ∀ S' D', DC0 w S' T D0 R D' cn → Bk D0 E (nP D0) 0 D' → K p l e rX11_giveBackAll s m args below meth c 2 w 0 0 Q S' 33 [(0, .ref (T 0 0))] []) :
    ∀ d i S D, i + d = nP D0 → DC0 w S T D0 R D cn → Bk D0 E i 0 D → K p l e rX11_giveBackAll s m args below meth c 2 w 0 0 Q S 2 [(0, .ref (T 0 0)), (1, .int (nI i))] [] := by
  have n30 := hA.1.1.1.2.1.2.2.2.2
  intro d
  induction d with
  | zero =>
    intro i S D hi h b
    have : i = nP D0 := by omega
    subst this
    have hn := c_npar (l := l) h.c
    rw [(dE_n h.f).2.2.2] at hn
    refine bX11_giveBackAll_2 B h.c.x.1 h.c.x.2.2.2.2.2.1 hn (h.c.k1 7 (by decide)) (fun r S' hq => ?_)
    obtain ⟨rfl, rfl⟩ := hq
    exact bX11_giveBackAll_10 B (fun _ => hx S D h b) (fun cc => absurd (Int32.le_refl _) cc)
  | succ d ih =>
    intro i S D hi h b
    have hil : i < nP D0 := by omega
    have hn := c_npar (l := l) h.c
    rw [(dE_n h.f).2.2.2] at hn
    have hi' : i < nP (dE D0 D) := by rw [(dE_n h.f).2.2.2]; exact hil
    refine bX11_giveBackAll_2 B h.c.x.1 h.c.x.2.2.2.2.2.1 hn (h.c.k1 7 (by decide)) (fun r S' hq => ?_)
    obtain ⟨rfl, rfl⟩ := hq
    refine bX11_giveBackAll_10 B (fun cc => absurd cc (Int32.not_le.mpr (nI_lt hil (by omega)))) (fun _ => ?_)
    refine bX11_giveBackAll_13 B h.c.x.1 h.c.x.2.2.2.2.2.1 (c_gpar h.c hi') (h.c.k1 7 (by decide)) (fun r S' hq => ?_)
    obtain ⟨rfl, rfl⟩ := hq
    refine bX11_giveBackAll_21 B (h.c.kp hi') (c_pback h hA hR hil) (fun S' hq => bX11_giveBackAll_27 B ?_)
    rw [nI_1]
    obtain ⟨b1, b2, b3, b4⟩ := b
    refine ih (i + 1) S' _ (by omega) hq ⟨fun F x h1 h2 hx' => ?_, fun k hk => absurd hk (by omega), ?_, ?_⟩
    · by_cases z : x = i
      · exact if_pos ⟨⟨h1, h2⟩, z⟩
      · exact (if_neg (fun y => z y.2)).trans (b1 F x h1 h2 (by omega))
    · rw [← b3]; funext x; exact if_neg (fun z => by omega)
    · rw [← b4]; funext x; exact if_neg (fun z => by omega)
theorem l_bk2 (B : Bd p s m args meth c cX11_giveBackAll 2 (wsOf yX11_giveBackAll cX11_giveBackAll 2 none) RX11 w none "giveBackAll") {Q : State → Prop} {T : Tb} {D0 E : Ab} {R : Ke} {cn : Int32} (hA : AIy D0) (hR : RKp D0 R) (hx : ∀ S' D', DC0 w S' T D0 R D' cn → Bk D0 E (nP D0) (nL D0) D' → K p l e rX11_giveBackAll s m args below meth c 2 w 0 0 Q S' 66 [] []) :
    ∀ d i S D, i + d = nL D0 → DC0 w S T D0 R D cn → Bk D0 E (nP D0) i D → K p l e rX11_giveBackAll s m args below meth c 2 w 0 0 Q S 35 [(0, .ref (T 0 0)), (1, .int (nI i))] [] := by
  have n4 := hA.1.1.1.2.1.2.1.2
  intro d
  induction d with
  | zero =>
    intro i S D hi h b
    have : i = nL D0 := by omega
    subst this
    have hn := c_nloc (l := l) h.c
    rw [(dE_n h.f).2.1] at hn
    refine bX11_giveBackAll_35 B h.c.x.1 h.c.x.2.2.2.1 hn (h.c.k1 5 (by decide)) (fun r S' hq => ?_)
    obtain ⟨rfl, rfl⟩ := hq
    exact bX11_giveBackAll_43 B (fun _ => hx S D h b) (fun cc => absurd (Int32.le_refl _) cc)
  | succ d ih =>
    intro i S D hi h b
    have hil : i < nL D0 := by omega
    have hn := c_nloc (l := l) h.c
    rw [(dE_n h.f).2.1] at hn
    have hi' : i < nL (dE D0 D) := by rw [(dE_n h.f).2.1]; exact hil
    refine bX11_giveBackAll_35 B h.c.x.1 h.c.x.2.2.2.1 hn (h.c.k1 5 (by decide)) (fun r S' hq => ?_)
    obtain ⟨rfl, rfl⟩ := hq
    refine bX11_giveBackAll_43 B (fun cc => absurd cc (Int32.not_le.mpr (nI_lt hil (by omega)))) (fun _ => ?_)
    refine bX11_giveBackAll_46 B h.c.x.1 h.c.x.2.2.2.1 (c_gloc h.c hi') (h.c.k1 5 (by decide)) (fun r S' hq => ?_)
    obtain ⟨rfl, rfl⟩ := hq
    refine bX11_giveBackAll_54 B (h.lok hil).1 (c_lback h hR hil) (fun S' hq => bX11_giveBackAll_60 B ?_)
    rw [nI_1]
    obtain ⟨b1, b2, b3, b4⟩ := b
    refine ih (i + 1) S' _ (by omega) hq ⟨fun F x h1 h2 hx' => ?_, fun k hk b hb => ?_, ?_, ?_⟩
    · exact (if_neg (fun y => by omega)).trans (b1 F x h1 h2 hx')
    · by_cases z : k = i
      · exact if_pos ⟨rfl, by omega, by omega⟩
      · exact (if_neg (fun y => by omega)).trans (b2 k (by omega) b hb)
    · rw [← b3]; funext x; exact if_neg (fun z => by omega)
    · rw [← b4]; funext x; exact if_neg (fun z => by omega)
end BLOOP
/-- what is true of the numbers is true of the numbers ahead -/
theorem bec_st {α : Ab} {F : Nat} (h1 : 896 < F) (h2 : F < 919) : becD α F = α F := becD_st (by omega)
theorem AIy_bec {α : Ab} (h : AIy α) : AIy (becD α) := by
  have fD : FrD α (becD α) := fun F h1 _ => becD_st (by omega)
  obtain ⟨⟨⟨hA1, hAw, hLa⟩, hx⟩, hv, hn⟩ := h
  obtain ⟨nh, nl, nv, np⟩ := fD.n
  have n30 := hA1.2.1.2.2.2.2
  have n4 := hA1.2.1.2.2.1.2
  have e40 : ∀ v, v < 4 → becD α 840 v = α 840 v := fun v hv => becD_at (by decide) (by decide) hv
  have em : ∀ v, v < 4 → mny (becD α) v = mny α v := fun v hv => by unfold mny; rw [e40 v hv]
  have e41 : ∀ v i, v < 4 → i < 12 → becD α 841 (12 * v + i) = α 841 (12 * v + i) := fun v i hv hi => becD_at (by decide) (by decide) (show 12 * v + i < 48 by omega)
  have er : ∀ v i, v < 4 → i < 12 → rwf (becD α) v i = rwf α v i := fun v i hv hi => by unfold rwf; rw [e41 v i hv hi]
  have e30 : ∀ F q, 834 ≤ F → F ≤ 838 → q < 30 → becD α F q = α F q := fun F q h1 h2 hq => by
    have : F = 834 ∨ F = 835 ∨ F = 836 ∨ F = 837 ∨ F = 838 := by omega
    rcases this with rfl | rfl | rfl | rfl | rfl
    · exact becD_at (by decide) (by decide) hq
    · exact becD_at (by decide) (by decide) hq
    · exact becD_at (by decide) (by decide) hq
    · exact becD_at (by decide) (by decide) hq
    · exact becD_at (by decide) (by decide) hq
  have hw : AIw (becD α) := hAw.D fD
  have on : ∀ q, On (becD α) q → On α q := fun q ⟨v, i, h1, h2, h3⟩ => by
    rw [nv] at h1
    have v4 : v < 4 := by omega
    rw [em v v4] at h2
    rw [er v i v4 (by have := hA1.m12 v4; omega)] at h3
    exact ⟨v, i, h1, h2, h3⟩
  obtain ⟨x1, x2, x3, x4, x5, x6, x7, x8⟩ := hx
  refine ⟨⟨⟨⟨hw.1, ?_, ?_⟩, hw, LaidOk_bec hLa⟩, ?_⟩, fun q hq => ?_, fun q hq z => ?_⟩
  · obtain ⟨c1, c2, c3, c4⟩ := hA1.2.1
    exact ⟨by rw [nh, fD 900 (by decide) (by decide)]; exact c1, by rw [nl, fD 906 (by decide) (by decide)]; exact c2, by rw [nv, fD 909 (by decide) (by decide)]; exact c3, by rw [np, fD 913 (by decide) (by decide)]; exact c4⟩
  · obtain ⟨c1, c2, c3, c4⟩ := hA1.2.2
    refine ⟨fun v hv => by rw [e40 v hv, em v hv]; exact c1 v hv, fun v h1 h2 => by rw [nv] at h1; rw [em v h2]; exact c2 v h1 h2, fun v i hv hi => ?_, fun v v' i i' hv hv' hi hi' e1 => ?_⟩
    · rw [em v hv] at hi
      have := (c1 v hv).2
      rw [e41 v i hv (by omega), er v i hv (by omega), np]; exact c3 v i hv hi
    · rw [em v hv] at hi
      rw [em v' hv'] at hi'
      have := (c1 v hv).2
      have := (c1 v' hv').2
      rw [er v i hv (by omega), er v' i' hv' (by omega)] at e1
      exact c4 v v' i i' hv hv' hi hi' e1
  · refine ⟨fun q hq => ?_, fun i hi k hk => ?_, fun q hq => ?_, fun q hq z => ?_, fun q hq => ?_, fun q hq z => ?_, fun i h1 h2 => ?_, fun q h1 h2 => ?_⟩
    · rw [np] at hq
      rw [nh, fD 916 (by decide) (by decide)]; exact x1 q hq
    · rw [nh] at hi
      rw [fD 904 (by decide) (by decide)] at hk
      rw [nh, nl, fD 905 (by decide) (by decide)]; exact x2 i hi k hk
    · have o := on q hq
      obtain ⟨v, i, h1, h2, h3⟩ := id o
      have q30 : q < 30 := by rw [← h3]; exact hA1.rw30 (by omega) h2
      rw [e30 834 q (by decide) (by decide) q30]; exact x3 q o
    · rw [np] at hq
      rw [e30 834 q (by decide) (by decide) (by omega)] at z
      rw [e30 838 q (by decide) (by decide) (by omega), e30 835 q (by decide) (by decide) (by omega)]; exact x4 q hq z
    · rw [np] at hq
      rw [e30 835 q (by decide) (by decide) (by omega)]; exact x5 q hq
    · rw [np] at hq
      rw [e30 834 q (by decide) (by decide) (by omega)] at z
      rw [nl, e30 836 q (by decide) (by decide) (by omega)]; exact x6 q hq z
    · rw [nh] at h1
      rw [fD 904 (by decide) (by decide)]; exact x7 i h1 h2
    · rw [np] at h1
      rw [e30 834 q (by decide) (by decide) h2, e30 835 q (by decide) (by decide) h2, e30 838 q (by decide) (by decide) h2]; exact x8 q h1 h2
  · rw [np] at hq
    rw [fD 915 (by decide) (by decide)]; exact hv q hq
  · rw [np] at hq
    rw [e30 834 q (by decide) (by decide) (by omega)] at z
    rw [e30 838 q (by decide) (by decide) (by omega)]; exact hn q hq z
theorem VI_bec {α : Ab} (hA : AI1 α) : VI α (becD α) := by
  have fD : FrD α (becD α) := fun F h1 _ => becD_st (by omega)
  have n30 := hA.2.1.2.2.2.2
  have n4 := hA.2.1.2.2.1.2
  have nl4 := hA.2.1.2.1.2
  have S : ∀ F, 896 < F → F < 919 → becD α F = α F := fD
  refine ⟨⟨?_, ?_, ?_, ?_⟩, ⟨?_, ?_, ?_, ?_⟩, fun i hi => ?_, fun k hk => ?_, fun v hv => ?_, fun q hq => ?_⟩
  · rw [S 900 (by decide) (by decide)]
  · rw [S 906 (by decide) (by decide)]
  · rw [S 909 (by decide) (by decide)]
  · rw [S 913 (by decide) (by decide)]
  · rw [S 897 (by decide) (by decide)]
  · rw [S 898 (by decide) (by decide)]
  · rw [S 899 (by decide) (by decide)]
  · exact (show α 832 0 = bec α 1832 0 from bec_0.symm).trans (congrFun (show bec α 1832 = becD α 832 from rfl) 0)
  · rw [S 901 (by decide) (by decide), S 902 (by decide) (by decide), S 903 (by decide) (by decide), S 904 (by decide) (by decide), S 905 (by decide) (by decide)]; exact ⟨rfl, rfl, rfl, rfl, fun _ _ => rfl⟩
  · rw [S 907 (by decide) (by decide), S 908 (by decide) (by decide)]
    exact ⟨rfl, rfl, fun b hb => (becD_at (by decide) (by decide) (show 3 * k + b < 12 by omega)).symm⟩
  · rw [S 910 (by decide) (by decide), S 911 (by decide) (by decide), S 912 (by decide) (by decide), becD_at (by decide) (by decide) (show v < 4 by omega)]
    exact ⟨rfl, rfl, rfl, rfl, fun k hk => (becD_at (by decide) (by decide) (show 12 * v + k < 48 by have := hA.m12 (show v < 4 by omega); omega)).symm⟩
  · rw [S 914 (by decide) (by decide), S 915 (by decide) (by decide), S 916 (by decide) (by decide), S 917 (by decide) (by decide), S 918 (by decide) (by decide), becD_at (F := 834) (by decide) (by decide) (show q < 30 by omega), becD_at (F := 835) (by decide) (by decide) (show q < 30 by omega), becD_at (F := 836) (by decide) (by decide) (show q < 30 by omega), becD_at (F := 837) (by decide) (by decide) (show q < 30 by omega), becD_at (F := 838) (by decide) (by decide) (show q < 30 by omega)]
    exact ⟨⟨rfl, rfl, rfl, rfl, rfl⟩, rfl, rfl, rfl, rfl, rfl⟩
theorem VI.sym {α β : Ab} (h : VI α β) : VI β α := by
  have eH := viH h
  have eL := viL h
  have eV := viV h
  have eP := viP h
  obtain ⟨⟨a1, a2, a3, a4⟩, ⟨b1, b2, b3, b4⟩, c1, d1, e1, f1⟩ := id h
  refine ⟨⟨a1.symm, a2.symm, a3.symm, a4.symm⟩, ⟨b1.symm, b2.symm, b3.symm, b4.symm⟩, fun i hi => ?_, fun k hk => ?_, fun v hv => ?_, fun q hq => ?_⟩
  · obtain ⟨x1, x2, x3, x4, x5⟩ := c1 i (by rw [← eH]; exact hi)
    exact ⟨x1.symm, x2.symm, x3.symm, x4.symm, fun k hk => (x5 k hk).symm⟩
  · obtain ⟨x1, x2, x3⟩ := d1 k (by rw [← eL]; exact hk)
    exact ⟨x1.symm, x2.symm, fun b hb => (x3 b hb).symm⟩
  · have hv' : v < nV α := by rw [← eV]; exact hv
    obtain ⟨x1, x2, x3, x4, x5⟩ := e1 v hv'
    exact ⟨x1.symm, x2.symm, x3.symm, x4.symm, fun k hk => (x5 k (by rw [← viM h hv']; exact hk)).symm⟩
  · obtain ⟨⟨x1, x2, x3, x4, x5⟩, y1, y2, y3, y4, y5⟩ := f1 q (by rw [← eP]; exact hq)
    exact ⟨⟨x1.symm, x2.symm, x3.symm, x4.symm, x5.symm⟩, y1.symm, y2.symm, y3.symm, y4.symm, y5.symm⟩
theorem hwN_eq {D D' : Ab} {v : Int32} (h : D' 834 = D 834) : ∀ n, hwN D' v n = hwN D v n := by
  intro n
  induction n with
  | zero => rfl
  | succ n ih => unfold hwN; rw [ih, h]
theorem driveD_ne {D : Ab} {F : Nat} (h : F ≠ 832) : (driveD D).2 F = niN (drV D (nV D)).2 (nP D) F := au_neF h
theorem AI1.dEx {D0 D : Ab} (h : AI1 D0) (f : FrD D0 D) (h41 : D 841 = D0 841) : AI1 (dE D0 D) := by
  obtain ⟨nh, nl, nv, np⟩ := dE_n f
  have F : ∀ F, 896 < F → F < 919 → dE D0 D F = D0 F := fun F h1 h2 => by rw [dE_F (by omega)]; exact f F h1 h2
  have e40 : dE D0 D 840 = D0 840 := aset_same
  have e41 : dE D0 D 841 = D0 841 := by rw [dE_F (by decide)]; exact h41
  have em : ∀ v, mny (dE D0 D) v = mny D0 v := fun v => by unfold mny; rw [e40]
  have er : ∀ v i, rwf (dE D0 D) v i = rwf D0 v i := fun v i => by unfold rwf; rw [e41]
  refine ⟨h.1.D F, ?_, ?_⟩
  · unfold AIc
    rw [nh, nl, nv, np, F 900 (by decide) (by decide), F 906 (by decide) (by decide), F 909 (by decide) (by decide), F 913 (by decide) (by decide)]
    exact h.2.1
  · unfold AIv
    simp only [em, er, e40, e41, nv, np]
    exact h.2.2
section FOR
variable {l : Launch} {w : Wd} {S : St} {T : Tb}
theorem c_giveBack {D0 D : Ab} {R : Ke} {cn : Int32} (h : DC0 w S T D0 R D cn) (hA : AIy D0) (hR : RKp D0 R) (e32 : D 832 = D0 832) : ConV l yX11_giveBackAll (wsOf yX11_giveBackAll cX11_giveBackAll 2 none) rX11_giveBackAll w S [.ref (T 0 0)] (fun S' => CR w S' T D0 ∧ gI S' 388 (T 13 0) = cn ∧ gI S' 389 (T 13 0) = D 833 0) := by
  refine con_V (by decide +kernel) rfl (Nat.le_of_ble_eq_true rfl) (fun p e s m args below meth c B => ?_)
  refine bX11_giveBackAll_0 B (l_bk1 (E := D) B hA hR (fun S1 D1 h1 b1 => bX11_giveBackAll_33 B (l_bk2 (E := D) B hA hR (fun S2 D2 h2 b2 => bX11_giveBackAll_66 B ⟨b2.done h2 e32, h2.2.2.1, ?_⟩) (nL D0) 0 S1 D1 (by omega) h1 b1)) (nP D0) 0 S D (by omega) h ⟨fun _ x _ _ hx => absurd hx (by omega), fun k hk => absurd hk (by omega), rfl, rfl⟩)
  rw [h2.2.2.2.1, b2.2.2.2]
theorem k_foresee {α : Ab} (hf : l.stackTraces = false) (h : CR w S T α) (hA : AIy α) {a : Int32} : ConXI l yX11_foresee (wsOf yX11_foresee cX11_foresee 4 (some .int)) rX11_foresee w S [.ref (T 0 0), .int a] (CP w (T 0 0) (if isIx a 3 then (0, forD α (becD α) (cl a), α) else (1, 0, α))) (CE w (T 0 0) [nIO] (if isIx a 3 then (0, forD α (becD α) (cl a), α) else (1, 0, α))) := by
  have n30 := hA.1.1.1.2.1.2.2.2.2
  have hB := AIy_bec hA
  have hV := VI_bec hA.1.1.1
  refine conX_I (by decide +kernel) rfl (Nat.le_of_ble_eq_true rfl) (fun p e s m args below meth c B ht => ?_)
  refine bX11_foresee_0 B hf ht (c_needIx (n := 3) hf (by omega)) (Nat.le_of_ble_eq_true rfl) (Nat.le_of_ble_eq_true rfl) (fun E S' hq => ?_) (fun S' hq => ?_)
  · obtain ⟨rfl, rfl, hn⟩ := hq
    exact CE.mk 0 rfl h (if_neg hn)
  obtain ⟨rfl, h1⟩ := hq
  rw [if_pos h1]
  refine bX11_foresee_5 B hf ht (c_inSt h hA.1.1.1) (Nat.le_of_ble_eq_true rfl) (Nat.le_of_ble_eq_true rfl) h.x.1 (fun r S' hq => ?_)
  obtain ⟨rfl, rfl⟩ := hq
  refine bX11_foresee_10 B hf ht (c_keepAll h hA.1.1.1) (Nat.le_of_ble_eq_true rfl) (Nat.le_of_ble_eq_true rfl) h.x.1 (fun S1 hq => ?_)
  obtain ⟨c1, k1, k2⟩ := hq
  have c1b := c1.vi hV
  have eP := viP hV
  have eL := viL hV
  have eV := viV hV
  have hR : RKp (becD α) (fun q => rI S1 (T 31 q), fun k => rI S1 (T 26 k)) := by
    refine ⟨fun q hq => ?_, fun k hk b hb => ?_⟩
    · have hq' : q < nP α := by rw [← eP]; exact hq
      obtain ⟨-, y1, y2, y3, y4, y5⟩ := hV.2.2.2.2.2 q hq'
      obtain ⟨z1, z2, z3, z4, z5⟩ := k1 q hq'
      exact ⟨z1.trans y2, z2.trans y1, z3.trans y3, fun e0 => (z4 (y1.trans e0)).trans y4, z5.trans y5⟩
    · have hk' : k < nL α := by rw [← eL]; exact hk
      exact (k2 k hk' b hb).trans ((hV.2.2.2.1 k hk').2.2 b hb)
  refine bX11_foresee_15 B hf ht (c_dall (R := (fun q => rI S1 (T 31 q), fun k => rI S1 (T 26 k))) c1b ⟨fun _ _ => rfl, fun _ _ => rfl⟩ hB) (Nat.le_of_ble_eq_true rfl) (Nat.le_of_ble_eq_true rfl) c1.x.1 (fun S2 h2 => ?_)
  have hA2 := hB.1.1.1.dEx h2.f h2.1.2
  refine bX11_foresee_19 B hf ht (c_inSt h2.c hA2) (Nat.le_of_ble_eq_true rfl) (Nat.le_of_ble_eq_true rfl) h2.c.x.1 (fun r S' hq => ?_)
  obtain ⟨rfl, rfl⟩ := hq
  have e32 : (niN (drV (becD α) (nV (becD α))).2 (nP (becD α))) 832 = becD α 832 := by rw [niN_st (by omega), drV_32]
  refine bX11_foresee_24 B hf ht (c_giveBack h2 hB hR e32) (Nat.le_of_ble_eq_true rfl) (Nat.le_of_ble_eq_true rfl) h2.c.x.1 (fun S3 hq => ?_)
  obtain ⟨c3b, g1, g2⟩ := hq
  have c3 := c3b.vi hV.sym
  have eh : hwN (dE (becD α) (niN (drV (becD α) (nV (becD α))).2 (nP (becD α)))) 4 (nP (dE (becD α) (niN (drV (becD α) (nV (becD α))).2 (nP (becD α))))) = hwN (driveD (becD α)).2 4 (nP α) := by
    rw [(dE_n h2.f).2.2.2, eP]
    refine hwN_eq ?_ _
    rw [dE_F (by decide), driveD_ne (by decide), eP]
  rw [eh]
  obtain ⟨k, hk, rfl⟩ := h1.nI
  rw [cl_nI (by omega)]
  have t13 : kd S3 (T 13 0) = 7 := c3.k1 13 (by decide)
  refine bX11_foresee_31 B hf ht (fun c0 => ?_) (fun c0 => ?_) (fun c0 => ?_)
  · have k0 : k = 0 := by
      have := (nI_eq (a := k) (b := 0) (by omega) (by omega)).mp c0
      exact this
    subst k0
    refine bX11_foresee_60 B hf ht c3.x.1 c3.x.2.2.2.2.2.2.2.1 t13 (Nat.le_of_ble_eq_true rfl) (Nat.le_of_ble_eq_true rfl) ?_
    rw [g1]
    exact CP.mk c3 rfl
  · have k0 : k = 1 := by
      have := (nI_eq (a := k) (b := 1) (by omega) (by omega)).mp c0
      exact this
    subst k0
    exact bX11_foresee_68 B hf ht (Nat.le_of_ble_eq_true rfl) (Nat.le_of_ble_eq_true rfl) (CP.mk c3 rfl)
  · have k0 : k = 2 := by
      rw [nI_toInt (by omega)] at c0
      omega
    subst k0
    refine bX11_foresee_70 B hf ht c3.x.1 c3.x.2.2.2.2.2.2.2.1 t13 (Nat.le_of_ble_eq_true rfl) (Nat.le_of_ble_eq_true rfl) ?_
    rw [g2]
    refine CP.mk c3 ?_
    have : (driveD (becD α)).2 833 0 = niN (drV (becD α) (nV (becD α))).2 (nP (becD α)) 833 0 := by rw [driveD_ne (by decide)]
    show (0, (driveD (becD α)).2 833 0, α) = _
    rw [this]
end FOR
