/-! THE CLASS'S drive -/
theorem stV_40 {v F : Nat} (h1 : F = 832 ∨ F = 833 ∨ F = 840 ∨ F = 841) : ∀ d k cn (D : Ab), (stV v d k cn D).2 F = D F := by
  intro d
  induction d with
  | zero => intro k cn D; rfl
  | succ d ih =>
    intro k cn D
    unfold stV
    split
    · rfl
    · rw [ih]; exact doneD_40 h1
theorem drV_32 {D0 : Ab} : ∀ n, (drV D0 n).2 832 = D0 832 := by
  intro n
  induction n with
  | zero => show au D0 833 0 0 832 = _; rw [au_neF (by decide)]
  | succ n ih =>
    rw [drV_succ]
    show endV _ n 832 = _
    rw [endV_lo (by decide) (by decide) (by decide), stV_40 (by omega), begV_lo (by decide)]; exact ih
theorem drV_40 {D0 : Ab} : ∀ n v, (drV D0 n).2 840 v = if v < n then 0 else D0 840 v := by
  intro n
  induction n with
  | zero => intro v; rw [if_neg (by omega)]; show au D0 833 0 0 840 v = _; rw [au_neF (by decide)]
  | succ n ih =>
    intro v
    rw [drV_succ]
    show endV _ n 840 v = _
    unfold endV lateV
    rw [aset_same, wkD_hi (by omega), stV_40 (by omega), begV_lo (by decide)]
    by_cases z : v = n
    · subst z; rw [va_up_self, if_pos (by omega)]
    · rw [va_up_ne _ _ z, ih]
      by_cases y : v < n
      · rw [if_pos y, if_pos (by omega)]
      · rw [if_neg y, if_neg (by omega)]
theorem niD_st {D : Ab} {q F : Nat} (h : F < 834 ∨ 839 < F) : niD D q F = D F := by
  have hn : nigA D q F = D F := by unfold nigA; rw [aset_ne (by omega)]
  have ho : ∀ v, opnD (nigA D q) q v F = D F := fun v => by unfold opnD; rw [aset_ne (by omega), aset_ne (by omega), aset_ne (by omega)]; exact hn
  unfold niD
  split
  · split
    · exact ho 1
    · split
      · exact ho 4
      · exact hn
  · rfl
theorem niN_st {E : Ab} {F : Nat} (h : F < 834 ∨ 839 < F) : ∀ n, niN E n F = E F := by
  intro n
  induction n with
  | zero => rfl
  | succ n ih => show niD (niN E n) n F = _; rw [niD_st h, ih]
/-- a list where only other things change -/
theorem Ls.fr {w : Wd} {S S' : St} {a ea N n ci : Nat} {f : Nat → Nat} (h : Ls w S a ea N n ci f) (k : ∀ a, kd S' a = kd S a) (l' : ∀ a, ln S' a = ln S a) (h1 : ∀ a, gP S' 1 a = gP S 1 a) (h2 : ∀ a, gI S' 2 a = gI S 2 a) (hr : ∀ a, rP S' a = rP S a) : Ls w S' a ea N n ci f := by
  obtain ⟨m1, m2, m3, m4, m5, m6, m7⟩ := h
  refine ⟨(k _).trans m1, (h1 _).trans m2, (h2 _).trans m3, ?_, m5, m6, fun i hi => by rw [hr, k]; exact m7 i hi⟩
  rcases m4 with z | z
  · exact Or.inl ⟨(k _).trans z.1, (l' _).trans z.2⟩
  · exact Or.inr z
/-- the routes are being cleared: vans of parcels below i none, routes of vans below j empty -/
def Clr (S0 : St) (T : Tb) (i j : Nat) (S : St) : Prop := (∀ a, kd S a = kd S0 a) ∧ (∀ a, ln S a = ln S0 a) ∧ (∀ a, rI S a = rI S0 a) ∧ (∀ a, rP S a = rP S0 a) ∧ (∀ g a, g ≠ 263 → gP S g a = gP S0 g a) ∧ (∀ x, x < i → gP S 263 (T 30 x) = none) ∧ (∀ g a, g ≠ 449 → gI S g a = gI S0 g a) ∧ ∀ v, v < j → gI S 449 (T 28 v) = 0
section DRL
variable {p : Program} {l : Launch} {e : Env} {s : State} {m : MethodId} {args : Array Value} {below : List Frame} {meth : Method} {c : Code} {w : Wd}
theorem l_drA (B : Bd p s m args meth c cX11_drive 2 (wsOf yX11_drive cX11_drive 2 (some .int)) RX11 w (some .int) "drive") {Q : State → Prop} {S0 : St} {T : Tb} {γ : Ab} (h : CR w S0 T γ) (n30 : nP γ ≤ 30) (hx : ∀ S', Clr S0 T (nP γ) 0 S' → K p l e rX11_drive s m args below meth c 2 w 0 0 Q S' 38 [(0, .ref (T 0 0))] []) :
    ∀ d i S, i + d = nP γ → Clr S0 T i 0 S → K p l e rX11_drive s m args below meth c 2 w 0 0 Q S 6 [(0, .ref (T 0 0)), (1, .int (nI i))] [] := by
  intro d
  have hd : ∀ i S, Clr S0 T i 0 S → kd S (T 0 0) = 13 ∧ gP S 772 (T 0 0) = some (T 7 0) ∧ ∃ N, Ls w S (T 7 0) (T 35 0) N (nP γ) 4 (T 30) := fun i S hc => by
    obtain ⟨N, hL⟩ := h.ls (j := 3) (by decide)
    exact ⟨(hc.1 _).trans h.x.1, (hc.2.2.2.2.1 _ _ (by decide)).trans h.x.2.2.2.2.2.1, N, hL.fr hc.1 hc.2.1 (fun a => hc.2.2.2.2.1 _ _ (by decide)) (fun a => hc.2.2.2.2.2.2.1 _ _ (by decide)) hc.2.2.2.1⟩
  induction d with
  | zero =>
    intro i S hi hc
    have : i = nP γ := by omega
    subst this
    obtain ⟨a1, a2, N, hL⟩ := hd _ S hc
    refine bX11_drive_6 B a1 a2 (c_lsize hL.1) hL.1 (fun r S' hq => ?_)
    obtain ⟨rfl, rfl⟩ := hq
    rw [hL.2.2.1]
    exact bX11_drive_14 B (fun _ => hx S hc) (fun cc => absurd (Int32.le_refl _) cc)
  | succ d ih =>
    intro i S hi hc
    have hil : i < nP γ := by omega
    obtain ⟨a1, a2, N, hL⟩ := hd _ S hc
    refine bX11_drive_6 B a1 a2 (c_lsize hL.1) hL.1 (fun r S' hq => ?_)
    obtain ⟨rfl, rfl⟩ := hq
    rw [hL.2.2.1]
    refine bX11_drive_14 B (fun cc => absurd cc (Int32.not_le.mpr (nI_lt hil (by omega)))) (fun _ => ?_)
    refine bX11_drive_17 B a1 a2 (c_lget hL hil) hL.1 (fun r S' hq => ?_)
    obtain ⟨rfl, rfl⟩ := hq
    refine bX11_drive_25 B (hL.2.2.2.2.2.2 i hil).2 ?_
    rw [nI_1]
    refine ih (i + 1) _ (by omega) ?_
    obtain ⟨c1, c2, c3, c4, c5, c6, c7, c8⟩ := hc
    refine ⟨c1, c2, c3, c4, fun g a hg => by rw [gP_sP, if_neg (fun z => hg z.1)]; exact c5 g a hg, fun x hx' => ?_, c7, c8⟩
    rw [gP_sP]
    by_cases z : T 30 x = T 30 i
    · rw [if_pos ⟨rfl, z⟩]
    · rw [if_neg (fun y => z y.2)]
      by_cases y : x = i
      · subst y; exact absurd rfl z
      · exact c6 x (by omega)
theorem l_drB (B : Bd p s m args meth c cX11_drive 2 (wsOf yX11_drive cX11_drive 2 (some .int)) RX11 w (some .int) "drive") {Q : State → Prop} {S0 : St} {T : Tb} {γ : Ab} (h : CR w S0 T γ) (n4 : nV γ ≤ 4) (hx : ∀ S', Clr S0 T (nP γ) (nV γ) S' → K p l e rX11_drive s m args below meth c 2 w 0 0 Q S' 75 [(0, .ref (T 0 0))] []) :
    ∀ d i S, i + d = nV γ → Clr S0 T (nP γ) i S → K p l e rX11_drive s m args below meth c 2 w 0 0 Q S 40 [(0, .ref (T 0 0)), (1, .int (nI i))] [] := by
  intro d
  have hd : ∀ i S, Clr S0 T (nP γ) i S → kd S (T 0 0) = 13 ∧ gP S 771 (T 0 0) = some (T 6 0) ∧ ∃ N, Ls w S (T 6 0) (T 34 0) N (nV γ) 11 (T 27) := fun i S hc => by
    obtain ⟨N, hL⟩ := h.ls (j := 2) (by decide)
    exact ⟨(hc.1 _).trans h.x.1, (hc.2.2.2.2.1 _ _ (by decide)).trans h.x.2.2.2.2.1, N, hL.fr hc.1 hc.2.1 (fun a => hc.2.2.2.2.1 _ _ (by decide)) (fun a => hc.2.2.2.2.2.2.1 _ _ (by decide)) hc.2.2.2.1⟩
  induction d with
  | zero =>
    intro i S hi hc
    have : i = nV γ := by omega
    subst this
    obtain ⟨a1, a2, N, hL⟩ := hd _ S hc
    refine bX11_drive_40 B a1 a2 (c_lsize hL.1) hL.1 (fun r S' hq => ?_)
    obtain ⟨rfl, rfl⟩ := hq
    rw [hL.2.2.1]
    exact bX11_drive_48 B (fun _ => hx S hc) (fun cc => absurd (Int32.le_refl _) cc)
  | succ d ih =>
    intro i S hi hc
    have hil : i < nV γ := by omega
    obtain ⟨a1, a2, N, hL⟩ := hd _ S hc
    refine bX11_drive_40 B a1 a2 (c_lsize hL.1) hL.1 (fun r S' hq => ?_)
    obtain ⟨rfl, rfl⟩ := hq
    rw [hL.2.2.1]
    refine bX11_drive_48 B (fun cc => absurd cc (Int32.not_le.mpr (nI_lt hil (by omega)))) (fun _ => ?_)
    refine bX11_drive_51 B a1 a2 (c_lget hL hil) hL.1 (fun r S' hq => ?_)
    obtain ⟨rfl, rfl⟩ := hq
    obtain ⟨c1, c2, c3, c4, c5, c6, c7, c8⟩ := hc
    refine bX11_drive_59 B (hL.2.2.2.2.2.2 i hil).2 ((c5 _ _ (by decide)).trans (h.kv hil).2.1) ((c1 _).trans (h.kv hil).2.2) ?_
    rw [nI_1]
    refine ih (i + 1) _ (by omega) ⟨c1, c2, c3, c4, c5, c6, fun g a hg => by rw [gI_sI, if_neg (fun z => hg z.1)]; exact c7 g a hg, fun v hv => ?_⟩
    rw [gI_sI]
    by_cases z : T 28 v = T 28 i
    · rw [if_pos ⟨rfl, z⟩]
    · rw [if_neg (fun y => z y.2)]
      by_cases y : v = i
      · subst y; exact absurd rfl z
      · exact c8 v (by omega)
end DRL
section DRC
variable {l : Launch} {w : Wd} {S : St} {T : Tb} {α : Ab}
theorem k_drive (h : CR w S T α) (hA : AIy α) : ConI l yX11_drive (wsOf yX11_drive cX11_drive 2 (some .int)) rX11_drive w S [.ref (T 0 0)] (CP w (T 0 0) (0, (driveD α).1, (driveD α).2)) := by
  have n4 := hA.1.1.1.2.1.2.2.1.2
  have n30 := hA.1.1.1.2.1.2.2.2.2
  refine con_I (by decide +kernel) rfl (Nat.le_of_ble_eq_true rfl) (fun p e s m args below meth c B => ?_)
  refine bX11_drive_0 B (c_dall (R := (fun q => rI S (T 31 q), fun k => rI S (T 26 k))) h ⟨fun _ _ => rfl, fun _ _ => rfl⟩ hA) h.x.1 (fun S1 h1 => bX11_drive_4 B ?_)
  obtain ⟨nh, nl, nv, np⟩ := dE_n h1.f
  refine l_drA B h1.c (by omega) (fun S2 c2 => bX11_drive_38 B (l_drB B h1.c (by omega) (fun S3 c3 => ?_) (nV (dE α (niN (drV α (nV α)).2 (nP α)))) 0 S2 (by omega) c2)) (nP (dE α (niN (drV α (nV α)).2 (nP α)))) 0 S1 (by omega) ⟨fun _ => rfl, fun _ => rfl, fun _ => rfl, fun _ => rfl, fun _ _ _ => rfl, fun _ hx => absurd hx (by omega), fun _ _ _ => rfl, fun _ hx => absurd hx (by omega)⟩
  obtain ⟨c1, c2, c3, c4, c5, c6, c7, c8⟩ := c3
  rw [np] at c6
  rw [nv] at c8
  have hC := h1.c
  have k388 : gI S3 388 (T 13 0) = (drV α (nV α)).1 := (c7 _ _ (by decide)).trans h1.2.2.1
  have e778 : gI S3 778 (T 0 0) = α 832 0 := by
    rw [c7 _ _ (by decide), hC.to.2.2.2, dE_F (by decide), niN_st (by omega), drV_32]
  refine bX11_drive_75 B ((c1 _).trans hC.x.1) ((c5 _ _ (by decide)).trans hC.x.2.2.2.2.2.2.2.1) ((c1 _).trans (hC.k1 13 (by decide))) ?_
  rw [k388, e778]
  refine CP.mk (β := (driveD α).2) ?_ rfl
  -- the end's picture
  have E : ∀ F, F ≠ 832 → (driveD α).2 F = niN (drV α (nV α)).2 (nP α) F := fun F hF => au_neF hF
  have eE : ∀ F, F ≠ 832 → F ≠ 840 → (driveD α).2 F = dE α (niN (drV α (nV α)).2 (nP α)) F := fun F hF h2 => by rw [E F hF, dE_F h2]
  have e32 : (driveD α).2 832 0 = α 832 0 + 1 := by
    unfold driveD
    show au (niN (drV α (nV α)).2 (nP α)) 832 0 (niN (drV α (nV α)).2 (nP α) 832 0 + 1) 832 0 = _
    rw [au_same, niN_st (by omega), drV_32]
  have eM : ∀ v, v < nV α → mny (driveD α).2 v = 0 := fun v hv => by
    unfold mny
    rw [E _ (by decide), niN_st (by omega), drV_40, if_pos hv]; rfl
  have dn : nH (driveD α).2 = nH α ∧ nL (driveD α).2 = nL α ∧ nV (driveD α).2 = nV α ∧ nP (driveD α).2 = nP α := by
    refine ⟨?_, ?_, ?_, ?_⟩
    · exact (congrArg (fun f => (f 0).toNatClampNeg) (eE 900 (by decide) (by decide))).trans nh
    · exact (congrArg (fun f => (f 0).toNatClampNeg) (eE 906 (by decide) (by decide))).trans nl
    · exact (congrArg (fun f => (f 0).toNatClampNeg) (eE 909 (by decide) (by decide))).trans nv
    · exact (congrArg (fun f => (f 0).toNatClampNeg) (eE 913 (by decide) (by decide))).trans np
  have eF : ∀ q, vof (driveD α).2 q = -1 := fun q => by
    unfold vof
    rw [dn.2.2.1]
    exact vofN_off (fun v i hv hi => absurd hi (by rw [eM v hv]; omega))
  have g : ∀ f a, f ≠ 449 → f ≠ 778 → gI (sI S3 778 (T 0 0) (α 832 0 + 1)) f a = gI S1 f a := fun f a h1 h2 => by rw [gI_sI, if_neg (fun z => h2 z.1)]; exact c7 f a h1
  refine hC.chg (fun c => ?_) c1 c2 (fun f a h1 _ _ => c5 f a h1) (fun a => g 2 a (by decide) (by decide)) (fun a _ => c4 a) ?_ (fun i hi => ?_) (fun i hi => ?_) (fun i hi => ?_) (fun i hi => ?_)
  · unfold cCnt; rw [dn.1, dn.2.1, dn.2.2.1, dn.2.2.2, nh, nl, nv, np]
  · obtain ⟨t1, t2, t3, t4⟩ := hC.to
    unfold To
    rw [rI_sI, c3, g _ _ (by decide) (by decide), g _ _ (by decide) (by decide), eE 897 (by decide) (by decide), eE 898 (by decide) (by decide), eE 899 (by decide) (by decide), e32]
    exact ⟨t1, t2, t3, by rw [gI_sI, if_pos ⟨rfl, rfl⟩]⟩
  · obtain ⟨b1, b2, b3, b4, b5⟩ := hC.hm hi
    unfold Hm
    rw [g _ _ (by decide) (by decide), g _ _ (by decide) (by decide), g _ _ (by decide) (by decide), g _ _ (by decide) (by decide), rI_sI, c3, eE 901 (by decide) (by decide), eE 902 (by decide) (by decide), eE 903 (by decide) (by decide), eE 904 (by decide) (by decide), eE 905 (by decide) (by decide)]
    exact ⟨b1, b2, b3, b4, b5⟩
  · obtain ⟨b1, b2, b3⟩ := hC.lo hi
    unfold Lo
    rw [g _ _ (by decide) (by decide), g _ _ (by decide) (by decide), rI_sI, c3, eE 907 (by decide) (by decide), eE 908 (by decide) (by decide), eE 839 (by decide) (by decide)]
    exact ⟨b1, b2, b3⟩
  · obtain ⟨b1, b2, b3, b4, b5, b6⟩ := hC.va hi
    rw [nv] at hi
    unfold Va
    rw [g 704 _ (by decide) (by decide), g 705 _ (by decide) (by decide), g 706 _ (by decide) (by decide), g 707 _ (by decide) (by decide), eE 910 (by decide) (by decide), eE 911 (by decide) (by decide), eE 912 (by decide) (by decide), eM i hi, gI_sI, if_neg (fun z => absurd z.1 (by decide)), c8 i hi]
    exact ⟨b1, b2, b3, b4, rfl, fun k hk => absurd hk (by omega)⟩
  · obtain ⟨⟨b1, b2, b3, b4, b5, b6, b7⟩, -, d2, d3, d4, d5, d6⟩ := hC.pa hi
    rw [np] at hi
    unfold Pa vop
    rw [eF, if_pos rfl, g 256 _ (by decide) (by decide), g 257 _ (by decide) (by decide), g 258 _ (by decide) (by decide), g 259 _ (by decide) (by decide), g 261 _ (by decide) (by decide), g 262 _ (by decide) (by decide), g 264 _ (by decide) (by decide), g 265 _ (by decide) (by decide), g 266 _ (by decide) (by decide), g 267 _ (by decide) (by decide), g 268 _ (by decide) (by decide), gP_sI, gP_sI, c5 260 _ (by decide), c6 i hi, eE 914 (by decide) (by decide), eE 915 (by decide) (by decide), eE 916 (by decide) (by decide), eE 917 (by decide) (by decide), eE 918 (by decide) (by decide), eE 834 (by decide) (by decide), eE 835 (by decide) (by decide), eE 836 (by decide) (by decide), eE 837 (by decide) (by decide), eE 838 (by decide) (by decide)]
    exact ⟨⟨b1, b2, b3, b4, b5, b6, b7⟩, rfl, d2, d3, d4, d5, d6⟩
end DRC
