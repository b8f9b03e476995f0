section ADDPC
variable {l : Launch} {w : Wd} {S : St} {T : Tb} {α : Ab}
theorem k_addParcel (hf : l.stackTraces = false) (h : CR w S T α) (hA : AIz α) {x1 x2 x3 x4 x5 : Int32} : ConXI l yX11_addParcel (wsOf yX11_addParcel cX11_addParcel 6 (some .int)) rX11_addParcel w S [.ref (T 0 0), .int x1, .int x2, .int x3, .int x4, .int x5] (CP w (T 0 0) (opParcel α x1 x2 x3 x4 x5)) (CE w (T 0 0) [nIA, nIO, nIS] (opParcel α x1 x2 x3 x4 x5)) := by
  have n30 := hA.1.1.2.1.2.2.2.2
  have n16 := hA.1.1.2.1.1.2
  refine conX_I (by decide +kernel) rfl (Nat.le_of_ble_eq_true rfl) (fun p e s m args below meth c B ht => ?_)
  have bad : ∀ {S' : St} {E : String}, E = nIA → S = S' → ¬ (inR x1 0 2 ∧ inR x2 1 40 ∧ inR x4 0 1439 ∧ inR x5 x4 1439) → CE w (T 0 0) [nIA, nIO, nIS] (opParcel α x1 x2 x3 x4 x5) E S' := by
    rintro S' E rfl rfl hn
    exact CE.mk 0 rfl h (if_pos hn)
  refine bX11_addParcel_0 B hf ht (c_needRg hf) (Nat.le_of_ble_eq_true rfl) (Nat.le_of_ble_eq_true rfl) (fun E S' hq => bad hq.1 hq.2.1 (fun z => hq.2.2 z.1)) (fun S' hq => ?_)
  obtain ⟨rfl, h1⟩ := hq
  refine bX11_addParcel_6 B hf ht (c_needRg hf) (Nat.le_of_ble_eq_true rfl) (Nat.le_of_ble_eq_true rfl) (fun E S' hq => bad hq.1 hq.2.1 (fun z => hq.2.2 z.2.1)) (fun S' hq => ?_)
  obtain ⟨rfl, h2⟩ := hq
  refine bX11_addParcel_13 B hf ht (c_needRg hf) (Nat.le_of_ble_eq_true rfl) (Nat.le_of_ble_eq_true rfl) (fun E S' hq => bad hq.1 hq.2.1 (fun z => hq.2.2 z.2.2.1)) (fun S' hq => ?_)
  obtain ⟨rfl, h3⟩ := hq
  refine bX11_addParcel_22 B hf ht (c_needRg hf) (Nat.le_of_ble_eq_true rfl) (Nat.le_of_ble_eq_true rfl) (fun E S' hq => bad hq.1 hq.2.1 (fun z => hq.2.2 z.2.2.2)) (fun S' hq => ?_)
  obtain ⟨rfl, h4⟩ := hq
  clear bad
  have e1 : ¬ ¬ (inR x1 0 2 ∧ inR x2 1 40 ∧ inR x4 0 1439 ∧ inR x5 x4 1439) := fun n => n ⟨h1, h2, h3, h4⟩
  refine bX11_addParcel_32 B hf ht h.x.1 h.x.2.2.1 (c_nhom h) (Nat.le_of_ble_eq_true rfl) (Nat.le_of_ble_eq_true rfl) (h.k1 4 (by decide)) (fun r S' hq => ?_)
  obtain ⟨rfl, rfl⟩ := hq
  refine bX11_addParcel_40 B hf ht (c_needIx hf (by omega)) (Nat.le_of_ble_eq_true rfl) (Nat.le_of_ble_eq_true rfl) (fun E S' hq => ?_) (fun S' hq => ?_)
  · obtain ⟨rfl, rfl, hn⟩ := hq
    exact CE.mk 1 rfl h (by unfold opParcel; rw [if_neg e1, if_pos hn]; rfl)
  obtain ⟨rfl, hix⟩ := hq
  refine bX11_addParcel_43 B hf ht h.x.1 h.x.2.2.2.2.2.1 (c_npar h) (Nat.le_of_ble_eq_true rfl) (Nat.le_of_ble_eq_true rfl) (h.k1 7 (by decide)) (fun r S' hq => ?_)
  obtain ⟨rfl, rfl⟩ := hq
  refine bX11_addParcel_50 B hf ht (c_needSp hf) (Nat.le_of_ble_eq_true rfl) (Nat.le_of_ble_eq_true rfl) (fun E S' hq => ?_) (fun S' hq => ?_)
  · obtain ⟨rfl, rfl, hn⟩ := hq
    refine CE.mk 2 rfl h ?_
    have : nP α = 30 := by
      rcases Nat.lt_or_ge (nP α) 30 with z | z
      · exact absurd (nI_lt z (by omega)) hn
      · omega
    unfold opParcel
    rw [if_neg e1, if_neg (fun z => z hix), if_pos this]; rfl
  obtain ⟨rfl, h5⟩ := hq
  have n15 : nP α < 30 := by
    rcases Nat.lt_or_ge (nP α) 30 with z | z
    · exact z
    · exact absurd h5 (nI_nlt z (by omega))
  have eo : opParcel α x1 x2 x3 x4 x5 = (0, nI (nP α), parA α x1 x2 x3 x4 x5) := by unfold opParcel; rw [if_neg e1, if_neg (fun z => z hix), if_neg (by omega)]
  obtain ⟨hm, hhm, rfl⟩ := hix.nI
  refine bX11_addParcel_55 B hf ht h.x.1 h.x.2.2.2.2.2.1 (Nat.le_of_ble_eq_true rfl) (Nat.le_of_ble_eq_true rfl) (fun a ha => ?_)
  obtain ⟨N, hL⟩ := h.ls (j := 3) (by decide)
  obtain ⟨N', hL0⟩ := h.ls (j := 0) (by decide)
  have oa : Old S (nw S a 5 0) := Old.rf.new ha 5 0
  have hLa := hL.old oa
  have hLa0 := hL0.old oa
  have k0 := oa (T 0 0) (h.k0 (cn1 (by decide)))
  have hsz : ConI l yJx4a65c_size_8abf5 (wsOf yJx4a65c_size_8abf5 cJx4a65c_size_8abf5 1 (some .int)) rJx4a65c_size_8abf5 w (nw S a 5 0) [.ref (T 7 0)] (fun r S' => nw S a 5 0 = S' ∧ r = nI (nP α)) := conI_mono (c_lsize hLa.1) (fun r S' hq => ⟨hq.1, hq.2.trans hLa.2.2.1⟩)
  refine bX11_addParcel_62 B hf ht (k0.1.trans h.x.1) ((k0.2.2.2.2.2 772).trans h.x.2.2.2.2.2.1) hsz (Nat.le_of_ble_eq_true rfl) (Nat.le_of_ble_eq_true rfl) hLa.1 (fun r S' hq => ?_)
  obtain ⟨rfl, rfl⟩ := hq
  have hgt : ConR l yJx4a65c_get_915e3 (wsOf yJx4a65c_get_915e3 cJx4a65c_get_915e3 2 (some (.object "java/lang/Object"))) rJx4a65c_get_915e3 w (nw S a 5 0) [.ref (T 4 0), .int (nI hm)] (fun x S' => nw S a 5 0 = S' ∧ x = T 20 hm) := c_lget hLa0 hhm
  refine bX11_addParcel_70 B hf ht (k0.1.trans h.x.1) ((k0.2.2.2.2.2 769).trans h.x.2.2.1) hgt (Nat.le_of_ble_eq_true rfl) (Nat.le_of_ble_eq_true rfl) hLa0.1 (fun r S' hq => ?_)
  obtain ⟨rfl, rfl⟩ := hq
  have khm := oa (T 20 hm) (h.k0 (cnH (by decide) (by decide) hhm))
  refine bX11_addParcel_81 B hf ht (khm.1.trans (h.k (cnH (by decide) (by decide) hhm))) (c_prI (by rw [kd_nw, if_pos rfl])) (Nat.le_of_ble_eq_true rfl) (Nat.le_of_ble_eq_true rfl) (fun S' hq => ?_)
  obtain ⟨q, hq, rfl⟩ := hq
  obtain ⟨nqa, hq⟩ := nw0 hq (by decide)
  have naq := Ne.symm nqa
  obtain ⟨S1, hS1⟩ : ∃ S1, S1 = sI (sI (sP (sI (sI (sI (sI (sP (nw (sI (sI (sI (sI (sI (sP (nw S a 5 0) 263 a none) 264 a 0) 265 a 0) 266 a (-1)) 267 a (-1)) 268 a 0) q 21 5) 269 a (some q)) 256 a (nI (nP α))) 257 a x1) 258 a x2) 259 a (nI hm)) 260 a (some (T 20 hm))) 261 a x4) 262 a x5 := ⟨_, rfl⟩
  have ho : Old S S1 := by rw [hS1]; exact (((((((((((((((oa.sp ha _ _).si ha _ _).si ha _ _).si ha _ _).si ha _ _).si ha _ _).new hq 21 5).sp ha _ _).si ha _ _).si ha _ _).si ha _ _).si ha _ _).sp ha _ _).si ha _ _).si ha _ _)
  have ka : kd S1 a = 5 := by rw [hS1]; simp [kd_sI, kd_sP, kd_sRI, kd_sRP, kd_nw, gI_sI, gI_sP, gI_sRI, gI_sRP, gI_nw, gP_sI, gP_sP, gP_sRI, gP_sRP, gP_nw, ln_sI, ln_sP, ln_sRI, ln_sRP, ln_nw, rI_sI, rI_sP, rI_sRI, rI_sRP, rI_nw, rP_sI, rP_sP, rP_sRI, rP_sRP, rP_nw, va_up_self, naq]
  have kq : kd S1 q = 21 := by rw [hS1]; simp [kd_sI, kd_sP, kd_sRI, kd_sRP, kd_nw, gI_sI, gI_sP, gI_sRI, gI_sRP, gI_nw, gP_sI, gP_sP, gP_sRI, gP_sRP, gP_nw, ln_sI, ln_sP, ln_sRI, ln_sRP, ln_nw, rI_sI, rI_sP, rI_sRI, rI_sRP, rI_nw, rP_sI, rP_sP, rP_sRI, rP_sRP, rP_nw, va_up_self]
  have lq : ln S1 q = 5 := by rw [hS1]; simp [kd_sI, kd_sP, kd_sRI, kd_sRP, kd_nw, gI_sI, gI_sP, gI_sRI, gI_sRP, gI_nw, gP_sI, gP_sP, gP_sRI, gP_sRP, gP_nw, ln_sI, ln_sP, ln_sRI, ln_sRP, ln_nw, rI_sI, rI_sP, rI_sRI, rI_sRP, rI_nw, rP_sI, rP_sP, rP_sRI, rP_sRP, rP_nw, va_up_self]
  have p1 : gP S1 269 a = some q := by rw [hS1]; simp [kd_sI, kd_sP, kd_sRI, kd_sRP, kd_nw, gI_sI, gI_sP, gI_sRI, gI_sRP, gI_nw, gP_sI, gP_sP, gP_sRI, gP_sRP, gP_nw, ln_sI, ln_sP, ln_sRI, ln_sRP, ln_nw, rI_sI, rI_sP, rI_sRI, rI_sRP, rI_nw, rP_sI, rP_sP, rP_sRI, rP_sRP, rP_nw, va_up_self]
  have p2 : gP S1 260 a = some (T 20 hm) := by rw [hS1]; simp [kd_sI, kd_sP, kd_sRI, kd_sRP, kd_nw, gI_sI, gI_sP, gI_sRI, gI_sRP, gI_nw, gP_sI, gP_sP, gP_sRI, gP_sRP, gP_nw, ln_sI, ln_sP, ln_sRI, ln_sRP, ln_nw, rI_sI, rI_sP, rI_sRI, rI_sRP, rI_nw, rP_sI, rP_sP, rP_sRI, rP_sRP, rP_nw, va_up_self]
  have p3 : gP S1 263 a = none := by rw [hS1]; simp [kd_sI, kd_sP, kd_sRI, kd_sRP, kd_nw, gI_sI, gI_sP, gI_sRI, gI_sRP, gI_nw, gP_sI, gP_sP, gP_sRI, gP_sRP, gP_nw, ln_sI, ln_sP, ln_sRI, ln_sRP, ln_nw, rI_sI, rI_sP, rI_sRI, rI_sRP, rI_nw, rP_sI, rP_sP, rP_sRI, rP_sRP, rP_nw, va_up_self, naq]
  have v0 : gI S1 256 a = nI (nP α) := by rw [hS1]; simp [kd_sI, kd_sP, kd_sRI, kd_sRP, kd_nw, gI_sI, gI_sP, gI_sRI, gI_sRP, gI_nw, gP_sI, gP_sP, gP_sRI, gP_sRP, gP_nw, ln_sI, ln_sP, ln_sRI, ln_sRP, ln_nw, rI_sI, rI_sP, rI_sRI, rI_sRP, rI_nw, rP_sI, rP_sP, rP_sRI, rP_sRP, rP_nw, va_up_self]
  have v1 : gI S1 257 a = x1 := by rw [hS1]; simp [kd_sI, kd_sP, kd_sRI, kd_sRP, kd_nw, gI_sI, gI_sP, gI_sRI, gI_sRP, gI_nw, gP_sI, gP_sP, gP_sRI, gP_sRP, gP_nw, ln_sI, ln_sP, ln_sRI, ln_sRP, ln_nw, rI_sI, rI_sP, rI_sRI, rI_sRP, rI_nw, rP_sI, rP_sP, rP_sRI, rP_sRP, rP_nw, va_up_self]
  have v2 : gI S1 258 a = x2 := by rw [hS1]; simp [kd_sI, kd_sP, kd_sRI, kd_sRP, kd_nw, gI_sI, gI_sP, gI_sRI, gI_sRP, gI_nw, gP_sI, gP_sP, gP_sRI, gP_sRP, gP_nw, ln_sI, ln_sP, ln_sRI, ln_sRP, ln_nw, rI_sI, rI_sP, rI_sRI, rI_sRP, rI_nw, rP_sI, rP_sP, rP_sRI, rP_sRP, rP_nw, va_up_self]
  have v3 : gI S1 259 a = nI hm := by rw [hS1]; simp [kd_sI, kd_sP, kd_sRI, kd_sRP, kd_nw, gI_sI, gI_sP, gI_sRI, gI_sRP, gI_nw, gP_sI, gP_sP, gP_sRI, gP_sRP, gP_nw, ln_sI, ln_sP, ln_sRI, ln_sRP, ln_nw, rI_sI, rI_sP, rI_sRI, rI_sRP, rI_nw, rP_sI, rP_sP, rP_sRI, rP_sRP, rP_nw, va_up_self]
  have v4 : gI S1 261 a = x4 := by rw [hS1]; simp [kd_sI, kd_sP, kd_sRI, kd_sRP, kd_nw, gI_sI, gI_sP, gI_sRI, gI_sRP, gI_nw, gP_sI, gP_sP, gP_sRI, gP_sRP, gP_nw, ln_sI, ln_sP, ln_sRI, ln_sRP, ln_nw, rI_sI, rI_sP, rI_sRI, rI_sRP, rI_nw, rP_sI, rP_sP, rP_sRI, rP_sRP, rP_nw, va_up_self]
  have v5 : gI S1 262 a = x5 := by rw [hS1]; simp [kd_sI, kd_sP, kd_sRI, kd_sRP, kd_nw, gI_sI, gI_sP, gI_sRI, gI_sRP, gI_nw, gP_sI, gP_sP, gP_sRI, gP_sRP, gP_nw, ln_sI, ln_sP, ln_sRI, ln_sRP, ln_nw, rI_sI, rI_sP, rI_sRI, rI_sRP, rI_nw, rP_sI, rP_sP, rP_sRI, rP_sRP, rP_nw, va_up_self]
  have v6 : gI S1 264 a = 0 := by rw [hS1]; simp [kd_sI, kd_sP, kd_sRI, kd_sRP, kd_nw, gI_sI, gI_sP, gI_sRI, gI_sRP, gI_nw, gP_sI, gP_sP, gP_sRI, gP_sRP, gP_nw, ln_sI, ln_sP, ln_sRI, ln_sRP, ln_nw, rI_sI, rI_sP, rI_sRI, rI_sRP, rI_nw, rP_sI, rP_sP, rP_sRI, rP_sRP, rP_nw, va_up_self, naq]
  have v7 : gI S1 265 a = 0 := by rw [hS1]; simp [kd_sI, kd_sP, kd_sRI, kd_sRP, kd_nw, gI_sI, gI_sP, gI_sRI, gI_sRP, gI_nw, gP_sI, gP_sP, gP_sRI, gP_sRP, gP_nw, ln_sI, ln_sP, ln_sRI, ln_sRP, ln_nw, rI_sI, rI_sP, rI_sRI, rI_sRP, rI_nw, rP_sI, rP_sP, rP_sRI, rP_sRP, rP_nw, va_up_self, naq]
  have v8 : gI S1 266 a = -1 := by rw [hS1]; simp [kd_sI, kd_sP, kd_sRI, kd_sRP, kd_nw, gI_sI, gI_sP, gI_sRI, gI_sRP, gI_nw, gP_sI, gP_sP, gP_sRI, gP_sRP, gP_nw, ln_sI, ln_sP, ln_sRI, ln_sRP, ln_nw, rI_sI, rI_sP, rI_sRI, rI_sRP, rI_nw, rP_sI, rP_sP, rP_sRI, rP_sRP, rP_nw, va_up_self, naq]
  have v9 : gI S1 268 a = 0 := by rw [hS1]; simp [kd_sI, kd_sP, kd_sRI, kd_sRP, kd_nw, gI_sI, gI_sP, gI_sRI, gI_sRP, gI_nw, gP_sI, gP_sP, gP_sRI, gP_sRP, gP_nw, ln_sI, ln_sP, ln_sRI, ln_sRP, ln_nw, rI_sI, rI_sP, rI_sRI, rI_sRP, rI_nw, rP_sI, rP_sP, rP_sRI, rP_sRP, rP_nw, va_up_self, naq]
  rw [← hS1]
  clear hS1
  have k4 := (hL.old ho).1
  refine bX11_addParcel_91 B hf ht (c_ladd (hL.old ho) (show nP α < 30 by omega) (rr := _) rfl (by decide) (by decide) ka) (Nat.le_of_ble_eq_true rfl) (Nat.le_of_ble_eq_true rfl) k4 (fun r S2 hq2' => k_wE B (fun hwE => ?_))
  obtain ⟨m1, m2, m3, m4⟩ := parN (x1 := x1) (x2 := x2) (x3 := nI hm) (x4 := x4) (x5 := x5) n15
  obtain ⟨g1, g2⟩ := cnt_g (j := 3) (by decide) m1 m2 m3 m4
  obtain ⟨hv, hvo⟩ := parVI (x1 := x1) (x2 := x2) (x3 := nI hm) (x4 := x4) (x5 := x5) n15
  have hpv := parVN (x1 := x1) (x2 := x2) (x3 := nI hm) (x4 := x4) (x5 := x5) hA.1.1 n15
  have in3 : ∀ c, Inj 3 c → c = 30 ∨ c = 31 := fun c hc => by unfold Inj fam wid at hc; simp only at hc; omega
  obtain ⟨T', e0, h'⟩ := h.ext (S2 := S2) (β := parA α x1 x2 (nI hm) x4 x5) (j := 3) (u := fun c => if c = 30 then a else q) hA (by decide) hwE g1 g2 ho (fun c hc => by
      rcases in3 c hc with rfl | rfl
      · exact ⟨ha, ka, fun z => absurd z (by decide)⟩
      · exact ⟨hq, kq, fun _ => lq⟩) (fun c c' hc hc' e2 => by
      rcases in3 c hc with rfl | rfl <;> rcases in3 c' hc' with rfl | rfl <;> first | rfl | exact absurd e2 nqa | exact absurd e2 naq) (fun t ht2 hi => by
      rcases LK_f3 t ht2 hi with rfl
      exact p1) hq2' hv hvo (fun T' f1 fo f4 => by
      have t0 : T' 30 (nP α) = a := f1 30 ⟨by decide, by decide⟩
      have th : T' 20 hm = T 20 hm := fo 20 hm (cnH (by decide) (by decide) hhm)
      obtain ⟨u0, u1, -⟩ := f4 30 ⟨by decide, by decide⟩
      have zz := hA.2.2.2.2.2.2.2.2 (nP α) (Nat.le_refl _) n15
      show Pa S2 T' (parA α x1 x2 (nI hm) x4 x5) (nP α)
      unfold Pa vop
      have dd : (7 : Nat) = 7 := rfl
      rw [t0, par1, par2, par3, par4, par5, par6, va_up_self, va_up_self, va_up_self, va_up_self, va_up_self, va_up_self, hpv, if_pos rfl, cl_nI (by omega), th,
        parF (F := 834) (by decide) (by decide) (by decide) (by decide) (by decide) (by decide) (by decide), parF (F := 835) (by decide) (by decide) (by decide) (by decide) (by decide) (by decide) (by decide), parF (F := 837) (by decide) (by decide) (by decide) (by decide) (by decide) (by decide) (by decide), parF (F := 838) (by decide) (by decide) (by decide) (by decide) (by decide) (by decide) (by decide), zz.1, zz.2.1, zz.2.2]
      exact ⟨⟨(u0 256).trans v0, (u0 257).trans v1, (u0 258).trans v2, (u0 259).trans v3, (u1 260).trans p2, (u0 261).trans v4, (u0 262).trans v5⟩, (u1 263).trans p3, (u0 264).trans v6, (u0 265).trans v7, (u0 266).trans v8, fun z => absurd z (by decide), (u0 268).trans v9⟩)
  have hx := h'.x
  rw [e0] at hx
  refine bX11_addParcel_94 B hf ht hx.1 hx.2.2.2.2.2.1 (c_npar h') (Nat.le_of_ble_eq_true rfl) (Nat.le_of_ble_eq_true rfl) (h'.k1 7 (by decide)) (fun r S' hq3 => ?_)
  obtain ⟨rfl, rfl⟩ := hq3
  have r := CP.mk (r := nI (nP (parA α x1 x2 (nI hm) x4 x5)) - 1) (o := opParcel α x1 x2 (nI hm) x4 x5) h' (by rw [eo, m4, nI_s1 (by omega)]; rfl)
  rw [e0] at r
  exact bX11_addParcel_102 B hf ht (Nat.le_of_ble_eq_true rfl) (Nat.le_of_ble_eq_true rfl) r
/-- only values have changed -/
theorem CR.chg {S' : St} {β : Ab} (h : CR w S T α) (hc : ∀ c, cCnt β c = cCnt α c) (k : ∀ a, kd S' a = kd S a) (ln' : ∀ a, ln S' a = ln S a) (hp : ∀ g a, g ≠ 263 → g ≠ 641 → g ≠ 66 → gP S' g a = gP S g a) (h2 : ∀ a, gI S' 2 a = gI S 2 a) (hr : ∀ a, kd S a = 23 → rP S' a = rP S a)
    (to : To S' T β) (hm : ∀ i, i < nH α → Hm S' T β i) (lo : ∀ i, i < nL α → Lo S' T β i) (va : ∀ i, i < nV α → Va S' T β i) (pa : ∀ i, i < nP α → Pa S' T β i) : CR w S' T β := by
  refine ⟨fun c i hi => ?_, fun c i c' i' hi hi' => ?_, fun t ht i hi => ?_, ⟨fun j hj => ?_, fun j j' hj hj' z => ?_⟩, to, fun i hi => hm i ?_, fun i hi => lo i ?_, fun i hi => va i ?_, fun i hi => pa i ?_⟩
  · rw [hc] at hi
    exact ⟨(k _).trans (h.k hi), fun z => (ln' _).trans (h.lnn hi z)⟩
  · rw [hc] at hi hi'
    exact h.2.1 c i c' i' hi hi'
  · rw [hc] at hi
    exact (hp _ _ (LK_ok t ht).2.2.1 (LK_ok t ht).1 (LK_ok t ht).2.1).trans (h.lk t ht hi)
  · obtain ⟨N, hL⟩ := h.ls hj
    have hoa := fun i (hi : i < cCnt α (fam j)) => hL.oa hi
    obtain ⟨m1, m2, m3, m4, m5, m6, m7⟩ := hL
    refine ⟨N, (k _).trans m1, (hp _ _ (by decide) (by decide) (by decide)).trans m2, (h2 _).trans (by rw [hc]; exact m3), ?_, by rw [hc]; exact m5, m6, fun i hi => ?_⟩
    · rcases m4 with z | z
      · exact Or.inl ⟨(k _).trans z.1, (ln' _).trans z.2⟩
      · exact Or.inr z
    · rw [hc] at hi
      rw [hr _ (hoa i hi).1, k]
      exact m7 i hi
  · rw [k] at z
    exact h.2.2.2.1.2 j j' hj hj' z
  · have := hc 20
    rw [show cCnt β 20 = nH β from rfl, show cCnt α 20 = nH α from rfl] at this; omega
  · have := hc 23
    rw [show cCnt β 23 = nL β from rfl, show cCnt α 23 = nL α from rfl] at this; omega
  · have := hc 27
    rw [show cCnt β 27 = nV β from rfl, show cCnt α 27 = nV α from rfl] at this; omega
  · have := hc 30
    rw [show cCnt β 30 = nP β from rfl, show cCnt α 30 = nP α from rfl] at this; omega
end ADDPC
