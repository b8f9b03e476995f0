section SETS2
variable {l : Launch} {w : Wd} {S : St} {T : Tb} {α : Ab}
theorem nw0 {q b k n : Nat} (h : kd (nw S q k n) b = 0) (hk : k ≠ 0) : b ≠ q ∧ kd S b = 0 := by
  rw [kd_nw] at h
  split at h
  · exact absurd h hk
  · exact ⟨by assumption, h⟩
theorem c_plI {a : Nat} {x y : Int32} (h : kd S a = 6) : ConV l yX4_init (wsOf yX4_init cX4_init 3 none) rX4_init w S [.ref a, .int x, .int y] (fun S' => S' = sI (sI S 320 a x) 321 a y) := by
  refine con_V (by decide +kernel) rfl (Nat.le_of_ble_eq_true rfl) (fun p e s m args below meth c B => ?_)
  exact bX4_init_0 B h rfl
theorem k_setRoads (hf : l.stackTraces = false) (h : CR w S T α) {a b : Int32} : ConXI l yX11_setRoads (wsOf yX11_setRoads cX11_setRoads 4 (some .int)) rX11_setRoads w S [.ref (T 0 0), .int a, .int b] (CP w (T 0 0) (opRoads α a b)) (CE w (T 0 0) [nIO, nIA] (opRoads α a b)) := by
  refine conX_I (by decide +kernel) rfl (Nat.le_of_ble_eq_true rfl) (fun p e s m args below meth c B ht => ?_)
  refine bX11_setRoads_0 B hf ht (c_needIx (n := 24) hf (by omega)) (Nat.le_of_ble_eq_true rfl) (Nat.le_of_ble_eq_true rfl) (fun E S' hq => ?_) (fun S' hq => ?_)
  · obtain ⟨rfl, rfl, hn⟩ := hq
    exact CE.mk 0 rfl h (if_pos hn)
  obtain ⟨rfl, h1⟩ := hq
  refine bX11_setRoads_6 B hf ht (c_needRg hf) (Nat.le_of_ble_eq_true rfl) (Nat.le_of_ble_eq_true rfl) (fun E S' hq => ?_) (fun S' hq => ?_)
  · obtain ⟨rfl, rfl, hn⟩ := hq
    exact CE.mk 1 rfl h (by unfold opRoads; rw [if_neg (fun z => z h1), if_pos hn]; rfl)
  obtain ⟨rfl, h2⟩ := hq
  have eo : opRoads α a b = (0, α 897 (cl a), aset α 897 (va_up (α 897) (cl a) b)) := by unfold opRoads; rw [if_neg (fun z => z h1), if_neg (fun z => z h2)]
  obtain ⟨k, hk, rfl⟩ := h1.nI
  have ek : (nI k).toNatClampNeg = k := nI_clamp (by omega)
  obtain ⟨t1, t2, t3, t4⟩ := h.to
  have c1 : 0 < cCnt α 1 := cn1 (by decide)
  have c2 : 0 < cCnt α 2 := cn1 (by decide)
  have l2 := h.lk (1, 576, 2) (by decide) c1
  have hin : vp_in (nI k) (ln S (T 2 0)) := by rw [h.lnn c2 (by decide)]; exact vp_in_nI (show k < 24 by omega) (by decide)
  refine k_wE B (fun hwE => bX11_setRoads_13 B hf ht h.x.1 h.x.2.1 (h.k1 1 (by decide)) l2 (h.k1 2 (by decide)) hin h.x.2.1 (h.k1 1 (by decide)) l2 (h.k1 2 (by decide)) hin (Nat.le_of_ble_eq_true rfl) (Nat.le_of_ble_eq_true rfl) ?_)
  rw [ek, t1]
  have r : CR w (sRI S (T 2 0) (va_up (α 897) k b)) (depT T (T 3 0)) (aset α 897 (va_up (α 897) k b)) := by
    refine h.tow (h.k1 3 (by decide)) (fun c i hi hc => h.ne (cn1 (by decide)) hi (Or.inl (Ne.symm hc))) (fun b hb => ⟨rfl, rfl, fun z => by rw [rI_sRI, if_neg z], rfl, fun _ _ _ => rfl, fun _ _ => rfl⟩) hwE (h.lk (1, 577, 3) (by decide) c1) ?_ (fun F h1 _ _ _ => aset_ne h1)
    unfold To
    rw [depT_ne (c := 2) (by decide), depT_ne (c := 0) (by decide), show depT T (T 3 0) 3 0 = T 3 0 from if_pos rfl, rI_sRI, if_pos rfl, aset_same, aset_ne (by decide), aset_ne (by decide), aset_ne (by decide)]
    exact ⟨rfl, t2, t3, t4⟩
  have := CP.mk (r := α 897 k) (o := opRoads α (nI k) b) r (by rw [eo, cl_nI (by omega)])
  rw [depT_ne (by decide)] at this
  exact this
theorem k_setDepot (hf : l.stackTraces = false) (h : CR w S T α) {a b : Int32} : ConXI l yX11_setDepot (wsOf yX11_setDepot cX11_setDepot 4 (some .int)) rX11_setDepot w S [.ref (T 0 0), .int a, .int b] (CP w (T 0 0) (opDepot α a b)) (CE w (T 0 0) [nIA] (opDepot α a b)) := by
  refine conX_I (by decide +kernel) rfl (Nat.le_of_ble_eq_true rfl) (fun p e s m args below meth c B ht => ?_)
  refine bX11_setDepot_0 B hf ht (c_needPl hf) (Nat.le_of_ble_eq_true rfl) (Nat.le_of_ble_eq_true rfl) (fun E S' hq => ?_) (fun S' hq => ?_)
  · obtain ⟨rfl, rfl, hn⟩ := hq
    exact CE.mk 0 rfl h (if_pos hn)
  obtain ⟨rfl, h1⟩ := hq
  have eo : opDepot α a b = (0, 100 * α 898 0 + α 899 0, au (au α 898 0 a) 899 0 b) := by unfold opDepot; rw [if_neg (fun z => z h1)]
  obtain ⟨t1, t2, t3, t4⟩ := h.to
  have c1 : 0 < cCnt α 1 := cn1 (by decide)
  have c3 : 0 < cCnt α 3 := cn1 (by decide)
  have l3 := h.lk (1, 577, 3) (by decide) c1
  refine bX11_setDepot_5 B hf ht h.x.1 h.x.2.1 (h.k1 1 (by decide)) l3 h.x.2.1 (Nat.le_of_ble_eq_true rfl) (Nat.le_of_ble_eq_true rfl) (fun d hd => ?_)
  have nd : ∀ c i, i < cCnt α c → T c i ≠ d := fun c i hi z => h.k0 hi (z ▸ hd)
  refine bX11_setDepot_20 B hf ht (c_plI (by rw [kd_nw, if_pos rfl])) (Nat.le_of_ble_eq_true rfl) (Nat.le_of_ble_eq_true rfl) (fun S' hq => ?_)
  subst hq
  refine k_wE B (fun hwE => bX11_setDepot_26 B hf ht (by rw [kd_sI, kd_sI, kd_nw, if_neg (nd _ _ c1)]; exact h.k1 1 (by decide)) (by rw [kd_sI, kd_sI, kd_nw, if_neg (nd _ _ c3)]; exact h.k1 3 (by decide)) (Nat.le_of_ble_eq_true rfl) (Nat.le_of_ble_eq_true rfl) ?_)
  have e1 : ∀ g, gI (sI (sI (nw S d 6 0) 320 d a) 321 d b) g (T 3 0) = gI S g (T 3 0) := fun g => by
    rw [gI_sI, if_neg (fun z => nd _ _ c3 z.2), gI_sI, if_neg (fun z => nd _ _ c3 z.2), gI_nw, if_neg (nd _ _ c3)]
  rw [e1, e1, t2, t3]
  have r : CR w (sP (sI (sI (nw S d 6 0) 320 d a) 321 d b) 577 (T 1 0) (some d)) (depT T d) (au (au α 898 0 a) 899 0 b) := by
    refine h.tow (by rw [kd_sP, kd_sI, kd_sI, kd_nw, if_pos rfl]) (fun c i hi _ z => nd c i hi z.symm) (fun b' hb => ?_) hwE (by rw [gP_sP, if_pos ⟨rfl, rfl⟩]) ?_ (fun F _ h2 h3 _ => by rw [au_neF h3, au_neF h2])
    · have hne : b' ≠ d := fun z => hb (z ▸ hd)
      refine ⟨by rw [kd_sP, kd_sI, kd_sI, kd_nw, if_neg hne], by rw [ln_sP, ln_sI, ln_sI, ln_nw, if_neg hne], fun _ => by rw [rI_sP, rI_sI, rI_sI, rI_nw, if_neg hne], by rw [rP_sP, rP_sI, rP_sI, rP_nw, if_neg hne], fun g _ _ => ?_, fun g hg => ?_⟩
      · rw [gI_sP, gI_sI, if_neg (fun z => hne z.2), gI_sI, if_neg (fun z => hne z.2), gI_nw, if_neg hne]
      · rw [gP_sP, if_neg (fun z => hg z.1), gP_sI, gP_sI, gP_nw, if_neg hne]
    · unfold To
      rw [depT_ne (c := 2) (by decide), depT_ne (c := 0) (by decide), show depT T d 3 0 = d from if_pos rfl]
      have n2 := nd 2 0 (cn1 (by decide))
      have n0 := nd 0 0 (cn1 (by decide))
      refine ⟨?_, ?_, ?_, ?_⟩
      · rw [rI_sP, rI_sI, rI_sI, rI_nw, if_neg n2, au_neF (by decide), au_neF (by decide)]; exact t1
      · rw [gI_sP, gI_sI, if_neg (fun z => absurd z.1 (by decide)), gI_sI, if_pos ⟨rfl, rfl⟩, au_neF (by decide), au_same]
      · rw [gI_sP, gI_sI, if_pos ⟨rfl, rfl⟩, au_same]
      · rw [gI_sP, gI_sI, if_neg (fun z => absurd z.1 (by decide)), gI_sI, if_neg (fun z => absurd z.1 (by decide)), gI_nw, if_neg n0, au_neF (by decide), au_neF (by decide)]; exact t4
  have := CP.mk (r := 100 * α 898 0 + α 899 0) (o := opDepot α a b) r (by rw [eo])
  rw [depT_ne (by decide)] at this
  exact this
end SETS2
