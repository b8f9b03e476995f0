section ORDC
variable {l : Launch} {w : Wd} {S : St} {T : Tb} {α : Ab}
theorem ordF {i F : Nat} {v : Int32} (h1 : F ≠ 904) (h2 : F ≠ 905) : ordA α i v F = α F := by unfold ordA; rw [aset_ne h1, aset_ne h2]
theorem ord4 {i : Nat} {v : Int32} : ordA α i v 904 = va_up (α 904) i (α 904 i + 1) := by unfold ordA; rw [aset_same]
theorem ord5 {i : Nat} {v : Int32} : ordA α i v 905 = va_up (α 905) (3 * i + cl (α 904 i)) v := by unfold ordA; rw [aset_ne (by decide), aset_same]
theorem CR.ord (h : CR w S T α) {i n : Nat} {v : Int32} (hi : i < nH α) (hn : α 904 i = nI n) (h3 : n < 3) : CR w (sI (sRI S (T 22 i) (va_up (rI S (T 22 i)) n v)) 131 (T 20 i) (nI (n + 1))) T (ordA α i v) := by
  have c20 : i < cCnt α 20 := hi
  have c22 : i < cCnt α 22 := hi
  have F : ∀ F, F ≠ 904 → F ≠ 905 → ordA α i v F = α F := fun F => ordF
  have ecl : cl (α 904 i) = n := by rw [hn]; exact cl_nI (by omega)
  have eH : nH (ordA α i v) = nH α := by unfold nH; rw [F 900 (by decide) (by decide)]
  have eL : nL (ordA α i v) = nL α := by unfold nL; rw [F 906 (by decide) (by decide)]
  have eV : nV (ordA α i v) = nV α := by unfold nV; rw [F 909 (by decide) (by decide)]
  have eP : nP (ordA α i v) = nP α := by unfold nP; rw [F 913 (by decide) (by decide)]
  have eM : ∀ x, mny (ordA α i v) x = mny α x := fun x => by unfold mny; rw [F 840 (by decide) (by decide)]
  have eR : ∀ x k, rwf (ordA α i v) x k = rwf α x k := fun x k => by unfold rwf; rw [F 841 (by decide) (by decide)]
  have eF : ∀ q, vof (ordA α i v) q = vof α q := fun q => by unfold vof; rw [eV]; exact vofN_ext (fun x _ => eM x) (fun x k _ _ => eR x k)
  have rr : ∀ c j, j < cCnt α c → c ≠ 22 → rI (sI (sRI S (T 22 i) (va_up (rI S (T 22 i)) n v)) 131 (T 20 i) (nI (n + 1))) (T c j) = rI S (T c j) := fun c j hj hc => by
    rw [rI_sI, rI_sRI, if_neg (h.ne hj c22 (Or.inl hc))]
  have gg : ∀ g b, g ≠ 131 → gI (sI (sRI S (T 22 i) (va_up (rI S (T 22 i)) n v)) 131 (T 20 i) (nI (n + 1))) g b = gI S g b := fun g b hg => by rw [gI_sI, if_neg (fun z => hg z.1), gI_sRI]
  refine h.chg (fun c => by unfold cCnt; rw [eH, eL, eV, eP]) (fun _ => rfl) (fun _ => rfl) (fun _ _ _ _ _ => rfl) (fun b => gg 2 b (by decide)) (fun _ _ => rfl) ?_ (fun j hj => ?_) (fun j hj => ?_) (fun j hj => ?_) (fun j hj => ?_)
  · obtain ⟨t1, t2, t3, t4⟩ := h.to
    unfold To
    rw [rr 2 0 (cn1 (by decide)) (by decide), gg _ _ (by decide), gg _ _ (by decide), gg _ _ (by decide), F 897 (by decide) (by decide), F 898 (by decide) (by decide), F 899 (by decide) (by decide), F 832 (by decide) (by decide)]
    exact ⟨t1, t2, t3, t4⟩
  · obtain ⟨b1, b2, b3, b4, b5⟩ := h.hm hj
    have d20 : j < cCnt α 20 := hj
    have d22 : j < cCnt α 22 := hj
    unfold Hm
    rw [gg _ _ (by decide), gg _ _ (by decide), gg _ _ (by decide), F 901 (by decide) (by decide), F 902 (by decide) (by decide), F 903 (by decide) (by decide), ord4, ord5, ecl]
    refine ⟨b1, b2, b3, ?_, fun k hk hk2 => ?_⟩
    · by_cases z : j = i
      · subst z; rw [gI_sI, if_pos ⟨rfl, rfl⟩, va_up_self, hn, nI_1]
      · rw [gI_sI, if_neg (fun y => h.ne d20 c20 (Or.inr z) y.2), va_up_ne _ _ z]; exact b4
    · by_cases z : j = i
      · subst z
        rw [va_up_self, hn, nI_1, cl_nI (by omega)] at hk2
        rw [rI_sI, rI_sRI, if_pos rfl]
        by_cases y : k = n
        · subst y; rw [va_up_self, va_up_self]
        · rw [va_up_ne _ _ y, va_up_ne _ _ (by omega)]
          exact b5 k hk (by rw [ecl]; omega)
      · rw [va_up_ne _ _ z] at hk2
        rw [rI_sI, rI_sRI, if_neg (h.ne d22 c22 (Or.inr z)), va_up_ne _ _ (by omega)]
        exact b5 k hk hk2
  · obtain ⟨b1, b2, b3⟩ := h.lo hj
    unfold Lo
    rw [gg _ _ (by decide), gg _ _ (by decide), rr 25 j (cnL (by decide) (by decide) hj) (by decide), F 907 (by decide) (by decide), F 908 (by decide) (by decide), F 839 (by decide) (by decide)]
    exact ⟨b1, b2, b3⟩
  · obtain ⟨b1, b2, b3, b4, b5, b6⟩ := h.va hj
    unfold Va
    rw [gg _ _ (by decide), gg _ _ (by decide), gg _ _ (by decide), gg _ _ (by decide), gg _ _ (by decide), F 910 (by decide) (by decide), F 911 (by decide) (by decide), F 912 (by decide) (by decide), eM]
    exact ⟨b1, b2, b3, b4, b5, fun k hk => by rw [eR]; exact b6 k hk⟩
  · obtain ⟨b, d1, d2, d3, d4, d5, d6⟩ := h.pa hj
    unfold Pa vop
    rw [gg _ _ (by decide), gg _ _ (by decide), gg _ _ (by decide), gg _ _ (by decide), gg _ _ (by decide), gg _ _ (by decide), gg _ _ (by decide), gg _ _ (by decide), gg _ _ (by decide), gg _ _ (by decide), gg _ _ (by decide), F 914 (by decide) (by decide), F 915 (by decide) (by decide), F 916 (by decide) (by decide), F 917 (by decide) (by decide), F 918 (by decide) (by decide), F 834 (by decide) (by decide), F 835 (by decide) (by decide), F 836 (by decide) (by decide), F 837 (by decide) (by decide), F 838 (by decide) (by decide), eF]
    exact ⟨b, d1, d2, d3, d4, d5, d6⟩
theorem k_order (hf : l.stackTraces = false) (h : CR w S T α) (hA : AIz α) {a b c' : Int32} : ConXI l yX11_order (wsOf yX11_order cX11_order 5 (some .int)) rX11_order w S [.ref (T 0 0), .int a, .int b, .int c'] (CP w (T 0 0) (opOrder α a b c')) (CE w (T 0 0) [nIO, nIA, nIS] (opOrder α a b c')) := by
  have n16 := hA.1.1.2.1.1.2
  have n4 := hA.1.1.2.1.2.1.2
  refine conX_I (by decide +kernel) rfl (Nat.le_of_ble_eq_true rfl) (fun p e s m args below meth c B ht => ?_)
  have bad : ∀ {S' : St} {E : String}, E = nIO → S = S' → ¬ (isIx a (nH α) ∧ ((b = 0 ∧ isIx c' (nH α)) ∨ (¬ b = 0 ∧ isIx c' (nL α)))) → CE w (T 0 0) [nIO, nIA, nIS] (opOrder α a b c') E S' := by
    rintro S' E rfl rfl hn
    exact CE.mk 0 rfl h (if_pos hn)
  refine bX11_order_0 B hf ht h.x.1 h.x.2.2.1 (c_nhom h) (Nat.le_of_ble_eq_true rfl) (Nat.le_of_ble_eq_true rfl) (h.k1 4 (by decide)) (fun r S' hq => ?_)
  obtain ⟨rfl, rfl⟩ := hq
  refine bX11_order_8 B hf ht (c_needIx hf (by omega)) (Nat.le_of_ble_eq_true rfl) (Nat.le_of_ble_eq_true rfl) (fun E S' hq => bad hq.1 hq.2.1 (fun z => hq.2.2 z.1)) (fun S' hq => ?_)
  obtain ⟨rfl, h1⟩ := hq
  have fin : ((b = 0 ∧ isIx c' (nH α)) ∨ (¬ b = 0 ∧ isIx c' (nL α))) → ¬ (b = 0 ∧ c' = a) → K p l e rX11_order s m args below meth c 5 w (0 + 1 + 1) (0 + 6 + 6) (vx_MQ below (va_Qi (CP w (T 0 0) (opOrder α a b c')) (fun S' t => Hd w S' t.heap) (wA w)) (XCs w (CE w (T 0 0) [nIO, nIA, nIS] (opOrder α a b c'))) args s rX11_order.cells rX11_order.slots (wA w)) S 55 [(0, .ref (T 0 0)), (1, .int a), (2, .int b), (3, .int c')] [] := by
    intro h2 h3
    have e1 : ¬ ¬ (isIx a (nH α) ∧ ((b = 0 ∧ isIx c' (nH α)) ∨ (¬ b = 0 ∧ isIx c' (nL α)))) := fun n => n ⟨h1, h2⟩
    obtain ⟨i, hi, rfl⟩ := h1.nI
    have ei : cl (nI i) = i := cl_nI (by omega)
    refine bX11_order_55 B hf ht h.x.1 h.x.2.2.1 (c_ghom h hi) (Nat.le_of_ble_eq_true rfl) (Nat.le_of_ble_eq_true rfl) (h.k1 4 (by decide)) (fun r S' hq => ?_)
    obtain ⟨rfl, rfl⟩ := hq
    have c20 : i < cCnt α 20 := hi
    have c22 : i < cCnt α 22 := hi
    have k3 : kd S (T 20 i) = 3 := h.k c20
    obtain ⟨o1, o2, -⟩ := hA.1.2.1.2.2 i (by omega)
    have e4 : gI S 131 (T 20 i) = α 904 i := (h.hm hi).2.2.2.1
    refine bX11_order_63 B hf ht k3 (c_needSp hf) (Nat.le_of_ble_eq_true rfl) (Nat.le_of_ble_eq_true rfl) (fun E S' hq => ?_) (fun S' hq => ?_)
    · obtain ⟨rfl, rfl, hn⟩ := hq
      refine CE.mk 2 rfl h ?_
      unfold opOrder
      rw [if_neg e1, if_neg h3, ei, if_pos]
      · rfl
      · rw [e4, o1] at hn
        rw [o1]
        have : cl (α 904 i) = 3 := by
          rcases Nat.lt_or_ge (cl (α 904 i)) 3 with z | z
          · exact absurd (nI_lt z (by omega)) hn
          · omega
        rw [this]; rfl
    obtain ⟨rfl, h5⟩ := hq
    rw [e4, o1] at h5
    have n3 : cl (α 904 i) < 3 := by
      rcases Nat.lt_or_ge (cl (α 904 i)) 3 with z | z
      · exact z
      · exact absurd h5 (nI_nlt z (by omega))
    have ne3 : ¬ α 904 i = 3 := fun z => by
      rw [z] at n3
      exact absurd n3 (by decide)
    have eo : opOrder α (nI i) b c' = (0, α 904 i + 1, ordA α i ((if b = 0 then 200 else 100) + c')) := by
      unfold opOrder
      rw [if_neg e1, if_neg h3, ei, if_neg ne3]
    have l130 := h.lk (20, 130, 22) (by decide) c20
    have k22 : kd S (T 22 i) = 21 := h.k c22
    have n22 : ln S (T 22 i) = 3 := h.lnn c22 (by decide)
    have fin2 : ∀ v, v = (if b = 0 then 200 else 100) + c' → CP w (T 0 0) (opOrder α (nI i) b c') (gI S 131 (T 20 i) + 1) (sI (sRI S (T 22 i) (va_up (rI S (T 22 i)) (gI S 131 (T 20 i)).toNatClampNeg v)) 131 (T 20 i) (gI S 131 (T 20 i) + 1)) := by
      intro v hv
      have r := h.ord (v := v) hi o1 n3
      have e5 : (gI S 131 (T 20 i)).toNatClampNeg = cl (α 904 i) := by rw [e4]
      have e6 : gI S 131 (T 20 i) + 1 = nI (cl (α 904 i) + 1) := by
        rw [e4]
        exact (congrArg (fun z => z + 1) o1).trans (nI_1 _)
      rw [e5, e6]
      refine CP.mk r ?_
      rw [eo, hv]
      have e7 : α 904 i + 1 = nI (cl (α 904 i) + 1) := (congrArg (fun z => z + 1) o1).trans (nI_1 _)
      rw [e7]
    have hin : vp_in (gI S 131 (T 20 i)) (ln S (T 22 i)) := by rw [e4, o1, n22]; exact vp_in_nI n3 (by decide)
    refine bX11_order_77 B hf ht k3 l130 (fun c1 => ?_) (fun c1 => ?_)
    · exact bX11_order_96 B hf ht (bX11_order_99 B hf ht k22 hin k3 (Nat.le_of_ble_eq_true rfl) (Nat.le_of_ble_eq_true rfl) (fin2 _ (by rw [if_pos c1])))
    · exact bX11_order_91 B hf ht (bX11_order_99 B hf ht k22 hin k3 (Nat.le_of_ble_eq_true rfl) (Nat.le_of_ble_eq_true rfl) (fin2 _ (by rw [if_neg c1])))
  refine bX11_order_11 B hf ht (fun c1 => ?_) (fun c1 => ?_)
  · refine bX11_order_26 B hf ht h.x.1 h.x.2.2.1 (c_nhom h) (Nat.le_of_ble_eq_true rfl) (Nat.le_of_ble_eq_true rfl) (h.k1 4 (by decide)) (fun r S' hq => ?_)
    obtain ⟨rfl, rfl⟩ := hq
    refine bX11_order_33 B hf ht (c_needIx hf (by omega)) (Nat.le_of_ble_eq_true rfl) (Nat.le_of_ble_eq_true rfl) (fun E S' hq => bad hq.1 hq.2.1 (fun z => ?_)) (fun S' hq => ?_)
    · rcases z.2 with y | y
      · exact hq.2.2 y.2
      · exact y.1 c1
    obtain ⟨rfl, h2⟩ := hq
    refine bX11_order_36 B hf ht (fun c2 => absurd c1 c2) (fun _ => ?_)
    refine bX11_order_40 B hf ht (fun c3 => fin (Or.inl ⟨c1, h2⟩) (fun z => c3 z.2)) (fun c3 => ?_)
    refine bX11_order_45 B hf ht (Nat.le_of_ble_eq_true rfl) (Nat.le_of_ble_eq_true rfl) (CE.mk 1 rfl h ?_)
    unfold opOrder
    rw [if_neg (fun n => n ⟨h1, Or.inl ⟨c1, h2⟩⟩), if_pos ⟨c1, c3⟩]; rfl
  · refine bX11_order_16 B hf ht h.x.1 h.x.2.2.2.1 (c_nloc h) (Nat.le_of_ble_eq_true rfl) (Nat.le_of_ble_eq_true rfl) (h.k1 5 (by decide)) (fun r S' hq => bX11_order_23 B hf ht ?_)
    obtain ⟨rfl, rfl⟩ := hq
    refine bX11_order_33 B hf ht (c_needIx hf (by omega)) (Nat.le_of_ble_eq_true rfl) (Nat.le_of_ble_eq_true rfl) (fun E S' hq => bad hq.1 hq.2.1 (fun z => ?_)) (fun S' hq => ?_)
    · rcases z.2 with y | y
      · exact c1 y.1
      · exact hq.2.2 y.2
    obtain ⟨rfl, h2⟩ := hq
    refine bX11_order_36 B hf ht (fun _ => fin (Or.inr ⟨c1, h2⟩) (fun z => c1 z.1)) (fun c2 => absurd c2 c1)
end ORDC
