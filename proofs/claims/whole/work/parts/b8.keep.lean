/-! THE CLASS'S foresee: keeping and giving back -/
section KEEP
variable {w : Wd} {S S' : St} {T : Tb} {α : Ab}
def FrA (x : Nat) (S S' : St) : Prop := (∀ a, kd S' a = kd S a) ∧ (∀ a, ln S' a = ln S a) ∧ (∀ g a, gI S' g a = gI S g a) ∧ (∀ g a, gP S' g a = gP S g a) ∧ (∀ a, rP S' a = rP S a) ∧ ∀ a, a ≠ x → rI S' a = rI S a
theorem CR.kept (h : CR w S T α) {c i : Nat} (hc : c = 26 ∨ c = 31) (hi : i < cCnt α c) (f : FrA (T c i) S S') : CR w S' T α := by
  obtain ⟨f1, f2, f3, f4, f5, f6⟩ := f
  have R : ∀ c' j, j < cCnt α c' → c' ≠ c → rI S' (T c' j) = rI S (T c' j) := fun c' j hj hne => f6 _ (h.ne hj hi (Or.inl hne))
  refine h.chg (fun _ => rfl) f1 f2 (fun g a _ _ _ => f4 g a) (fun a => f3 2 a) (fun a _ => f5 a) ?_ (fun j hj => ?_) (fun j hj => ?_) (fun j hj => ?_) (fun j hj => ?_)
  · have := h.to
    unfold To at this ⊢
    rw [R 2 0 (cn1 (by decide)) (by omega), f3, f3, f3]; exact this
  · have := h.hm hj
    unfold Hm at this ⊢
    rw [f3, f3, f3, f3, R 22 j (cnH (by decide) (by decide) hj) (by omega)]; exact this
  · have := h.lo hj
    unfold Lo at this ⊢
    rw [f3, f3, R 25 j (cnL (by decide) (by decide) hj) (by omega)]; exact this
  · have := h.va hj
    unfold Va at this ⊢
    rw [f3, f3, f3, f3, f3, f5]; exact this
  · have := h.pa hj
    unfold Pa at this ⊢
    rw [f3, f3, f3, f3, f3, f3, f3, f3, f3, f3, f3, f4, f4]; exact this
def KPd (S : St) (T : Tb) (α : Ab) (n : Nat) : Prop := ∀ q, q < n → rI S (T 31 q) 0 = α 835 q ∧ rI S (T 31 q) 1 = α 834 q ∧ rI S (T 31 q) 2 = α 836 q ∧ (α 834 q = 2 → rI S (T 31 q) 3 = α 837 q) ∧ rI S (T 31 q) 4 = α 838 q
def KLd (S : St) (T : Tb) (α : Ab) (n : Nat) : Prop := ∀ k, k < n → ∀ b, b < 3 → rI S (T 26 k) b = α 839 (3 * k + b)
end KEEP
section KEEP2
variable {l : Launch} {w : Wd} {S : St} {T : Tb} {α : Ab}
theorem c_pkeep (h : CR w S T α) {q : Nat} (hq : q < nP α) : ConV l yX3_keep (wsOf yX3_keep cX3_keep 1 none) rX3_keep w S [.ref (T 30 q)] (fun S' => FrA (T 31 q) S S' ∧ rI S' (T 31 q) 0 = α 835 q ∧ rI S' (T 31 q) 1 = α 834 q ∧ rI S' (T 31 q) 2 = α 836 q ∧ (α 834 q = 2 → rI S' (T 31 q) 3 = α 837 q) ∧ rI S' (T 31 q) 4 = α 838 q) := by
  obtain ⟨p1, p2, p3, p4, p5⟩ := h.pad hq
  have k5 := h.kp hq
  have l31 := h.lk (30, 269, 31) (by decide) (cnP (by decide) (by decide) hq)
  have k31 : kd S (T 31 q) = 21 := h.k (cnP (by decide) (by decide) hq)
  have n31 : ln S (T 31 q) = 5 := h.lnn (cnP (by decide) (by decide) hq) (by decide)
  refine con_V (by decide +kernel) rfl (Nat.le_of_ble_eq_true rfl) (fun p e s m args below meth c B => ?_)
  refine bX3_keep_0 B k5 l31 k31 (by rw [n31]; exact vp_in_nI (show 0 < 5 by omega) (by decide)) l31 k31 (by rw [n31]; exact vp_in_nI (show 1 < 5 by omega) (by decide)) l31 k31 (by rw [n31]; exact vp_in_nI (show 2 < 5 by omega) (by decide)) l31 k31 (by rw [n31]; exact vp_in_nI (show 3 < 5 by omega) (by decide)) l31 k31 (by rw [n31]; exact vp_in_nI (show 4 < 5 by omega) (by decide)) ?_
  rw [show (0 : Int32).toNatClampNeg = 0 from rfl, show (1 : Int32).toNatClampNeg = 1 from rfl, show (2 : Int32).toNatClampNeg = 2 from rfl, show (3 : Int32).toNatClampNeg = 3 from rfl, show (4 : Int32).toNatClampNeg = 4 from rfl]
  refine ⟨⟨fun _ => rfl, fun _ => rfl, fun _ _ => rfl, fun _ _ => rfl, fun _ => rfl, fun a ha => by rw [rI_sRI, if_neg ha, rI_sRI, if_neg ha, rI_sRI, if_neg ha, rI_sRI, if_neg ha, rI_sRI, if_neg ha]⟩, ?_, ?_, ?_, ?_, ?_⟩
  · rw [rI_sRI, if_pos rfl, va_up_ne _ _ (by decide), rI_sRI, if_pos rfl, va_up_ne _ _ (by decide), rI_sRI, if_pos rfl, va_up_ne _ _ (by decide), rI_sRI, if_pos rfl, va_up_ne _ _ (by decide), rI_sRI, if_pos rfl, va_up_self]; exact p1
  · rw [rI_sRI, if_pos rfl, va_up_ne _ _ (by decide), rI_sRI, if_pos rfl, va_up_ne _ _ (by decide), rI_sRI, if_pos rfl, va_up_ne _ _ (by decide), rI_sRI, if_pos rfl, va_up_self]; exact p2
  · rw [rI_sRI, if_pos rfl, va_up_ne _ _ (by decide), rI_sRI, if_pos rfl, va_up_ne _ _ (by decide), rI_sRI, if_pos rfl, va_up_self]; exact p3
  · rw [rI_sRI, if_pos rfl, va_up_ne _ _ (by decide), rI_sRI, if_pos rfl, va_up_self]; exact p4
  · rw [rI_sRI, if_pos rfl, va_up_self]; exact p5
theorem c_lkeep (h : CR w S T α) {k : Nat} (hk : k < nL α) : ConV l yX2_keep (wsOf yX2_keep cX2_keep 1 none) rX2_keep w S [.ref (T 23 k)] (fun S' => FrA (T 26 k) S S' ∧ ∀ b, b < 3 → rI S' (T 26 k) b = α 839 (3 * k + b)) := by
  have c23 : k < cCnt α 23 := cnL (by decide) (by decide) hk
  have c25 : k < cCnt α 25 := cnL (by decide) (by decide) hk
  have c26 : k < cCnt α 26 := cnL (by decide) (by decide) hk
  refine con_V (by decide +kernel) rfl (Nat.le_of_ble_eq_true rfl) (fun p e s m args below meth c B => ?_)
  have n25 : ln S (T 25 k) = 3 := h.lnn c25 (by decide)
  have n26 : ln S (T 26 k) = 3 := h.lnn c26 (by decide)
  refine bX2_keep_0 B (h.k c23) (h.lk (23, 193, 25) (by decide) c23) (h.lk (23, 194, 26) (by decide) c23) (h.k c25) (h.k c26) (by rw [n25]; decide) (by rw [n26]; decide) ?_
  refine ⟨⟨fun _ => rfl, fun _ => rfl, fun _ _ => rfl, fun _ _ => rfl, fun _ => rfl, fun a ha => by rw [rI_sRI, if_neg ha]⟩, fun b hb => ?_⟩
  rw [rI_sRI, if_pos rfl, show (0 : Int32).toNatClampNeg = 0 from rfl, show (3 : Int32).toNatClampNeg = 3 from rfl, pk_cpy_in (by omega) (by omega), show 0 + (b - 0) = b by omega]
  exact (h.lo hk).2.2 b hb
end KEEP2
section KLOOP
variable {p : Program} {l : Launch} {e : Env} {s : State} {m : MethodId} {args : Array Value} {below : List Frame} {meth : Method} {c : Code} {w : Wd}
theorem l_kp1 (B : Bd p s m args meth c cX11_keepAll 2 (wsOf yX11_keepAll cX11_keepAll 2 none) RX11 w none "keepAll") {Q : State → Prop} {T : Tb} {α : Ab} (n30 : nP α ≤ 30) (hx : ∀ S', CR w S' T α → KPd S' T α (nP α) → K p l e rX11_keepAll s m args below meth c 2 w 0 0 Q S' 33 [(0, .ref (T 0 0))] []) :
    ∀ d i S, i + d = nP α → CR w S T α → KPd S T α i → K p l e rX11_keepAll s m args below meth c 2 w 0 0 Q S 2 [(0, .ref (T 0 0)), (1, .int (nI i))] [] := by
  intro d
  induction d with
  | zero =>
    intro i S hi h hk
    have : i = nP α := by omega
    subst this
    refine bX11_keepAll_2 B h.x.1 h.x.2.2.2.2.2.1 (c_npar h) (h.k1 7 (by decide)) (fun r S' hq => ?_)
    obtain ⟨rfl, rfl⟩ := hq
    exact bX11_keepAll_10 B (fun _ => hx S h hk) (fun cc => absurd (Int32.le_refl _) cc)
  | succ d ih =>
    intro i S hi h hk
    have hil : i < nP α := by omega
    refine bX11_keepAll_2 B h.x.1 h.x.2.2.2.2.2.1 (c_npar h) (h.k1 7 (by decide)) (fun r S' hq => ?_)
    obtain ⟨rfl, rfl⟩ := hq
    refine bX11_keepAll_10 B (fun cc => absurd cc (Int32.not_le.mpr (nI_lt hil (by omega)))) (fun _ => ?_)
    refine bX11_keepAll_13 B h.x.1 h.x.2.2.2.2.2.1 (c_gpar h hil) (h.k1 7 (by decide)) (fun r S' hq => ?_)
    obtain ⟨rfl, rfl⟩ := hq
    refine bX11_keepAll_21 B (h.kp hil) (c_pkeep h hil) (fun S' hq => bX11_keepAll_27 B ?_)
    rw [nI_1]
    obtain ⟨f, v⟩ := hq
    refine ih (i + 1) S' (by omega) (h.kept (Or.inr rfl) (cnP (by decide) (by decide) hil) f) (fun q hq => ?_)
    by_cases z : q = i
    · subst z; exact v
    · rw [f.2.2.2.2.2 _ (h.ne (cnP (by decide) (by decide) (show q < nP α by omega)) (cnP (by decide) (by decide) hil) (Or.inr z))]
      exact hk q (by omega)
theorem l_kp2 (B : Bd p s m args meth c cX11_keepAll 2 (wsOf yX11_keepAll cX11_keepAll 2 none) RX11 w none "keepAll") {Q : State → Prop} {T : Tb} {α : Ab} (n4 : nL α ≤ 4) (hx : ∀ S', CR w S' T α → KPd S' T α (nP α) → KLd S' T α (nL α) → K p l e rX11_keepAll s m args below meth c 2 w 0 0 Q S' 66 [] []) :
    ∀ d i S, i + d = nL α → CR w S T α → KPd S T α (nP α) → KLd S T α i → K p l e rX11_keepAll s m args below meth c 2 w 0 0 Q S 35 [(0, .ref (T 0 0)), (1, .int (nI i))] [] := by
  intro d
  induction d with
  | zero =>
    intro i S hi h hk hl
    have : i = nL α := by omega
    subst this
    refine bX11_keepAll_35 B h.x.1 h.x.2.2.2.1 (c_nloc h) (h.k1 5 (by decide)) (fun r S' hq => ?_)
    obtain ⟨rfl, rfl⟩ := hq
    exact bX11_keepAll_43 B (fun _ => hx S h hk hl) (fun cc => absurd (Int32.le_refl _) cc)
  | succ d ih =>
    intro i S hi h hk hl
    have hil : i < nL α := by omega
    refine bX11_keepAll_35 B h.x.1 h.x.2.2.2.1 (c_nloc h) (h.k1 5 (by decide)) (fun r S' hq => ?_)
    obtain ⟨rfl, rfl⟩ := hq
    refine bX11_keepAll_43 B (fun cc => absurd cc (Int32.not_le.mpr (nI_lt hil (by omega)))) (fun _ => ?_)
    refine bX11_keepAll_46 B h.x.1 h.x.2.2.2.1 (c_gloc h hil) (h.k1 5 (by decide)) (fun r S' hq => ?_)
    obtain ⟨rfl, rfl⟩ := hq
    refine bX11_keepAll_54 B (h.k (cnL (by decide) (by decide) hil)) (c_lkeep h hil) (fun S' hq => bX11_keepAll_60 B ?_)
    rw [nI_1]
    obtain ⟨f, v⟩ := hq
    have c26 : i < cCnt α 26 := cnL (by decide) (by decide) hil
    refine ih (i + 1) S' (by omega) (h.kept (Or.inl rfl) c26 f) (fun q hq => ?_) (fun k hk' => ?_)
    · rw [f.2.2.2.2.2 _ (h.ne (cnP (by decide) (by decide) hq) c26 (Or.inl (by decide)))]
      exact hk q hq
    · by_cases z : k = i
      · subst z; exact v
      · rw [f.2.2.2.2.2 _ (h.ne (cnL (by decide) (by decide) (show k < nL α by omega)) c26 (Or.inr z))]
        exact hl k (by omega)
end KLOOP
section KALL
variable {l : Launch} {w : Wd} {S : St} {T : Tb} {α : Ab}
theorem c_keepAll (h : CR w S T α) (hA : AI1 α) : ConV l yX11_keepAll (wsOf yX11_keepAll cX11_keepAll 2 none) rX11_keepAll w S [.ref (T 0 0)] (fun S' => CR w S' T α ∧ KPd S' T α (nP α) ∧ KLd S' T α (nL α)) := by
  have n4 := hA.2.1.2.1.2
  have n30 := hA.2.1.2.2.2.2
  refine con_V (by decide +kernel) rfl (Nat.le_of_ble_eq_true rfl) (fun p e s m args below meth c B => ?_)
  refine bX11_keepAll_0 B (l_kp1 B n30 (fun S1 h1 k1 => bX11_keepAll_33 B (l_kp2 B n4 (fun S2 h2 k2 k3 => bX11_keepAll_66 B ⟨h2, k2, k3⟩) (nL α) 0 S1 (by omega) h1 k1 (fun _ hk => absurd hk (by omega)))) (nP α) 0 S (by omega) h (fun _ hk => absurd hk (by omega)))
end KALL
