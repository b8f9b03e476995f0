def insF (f : Nat → Nat) (k p : Nat) (j : Nat) : Nat := if j < k then f j else if j = k then p else f (j - 1)
def remF (f : Nat → Nat) (k : Nat) (j : Nat) : Nat := if j < k then f j else f (j + 1)
def revF (f : Nat → Nat) (a b : Nat) (j : Nat) : Nat := if a ≤ j ∧ j ≤ b then f (a + b - j) else f j
theorem Rt.put {S : St} {r q n n' : Nat} {f f' : Nat → Nat} {g : Nat → Option Nat} (h : Rt S r q n f) (hn : n' ≤ 13) (hg : ∀ j, j < n' → g j = some (f' j)) (hk : ∀ j, j < n' → kd S (f' j) = 5) : Rt (sI (sRP S q g) 449 r (nI n')) r q n' f' := by
  obtain ⟨h1, h2, h3, h4, h5, h6, h7⟩ := h
  refine ⟨h1, h2, h3, h4, by rw [gI_sI]; simp, hn, fun i hi => ⟨?_, hk i hi⟩⟩
  rw [rP_sI, rP_sRP, if_pos rfl]
  exact hg i hi
theorem Rt.putS {S : St} {r q n : Nat} {f f' : Nat → Nat} {g : Nat → Option Nat} (h : Rt S r q n f) (hg : ∀ j, j < n → g j = some (f' j)) (hk : ∀ j, j < n → kd S (f' j) = 5) : Rt (sRP S q g) r q n f' := by
  obtain ⟨h1, h2, h3, h4, h5, h6, h7⟩ := h
  refine ⟨h1, h2, h3, h4, h5, h6, fun i hi => ⟨?_, hk i hi⟩⟩
  rw [rP_sRP, if_pos rfl]
  exact hg i hi
theorem sRP_same (S : St) (q : Nat) : sRP S q (rP S q) = S := by
  refine st_ext (fun _ => rfl) (fun _ _ => rfl) (fun _ _ => rfl) (fun _ => rfl) (fun _ => rfl) (fun a => ?_)
  rw [rP_sRP]
  split
  · next h => rw [h]
  · rfl
theorem vp13' {S : St} {q i : Nat} {g : Nat → Option Nat} (h : ln S q = 13) (hi : i < 13) : vp_in (nI i) (ln (sRP S q g) q) := by rw [ln_sRP, h]; exact vp_in_nI hi (by decide)
section L3
variable {p : Program} {l : Launch} {e : Env} {s : State} {m : MethodId} {args : Array Value} {below : List Frame} {meth : Method} {c : Code} {w : Wd} {S : St}
theorem l_insert (B : Bd p s m args meth c cX6_insert 4 (wsOf yX6_insert cX6_insert 4 none) RX6 w none "insert") {Q : State → Prop} {r q n k pp : Nat} {f : Nat → Nat} (h : Rt S r q n f) (hn : n ≤ 12) (hkn : k ≤ n)
    (hx : ∀ g : Nat → Option Nat, (∀ j, j < k → g j = some (f j)) → (∀ j, k < j → j ≤ n → g j = some (f (j - 1))) → K p l e rX6_insert s m args below meth c 4 w 0 0 Q (sRP S q g) 55 [(0, .ref r), (1, .ref pp), (2, .int (nI k))] []) :
    ∀ d i, i = k + d → i ≤ n → ∀ g : Nat → Option Nat, (∀ j, j ≤ i → j < n → g j = some (f j)) → (∀ j, i < j → j ≤ n → g j = some (f (j - 1))) → K p l e rX6_insert s m args below meth c 4 w 0 0 Q (sRP S q g) 30 [(0, .ref r), (1, .ref pp), (2, .int (nI k)), (3, .int (nI i))] [] := by
  obtain ⟨h1, h2, h3, h4, h5, h6, h7⟩ := h
  intro d
  induction d with
  | zero =>
    intro i hi hin g g1 g2
    refine bX6_insert_30 B (fun _ => ?_) (fun c => absurd (by rw [show i = k by omega]; exact Int32.le_refl _) c)
    exact hx g (fun j hj => g1 j (by omega) (by omega)) (fun j hj hj2 => g2 j (by omega) hj2)
  | succ d ih =>
    intro i hi hin g g1 g2
    have hi0 : 0 < i := by omega
    have e1 : (nI (i - 1)).toNatClampNeg = i - 1 := nI_clamp (by omega)
    have e2 : (nI i).toNatClampNeg = i := nI_clamp (by omega)
    refine bX6_insert_30 B (fun c => absurd c (nI_ge (by omega) (by omega))) (fun _ => ?_)
    refine bX6_insert_35 B h1 h2 h2 h3 (by rw [nI_s1 hi0]; exact vp13' h4 (by omega)) (x3 := f (i - 1)) (by rw [nI_s1 hi0, e1, rP_sRP, if_pos rfl]; exact g1 (i - 1) (by omega) (by omega)) h3 (h7 (i - 1) (by omega)).2 (vp13' h4 (by omega)) ?_
    rw [sRP_sRP, rP_sRP, if_pos rfl, nI_m1 hi0, e2]
    refine ih (i - 1) (by omega) (by omega) _ (fun j hj hjn => ?_) (fun j hj hjn => ?_)
    · rw [va_up_ne _ _ (by omega)]; exact g1 j (by omega) hjn
    · by_cases e : j = i
      · subst e; rw [va_up_self]
      · rw [va_up_ne _ _ e]; exact g2 j (by omega) hjn
theorem l_copy (B : Bd p s m args meth c cX6_copy 3 (wsOf yX6_copy cX6_copy 3 none) RX6 w none "copy") {Q : State → Prop} {r q r2 q2 n : Nat} {f : Nat → Nat} (h : Rt S r2 q2 n f) (hr : kd S r = 8) (hq : gP S 448 r = some q) (hkq : kd S q = 22) (hlq : ln S q = 13) (hqq : q2 ≠ q) (hsz : gI S 449 r = nI n)
    (hx : ∀ g : Nat → Option Nat, (∀ j, j < n → g j = some (f j)) → K p l e rX6_copy s m args below meth c 3 w 0 0 Q (sRP S q g) 36 [] []) :
    ∀ d i, i + d = n → ∀ g : Nat → Option Nat, (∀ j, j < i → g j = some (f j)) → K p l e rX6_copy s m args below meth c 3 w 0 0 Q (sRP S q g) 10 [(0, .ref r), (1, .ref r2), (2, .int (nI i))] [] := by
  obtain ⟨h1, h2, h3, h4, h5, h6, h7⟩ := h
  intro d
  induction d with
  | zero =>
    intro i hi g g1
    refine bX6_copy_10 B hr (fun _ => hx g (fun j hj => g1 j (by omega))) (fun c => absurd (by rw [gI_sRP, hsz, show n = i by omega]; exact Int32.le_refl _) c)
  | succ d ih =>
    intro i hi g g1
    have hin : i < n := by omega
    have e2 : (nI i).toNatClampNeg = i := nI_clamp (by omega)
    refine bX6_copy_10 B hr (fun c => absurd c (by rw [gI_sRP, hsz]; exact nI_ge hin (by omega))) (fun _ => ?_)
    refine bX6_copy_18 B hr hq h1 h2 h3 (by rw [ln_sRP, h4]; exact vp_in_nI (by omega) (by decide)) (x3 := f i) (by rw [e2, rP_sRP, if_neg hqq]; exact (h7 i hin).1) hkq (h7 i hin).2 (vp13' hlq (by omega)) ?_
    rw [sRP_sRP, rP_sRP, if_pos rfl, nI_1, e2]
    refine ih (i + 1) (by omega) _ (fun j hj => ?_)
    by_cases e : j = i
    · subst e; rw [va_up_self]
    · rw [va_up_ne _ _ e]; exact g1 j (by omega)
theorem l_remove (B : Bd p s m args meth c cX6_remove 4 (wsOf yX6_remove cX6_remove 4 none) RX6 w none "remove") {Q : State → Prop} {r q n k pp : Nat} {f : Nat → Nat} (h : Rt S r q n f) (hk : k < n) (hkp : f k = pp) (hu : ∀ j, j < n → f j = pp → j = k)
    (hx : ∀ g : Nat → Option Nat, (∀ j, j < n - 1 → g j = some (remF f k j)) → K p l e rX6_remove s m args below meth c 4 w 0 0 Q (sRP S q g) 43 [(0, .ref r), (2, .int (nI (n - 1)))] []) :
    ∀ d i, i + d = n → ∀ g : Nat → Option Nat, (∀ j, i ≤ j → j < n → g j = some (f j)) → (∀ j, j < (if i ≤ k then i else i - 1) → g j = some (remF f k j)) → K p l e rX6_remove s m args below meth c 4 w 0 0 Q (sRP S q g) 4 [(0, .ref r), (1, .ref pp), (2, .int (nI (if i ≤ k then i else i - 1))), (3, .int (nI i))] [] := by
  obtain ⟨h1, h2, h3, h4, h5, h6, h7⟩ := h
  intro d
  induction d with
  | zero =>
    intro i hi g g1 g2
    rw [if_neg (by omega)] at g2 ⊢
    refine bX6_remove_4 B h1 (fun _ => ?_) (fun c => absurd (by rw [gI_sRP, h5, show n = i by omega]; exact Int32.le_refl _) c)
    rw [show i = n by omega]
    exact hx g (fun j hj => g2 j (by omega))
  | succ d ih =>
    intro i hi g g1 g2
    have hin : i < n := by omega
    have e2 : (nI i).toNatClampNeg = i := nI_clamp (by omega)
    have g3 : rP (sRP S q g) q (nI i).toNatClampNeg = some (f i) := by rw [e2, rP_sRP, if_pos rfl]; exact g1 i (by omega) hin
    refine bX6_remove_4 B h1 (fun c => absurd c (by rw [gI_sRP, h5]; exact nI_ge hin (by omega))) (fun _ => ?_)
    refine bX6_remove_12 B h1 h2 h3 (vp13' h4 (by omega)) (fun c => ?_) (fun c => ?_)
    · have hik : i = k := hu i hin (Option.some.inj (g3.symm.trans c))
      refine bX6_remove_37 B ?_
      rw [nI_1]
      have := ih (i + 1) (by omega) g (fun j hj hjn => g1 j (by omega) hjn) (fun j hj => g2 j (by rw [if_pos (by omega)]; rw [if_neg (by omega)] at hj; omega))
      rw [if_neg (show ¬ i + 1 ≤ k by omega)] at this
      rw [if_pos (show i ≤ k by omega)]
      exact this
    · have hik : i ≠ k := fun z => c (by rw [g3, z, hkp])
      have hl : (if i ≤ k then i else i - 1) < 13 := by split <;> omega
      have e4 : (nI (if i ≤ k then i else i - 1)).toNatClampNeg = (if i ≤ k then i else i - 1) := nI_clamp (by omega)
      refine bX6_remove_22 B h1 h2 h2 h3 (vp13' h4 (by omega)) (x3 := f i) g3 h3 (h7 i hin).2 (vp13' h4 hl) (bX6_remove_37 B ?_)
      rw [sRP_sRP, rP_sRP, if_pos rfl, nI_1, nI_1, e4]
      have es : (if i ≤ k then i else i - 1) + 1 = (if i + 1 ≤ k then i + 1 else i + 1 - 1) := by split <;> split <;> omega
      rw [es]
      refine ih (i + 1) (by omega) _ (fun j hj hjn => ?_) (fun j hj => ?_)
      · rw [va_up_ne _ _ (by split <;> omega)]; exact g1 j (by omega) hjn
      · by_cases e : j = (if i ≤ k then i else i - 1)
        · rw [e, va_up_self]
          congr 1
          unfold remF
          by_cases hc : i ≤ k
          · rw [if_pos hc, if_pos (by omega)]
          · rw [if_neg hc, if_neg (by omega), show i - 1 + 1 = i by omega]
        · rw [va_up_ne _ _ e]
          refine g2 j ?_
          revert hj e
          split <;> split <;> omega
theorem l_turn (B : Bd p s m args meth c cX6_turn 6 (wsOf yX6_turn cX6_turn 6 none) RX6 w none "turn") {Q : State → Prop} {r q n a b : Nat} {f : Nat → Nat} (h : Rt S r q n f) (hb : b < n)
    (hx : ∀ g : Nat → Option Nat, (∀ j, j < n → g j = some (revF f a b j)) → K p l e rX6_turn s m args below meth c 6 w 0 0 Q (sRP S q g) 50 [] []) :
    ∀ d i k, i + k = a + b → k ≤ i + d → a ≤ i → k ≤ b → i ≤ b → ∀ g : Nat → Option Nat, (∀ j, j < n → g j = some (if (a ≤ j ∧ j < i) ∨ (k < j ∧ j ≤ b) then f (a + b - j) else f j)) → K p l e rX6_turn s m args below meth c 6 w 0 0 Q (sRP S q g) 5 [(0, .ref r), (3, .int (nI i)), (4, .int (nI k))] [] := by
  obtain ⟨h1, h2, h3, h4, h5, h6, h7⟩ := h
  have fin : ∀ (i k : Nat) (g : Nat → Option Nat), i + k = a + b → k ≤ i → a ≤ i → k ≤ b → i ≤ b → (∀ j, j < n → g j = some (if (a ≤ j ∧ j < i) ∨ (k < j ∧ j ≤ b) then f (a + b - j) else f j)) → ∀ j, j < n → g j = some (revF f a b j) := by
    intro i k g e1 e2 e3 e4 e5 hg j hj
    rw [hg j hj]
    unfold revF
    congr 1
    by_cases c : a ≤ j ∧ j ≤ b
    · rw [if_pos c]
      by_cases c2 : (a ≤ j ∧ j < i) ∨ (k < j ∧ j ≤ b)
      · rw [if_pos c2]
      · rw [if_neg c2, show a + b - j = j by omega]
    · rw [if_neg c, if_neg (by omega)]
  intro d
  induction d with
  | zero =>
    intro i k e1 e2 e3 e4 e5 g hg
    refine bX6_turn_5 B (fun _ => hx g (fin i k g e1 (by omega) e3 e4 e5 hg)) (fun c => absurd (nI_le (by omega) (by omega)) c)
  | succ d ih =>
    intro i k e1 e2 e3 e4 e5 g hg
    rcases Nat.lt_or_ge i k with hik | hik
    · have ei : (nI i).toNatClampNeg = i := nI_clamp (by omega)
      have ek : (nI k).toNatClampNeg = k := nI_clamp (by omega)
      have gi : rP (sRP S q g) q (nI i).toNatClampNeg = some (f i) := by rw [ei, rP_sRP, if_pos rfl, hg i (by omega), if_neg (by omega)]
      have gk : rP (sRP S q g) q (nI k).toNatClampNeg = some (f k) := by rw [ek, rP_sRP, if_pos rfl, hg k (by omega), if_neg (by omega)]
      have v1 : vp_in (nI i) (ln (sRP S q g) q) := vp13' h4 (by omega)
      have v2 : vp_in (nI k) (ln (sRP S q g) q) := vp13' h4 (by omega)
      refine bX6_turn_5 B (fun c => absurd c (nI_ge hik (by omega))) (fun _ => ?_)
      refine bX6_turn_11 B h1 h2 h3 v1 gi h2 h2 h3 v2 gk h3 (h7 k (by omega)).2 v1 h2 h3 (h7 i (by omega)).2 v2 ?_
      rw [rP_sRP, if_pos rfl, rP_sRP, if_pos rfl, sRP_sRP, sRP_sRP, nI_1, nI_m1 (by omega), ei, ek]
      refine ih (i + 1) (k - 1) (by omega) (by omega) (by omega) (by omega) (by omega) _ (fun j hj => ?_)
      by_cases cj : j = k
      · subst cj
        rw [va_up_self, if_pos (by omega), show a + b - j = i by omega]
      · rw [va_up_ne _ _ cj]
        by_cases ci : j = i
        · subst ci
          rw [va_up_self, if_pos (by omega), show a + b - j = k by omega]
        · rw [va_up_ne _ _ ci, hg j hj]
          by_cases c2 : (a ≤ j ∧ j < i) ∨ (k < j ∧ j ≤ b)
          · rw [if_pos c2, if_pos (by omega)]
          · rw [if_neg c2, if_neg (by omega)]
    · refine bX6_turn_5 B (fun _ => hx g (fin i k g e1 hik e3 e4 e5 hg)) (fun c => absurd (nI_le hik (by omega)) c)
end L3
section C4
variable {l : Launch} {w : Wd} {S : St}
theorem c_insert {r q n k pp : Nat} {f : Nat → Nat} (h : Rt S r q n f) (hn : n ≤ 12) (hkn : k ≤ n) (hp : kd S pp = 5) : ConV l yX6_insert (wsOf yX6_insert cX6_insert 4 none) rX6_insert w S [.ref r, .ref pp, .int (nI k)] (fun S' => ∃ g : Nat → Option Nat, S' = sI (sRP S q g) 449 r (nI (n + 1)) ∧ ∀ j, j < n + 1 → g j = some (insF f k pp j)) := by
  refine con_V (by decide +kernel) rfl (Nat.le_of_ble_eq_true rfl) (fun p e s m args below meth c B => ?_)
  have h0 := h
  obtain ⟨h1, h2, h3, h4, h5, h6, h7⟩ := h
  refine bX6_insert_0 B h1 h2 h3 (fun c => absurd c (by rw [h5, h4]; exact nI_ge (by omega) (by decide))) (fun _ => ?_)
  refine bX6_insert_12 B (fun c => absurd c (nI_pos (by omega))) (fun _ => ?_)
  refine bX6_insert_16 B h1 (fun _ => ?_) (fun c => absurd (by rw [h5]; exact nI_le hkn (by omega)) c)
  refine bX6_insert_25 B h1 ?_
  rw [h5]
  refine k_st (sRP_same S q) (l_insert (pp := pp) B h0 hn hkn (fun g g1 g2 => ?_) (n - k) n (by omega) (Nat.le_refl n) (rP S q) (fun j _ hj => (h7 j hj).1) (fun j hj hj2 => absurd hj (by omega)))
  refine bX6_insert_55 B h1 h2 h3 hp (vp13' h4 (by omega)) ⟨va_up g k (some pp), by rw [sRP_sRP, rP_sRP, if_pos rfl, nI_clamp (by omega), gI_sRP, h5, nI_1], fun j hj => ?_⟩
  unfold insF
  by_cases c1 : j = k
  · subst c1
    rw [va_up_self, if_neg (by omega), if_pos rfl]
  · rw [va_up_ne _ _ c1]
    by_cases c2 : j < k
    · rw [if_pos c2]; exact g1 j c2
    · rw [if_neg c2, if_neg c1]; exact g2 j (by omega) (by omega)
theorem c_copy {r q r2 q2 n : Nat} {f : Nat → Nat} (h : Rt S r2 q2 n f) (hr : kd S r = 8) (hq : gP S 448 r = some q) (hkq : kd S q = 22) (hlq : ln S q = 13) (hqq : q2 ≠ q) (hrr : r2 ≠ r) : ConV l yX6_copy (wsOf yX6_copy cX6_copy 3 none) rX6_copy w S [.ref r, .ref r2] (fun S' => ∃ g : Nat → Option Nat, S' = sI (sRP S q g) 449 r (nI n) ∧ ∀ j, j < n → g j = some (f j)) := by
  refine con_V (by decide +kernel) rfl (Nat.le_of_ble_eq_true rfl) (fun p e s m args below meth c B => ?_)
  have h0 := h
  obtain ⟨h1, h2, h3, h4, h5, h6, h7⟩ := h
  refine bX6_copy_0 B h1 hr ?_
  have hR : Rt (sI S 449 r (gI S 449 r2)) r2 q2 n f := ⟨h1, h2, h3, h4, by rw [gI_sI, if_neg (fun z => hrr z.2)]; exact h5, h6, h7⟩
  refine k_st (sRP_same _ q) (l_copy (r := r) (q := q) B hR hr hq hkq hlq hqq (by rw [gI_sI, if_pos ⟨rfl, rfl⟩]; exact h5) (fun g g1 => ?_) n 0 (by omega) (rP (sI S 449 r (gI S 449 r2)) q) (fun j hj => absurd hj (by omega)))
  exact bX6_copy_36 B ⟨g, by rw [h5]; exact st_ext (fun _ => rfl) (fun f a => by rw [gI_sRP, gI_sI, gI_sI, gI_sRP]) (fun _ _ => rfl) (fun _ => rfl) (fun _ => rfl) (fun a => by rw [rP_sRP, rP_sI, rP_sI, rP_sRP]), g1⟩
theorem c_remove {r q n k pp : Nat} {f : Nat → Nat} (h : Rt S r q n f) (hk : k < n) (hkp : f k = pp) (hu : ∀ j, j < n → f j = pp → j = k) : ConV l yX6_remove (wsOf yX6_remove cX6_remove 4 none) rX6_remove w S [.ref r, .ref pp] (fun S' => ∃ g : Nat → Option Nat, S' = sI (sRP S q g) 449 r (nI (n - 1)) ∧ ∀ j, j < n - 1 → g j = some (remF f k j)) := by
  refine con_V (by decide +kernel) rfl (Nat.le_of_ble_eq_true rfl) (fun p e s m args below meth c B => ?_)
  refine bX6_remove_0 B ?_
  refine k_st (sRP_same S q) ?_
  refine k_l (lst' := [(0, .ref r), (1, .ref pp), (2, .int (nI (if 0 ≤ k then 0 else 0 - 1))), (3, .int (nI 0))]) (by rw [if_pos (Nat.zero_le k)]; rfl) (l_remove B h hk hkp hu (fun g g1 => ?_) n 0 (by omega) (rP S q) (fun j _ hj => (h.2.2.2.2.2.2 j hj).1) (fun j hj => absurd hj (by rw [if_pos (by omega)]; omega)))
  exact bX6_remove_43 B h.1 ⟨g, rfl, g1⟩
theorem c_turn {r q n a b : Nat} {f : Nat → Nat} (h : Rt S r q n f) (hb : b < n) (hab : a ≤ b) : ConV l yX6_turn (wsOf yX6_turn cX6_turn 6 none) rX6_turn w S [.ref r, .int (nI a), .int (nI b)] (fun S' => ∃ g : Nat → Option Nat, S' = sRP S q g ∧ ∀ j, j < n → g j = some (revF f a b j)) := by
  refine con_V (by decide +kernel) rfl (Nat.le_of_ble_eq_true rfl) (fun p e s m args below meth c B => ?_)
  refine bX6_turn_0 B ?_
  refine k_st (sRP_same S q) (l_turn (a := a) B h hb (fun g g1 => ?_) b a b rfl (by omega) (Nat.le_refl _) (Nat.le_refl _) hab (rP S q) (fun j hj => by rw [if_neg (by omega)]; exact (h.2.2.2.2.2.2 j hj).1))
  exact bX6_turn_50 B ⟨g, rfl, g1⟩
theorem c_turn0 {r : Nat} : ConV l yX6_turn (wsOf yX6_turn cX6_turn 6 none) rX6_turn w S [.ref r, .int 0, .int 0] (fun S' => S = S') := by
  refine con_V (by decide +kernel) rfl (Nat.le_of_ble_eq_true rfl) (fun p e s m args below meth c B => ?_)
  exact bX6_turn_0 B (bX6_turn_5 B (fun _ => bX6_turn_50 B rfl) (fun c => absurd (Int32.le_refl _) c))
end C4
