theorem boxN_cases (D : Ab) (k : Nat) : ∀ n i, boxN D k n i = -1 ∨ ∃ b, i ≤ b ∧ b < i + n ∧ boxN D k n i = nI b := by
  intro n
  induction n with
  | zero => exact fun _ => Or.inl rfl
  | succ n ih =>
    intro i
    unfold boxN
    split
    · rcases ih (i + 1) with h | ⟨b, h1, h2, h3⟩
      · exact Or.inl h
      · exact Or.inr ⟨b, by omega, by omega, h3⟩
    · exact Or.inr ⟨i, by omega, by omega, rfl⟩
theorem boxD_cases (D : Ab) (q k : Nat) : boxD D q k = -1 ∨ ∃ b, b < 3 ∧ boxD D q k = nI b := by
  unfold boxD
  split
  · rcases boxN_cases D k 3 0 with h | ⟨b, h1, h2, h3⟩
    · exact Or.inl h
    · exact Or.inr ⟨b, by omega, h3⟩
  · split
    · rcases boxN_cases D k 2 1 with h | ⟨b, h1, h2, h3⟩
      · exact Or.inl h
      · exact Or.inr ⟨b, by omega, h3⟩
    · rcases boxN_cases D k 1 2 with h | ⟨b, h1, h2, h3⟩
      · exact Or.inl h
      · exact Or.inr ⟨b, by omega, h3⟩
def layD (D : Ab) (q k b : Nat) : Ab := aset (aset (aset (aset (aset (au (goD D (D 907 k) (D 908 k)) 842 0 ((goD D (D 907 k) (D 908 k)) 842 0 + 2)) 834 (va_up (D 834) q 2)) 836 (va_up (D 836) q (nI k))) 837 (va_up (D 837) q (nI b))) 838 (va_up (D 838) q 0)) 839 (va_up (D 839) (3 * k + b) (D 839 (3 * k + b) - 1))
def leftD (D : Ab) (q h : Nat) : Ab := aset (aset (au D 842 0 (D 842 0 + 2)) 834 (va_up (D 834) q 3)) 836 (va_up (D 836) q (nI h))
def whD (D : Ab) (h k : Nat) : Nat := cl (D 905 (3 * h + k) - D 905 (3 * h + k) / 100 * 100)
/-- one order is tried: whether it works, and what is then -/
def tryD (D : Ab) (q h k : Nat) : Bool × Ab :=
  if 200 ≤ D 905 (3 * h + k) then
    if dist (D 901 h) (D 902 h) (D 901 (whD D h k)) (D 902 (whD D h k)) ≤ 8 then
      if ((goD D (D 901 (whD D h k)) (D 902 (whD D h k))) 903 (whD D h k) >>> (hr ((goD D (D 901 (whD D h k)) (D 902 (whD D h k))) 842 0) &&& 31)) &&& 1 = 1 then (true, leftD (goD D (D 901 (whD D h k)) (D 902 (whD D h k))) q (whD D h k))
      else (false, goD D (D 901 (whD D h k)) (D 902 (whD D h k)))
    else (false, D)
  else if D 914 q = 1 ∨ boxD D q (whD D h k) = -1 ∨ ¬ dist (D 901 h) (D 902 h) (D 907 (whD D h k)) (D 908 (whD D h k)) ≤ 15 then (false, D)
  else (true, layD D q (whD D h k) (cl (boxD D q (whD D h k))))
def plcD (q h : Nat) : Nat → Nat → Ab → Bool × Ab
  | 0, _, D => (false, D)
  | d + 1, k, D => if (tryD D q h k).1 = true then tryD D q h k else plcD q h d (k + 1) (tryD D q h k).2
/-- the orders of a home, and lockers, are in their ranges -/
def OrdOk (α : Ab) (h : Nat) : Prop := α 904 h = nI (cl (α 904 h)) ∧ cl (α 904 h) ≤ 3 ∧ ∀ k, k < cl (α 904 h) → ∃ wh, (α 905 (3 * h + k) = nI (100 + wh) ∧ wh < 4) ∨ (α 905 (3 * h + k) = nI (200 + wh) ∧ wh < 16)
def AIw (α : Ab) : Prop := AIr α ∧ (∀ k, k < 4 → isN (α 907 k) 60 ∧ isN (α 908 k) 60) ∧ ∀ h, h < 16 → OrdOk α h
theorem AIw.D {α β : Ab} (f : FrD α β) (h : AIw α) : AIw β := by
  obtain ⟨h1, h2, h3⟩ := h
  refine ⟨h1.D f, fun k hk => ?_, fun x hx => ?_⟩
  · rw [f 907 (by decide) (by decide), f 908 (by decide) (by decide)]; exact h2 k hk
  · have := h3 x hx
    unfold OrdOk at this ⊢
    rw [f 904 (by decide) (by decide), f 905 (by decide) (by decide)]; exact this
theorem whD_eq {D : Ab} {h k wh b : Nat} (e : D 905 (3 * h + k) = nI (b + wh)) (hb : b % 100 = 0) (hb2 : b < 1000) (hw : wh < 100) : whD D h k = wh := by
  unfold whD
  rw [e, show (100 : Int32) = nI 100 from rfl, pk_rem (by omega) (by decide) (by decide), cl_nI (by omega)]
  omega
theorem goD_ok {D : Ab} {gx gy : Int32} {b : Int} (hs : ∀ i, i < 24 → isN (D 897 i) 30) (h : trOk (trD D) b) (hb : b ≤ 900000) (hx : isN gx 60) (hy : isN gy 60) : trOk (trD (goD D gx gy)) (b + 360) := by
  have := goS_ok (t := trD D) hs h (by omega) hx hy
  exact this
theorem wkD_ok {D : Ab} {gx gy : Int32} {b : Int} (hs : ∀ i, i < 24 → isN (D 897 i) 30) (h : trOk (trD D) b) (hb : b ≤ 800000) (hx : isN gx 60) (hy : isN gy 60) : trOk (trD (wkD D gx gy)) (b + 390) := by
  have e30 : (30 : Int32).toInt = 30 := by decide
  unfold wkD
  split
  · obtain ⟨h1, h2, h3⟩ := goD_ok hs h (by omega) hx hy
    exact ⟨h1, h2, h3.1, by have := h3.2; omega⟩
  · have hk : trOk (trD (au (au D 842 0 (D 842 0 + 30)) 843 0 (D 842 0 + 30))) (b + 30) := by
      obtain ⟨h1, h2, h3, h4⟩ := h
      refine ⟨h1, h2, ?_⟩
      show isN (D 842 0 + 30) _
      unfold isN
      have h3' : 0 ≤ (D 842 0).toInt := h3
      have h4' : (D 842 0).toInt ≤ b := h4
      rw [add_i (by omega) (by omega)]
      omega
    obtain ⟨h1, h2, h3⟩ := goD_ok (D := au (au D 842 0 (D 842 0 + 30)) 843 0 (D 842 0 + 30)) hs hk (by omega) hx hy
    exact ⟨h1, h2, h3.1, by have := h3.2; omega⟩
theorem trOk.up {t : Tr} {a b : Int} (h : trOk t a) (hb : a ≤ b) : trOk t b := ⟨h.1, h.2.1, h.2.2.1, by have := h.2.2.2; omega⟩
section MPC
variable {p : Program} {l : Launch} {e : Env} {s : State} {m : MethodId} {args : Array Value} {below : List Frame} {meth : Method} {c : Code} {w : Wd} {S : St}
theorem l_boxD (B : Bd p s m args meth c cX12_boxFor 5 (wsOf yX12_boxFor cX12_boxFor 5 (some .int)) RX12 w (some .int) "boxFor") {post : Int32 → Prop} {Q : State → Prop} {m0 s0 ah off x k : Nat} {A : Nat → Nat} {α D : Ab} (h : MD m0 s0 ah A α off x D S) (hk : k < 4)
    (hx : ∀ i, i < 3 → post (nI i) → K p l e rX12_boxFor s m args below meth c 5 w 0 0 Q S 60 [(4, .int (nI i))] []) (hy : post (-1) → K p l e rX12_boxFor s m args below meth c 5 w 0 0 Q S 69 [] []) :
    ∀ n i, i + n = 3 → post (boxN D k n i) → K p l e rX12_boxFor s m args below meth c 5 w 0 0 Q S 40 [(0, .ref x), (2, .int (nI k)), (4, .int (nI i))] [] := by
  obtain ⟨a1, a2, a3, a4⟩ := h.ar 839 (by decide) (by decide) (by decide)
  intro n
  induction n with
  | zero =>
    intro i hi hp
    have hi : i = 3 := by omega
    subst hi
    exact bX12_boxFor_40 B (fun _ => hy hp) (fun c => absurd (by decide) c)
  | succ n ih =>
    intro i hi hp
    have ei : (3 : Int32) * nI k + nI i = nI (3 * k + i) := by rw [show (3 : Int32) * nI k = nI (3 * k) from pk_mul 3 k, nI_add]
    refine bX12_boxFor_40 B (fun c => absurd c (by rw [show (3 : Int32) = nI 3 from rfl]; exact nI_ge (by omega) (by omega))) (fun _ => ?_)
    unfold boxN at hp
    refine bX12_boxFor_46 B h.knd.1 a1 a2 (by rw [ei, a3]; exact vp_in_nI (show 3 * k + i < 12 by omega) (by decide)) (fun c => ?_) (fun c => ?_)
    · rw [ei, nI_clamp (by omega), a4] at c
      rw [if_pos c] at hp
      refine bX12_boxFor_63 B ?_
      rw [nI_1]
      exact ih (i + 1) (by omega) hp
    · rw [ei, nI_clamp (by omega), a4] at c
      rw [if_neg c] at hp
      exact hx i (by omega) hp
end MPC
section MPC2
variable {l : Launch} {w : Wd} {S : St} {m0 s0 ah off x : Nat} {A : Nat → Nat} {α D : Ab}
theorem c_boxForD {q k : Nat} (h : MD m0 s0 ah A α off x D S) (hq : q < 30) (hk : k < 4) : ConI l yX12_boxFor (wsOf yX12_boxFor cX12_boxFor 5 (some .int)) rX12_boxFor w S [.ref x, .int (nI q), .int (nI k)] (fun r S' => S = S' ∧ r = boxD D q k) := by
  refine con_I (by decide +kernel) rfl (Nat.le_of_ble_eq_true rfl) (fun p e s m args below meth c B => ?_)
  obtain ⟨k1, k2, k3⟩ := h.knd
  obtain ⟨a1, a2, a3, a4⟩ := h.st 915 (by decide) (by decide) (by decide)
  have hin : vp_in (nI q) (ln S (A 915)) := by rw [a3]; exact vp_in_nI hq (by decide)
  have ev : rI S (A 915) (nI q).toNatClampNeg = D 915 q := by rw [a4, nI_clamp (by omega)]
  have go := l_boxD (e := e) (l := l) (Q := MQ below (va_Qi (fun r S' => S = S' ∧ r = boxD D q k) (fun S' t => Hd w S' t.heap) (wA w)) args s rX12_boxFor.cells rX12_boxFor.slots (wA w)) (post := fun r => r = boxD D q k) B h hk (fun i hi hp => bX12_boxFor_60 B ⟨rfl, hp⟩) (fun hp => bX12_boxFor_69 B ⟨rfl, hp⟩)
  refine bX12_boxFor_0 B k1 k2 k3 a1 a2 hin (fun c => ?_) (fun c => ?_)
  · rw [ev] at c
    have c1 : ¬ D 915 q ≤ 5 := Int32.not_le.mpr c
    refine bX12_boxFor_17 B k1 k2 k3 a1 a2 hin (fun c2 => ?_) (fun c2 => ?_)
    · rw [ev] at c2
      exact bX12_boxFor_35 B (bX12_boxFor_36 B (go 1 2 (by omega) (by unfold boxD; rw [if_neg c1, if_neg (Int32.not_le.mpr c2)])))
    · rw [ev] at c2
      exact bX12_boxFor_31 B (bX12_boxFor_36 B (go 2 1 (by omega) (by unfold boxD; rw [if_neg c1, if_pos (Int32.not_lt.mp c2)])))
  · rw [ev] at c
    exact bX12_boxFor_13 B (bX12_boxFor_36 B (go 3 0 (by omega) (by unfold boxD; rw [if_pos (Int32.not_lt.mp c)])))
end MPC2
