/-! THE CLASS'S CONSTRUCTOR: its parts -/
/-- all but a has stayed -/
def OldE (a : Nat) (S S' : St) : Prop := kd S' a = kd S a ∧ ∀ b, kd S b ≠ 0 → b ≠ a → kd S' b = kd S b ∧ ln S' b = ln S b ∧ rI S' b = rI S b ∧ rP S' b = rP S b ∧ (∀ g, gI S' g b = gI S g b) ∧ ∀ g, gP S' g b = gP S g b
section OLDE
variable {S S1 : St} {a q : Nat}
theorem OldE.rf : OldE a S S := ⟨rfl, fun _ _ _ => ⟨rfl, rfl, rfl, rfl, fun _ => rfl, fun _ => rfl⟩⟩
theorem OldE.new (h : OldE a S S1) (hq : kd S q = 0) (ha : kd S a ≠ 0) (k n : Nat) : OldE a S (nw S1 q k n) :=
  ⟨by rw [kd_nw, if_neg (fun z => ha (by rw [z]; exact hq))]; exact h.1, fun b hb hba => by
    have hne : b ≠ q := fun z => hb (by rw [z]; exact hq)
    obtain ⟨a1, a2, a3, a4, a5, a6⟩ := h.2 b hb hba
    exact ⟨by rw [kd_nw, if_neg hne]; exact a1, by rw [ln_nw, if_neg hne]; exact a2, by rw [rI_nw, if_neg hne]; exact a3, by rw [rP_nw, if_neg hne]; exact a4, fun g => by rw [gI_nw, if_neg hne]; exact a5 g, fun g => by rw [gP_nw, if_neg hne]; exact a6 g⟩⟩
theorem OldE.si (h : OldE a S S1) (hq : q = a ∨ kd S q = 0) (f : Nat) (x : Int32) : OldE a S (sI S1 f q x) :=
  ⟨h.1, fun b hb hba => by
    have hne : b ≠ q := fun z => by
      rcases hq with y | y
      · exact hba (z.trans y)
      · exact hb (by rw [z]; exact y)
    obtain ⟨a1, a2, a3, a4, a5, a6⟩ := h.2 b hb hba
    exact ⟨a1, a2, a3, a4, fun g => by rw [gI_sI, if_neg (fun z => hne z.2)]; exact a5 g, a6⟩⟩
theorem OldE.sp (h : OldE a S S1) (hq : q = a ∨ kd S q = 0) (f : Nat) (x : Option Nat) : OldE a S (sP S1 f q x) :=
  ⟨h.1, fun b hb hba => by
    have hne : b ≠ q := fun z => by
      rcases hq with y | y
      · exact hba (z.trans y)
      · exact hb (by rw [z]; exact y)
    obtain ⟨a1, a2, a3, a4, a5, a6⟩ := h.2 b hb hba
    exact ⟨a1, a2, a3, a4, a5, fun g => by rw [gP_sP, if_neg (fun z => hne z.2)]; exact a6 g⟩⟩
theorem OldE.sri (h : OldE a S S1) (hq : kd S q = 0) (f : Nat → Int32) : OldE a S (sRI S1 q f) :=
  ⟨h.1, fun b hb hba => by
    have hne : b ≠ q := fun z => hb (by rw [z]; exact hq)
    obtain ⟨a1, a2, a3, a4, a5, a6⟩ := h.2 b hb hba
    exact ⟨a1, a2, by rw [rI_sRI, if_neg hne]; exact a3, a4, a5, a6⟩⟩
/-- a new object, and its constructor -/
theorem Old.ctor {S S2 : St} {q k n : Nat} (hq : kd S q = 0) (h : OldE q (nw S q k n) S2) : Old S S2 := fun b hb => by
  have hne : b ≠ q := fun z => hb (by rw [z]; exact hq)
  obtain ⟨a1, a2, a3, a4, a5, a6⟩ := h.2 b (by rw [kd_nw, if_neg hne]; exact hb) hne
  rw [kd_nw, if_neg hne] at a1
  rw [ln_nw, if_neg hne] at a2
  rw [rI_nw, if_neg hne] at a3
  rw [rP_nw, if_neg hne] at a4
  exact ⟨a1, a2, a3, a4, fun g => by rw [a5 g, gI_nw, if_neg hne], fun g => by rw [a6 g, gP_nw, if_neg hne]⟩
end OLDE
def tens (i : Nat) : Int32 := if i < 24 then 10 else 0
section TWI
variable {p : Program} {l : Launch} {e : Env} {s : State} {m : MethodId} {args : Array Value} {below : List Frame} {meth : Method} {c : Code} {w : Wd} {S : St}
theorem l_tens (B : Bd p s m args meth c cX8_init 2 (wsOf yX8_init cX8_init 2 none) RX8 w none "<init>") {k n : Nat} {Q : State → Prop} {S0 : St} {a r : Nat} (h1 : kd S0 a = 10) (h2 : gP S0 576 a = some r) (h3 : kd S0 r = 21) (h4 : ln S0 r = 24)
    (hx : K p l e rX8_init s m args below meth c 2 w k n Q (sRI S0 r tens) 49 [] []) : ∀ d i S, i + d = 24 → S = sRI S0 r (fun j => if j < i then 10 else 0) → K p l e rX8_init s m args below meth c 2 w k n Q S 29 [(0, .ref a), (1, .int (nI i))] [] := by
  intro d
  induction d with
  | zero =>
    intro i S hi hS
    have : i = 24 := by omega
    subst this
    subst hS
    exact bX8_init_29 B (fun _ => hx) (fun cc => absurd (by decide) cc)
  | succ d ih =>
    intro i S hi hS
    subst hS
    refine bX8_init_29 B (fun cc => absurd cc (Int32.not_le.mpr (nI_lt (a := i) (b := 24) (by omega) (by decide)))) (fun _ => ?_)
    refine bX8_init_35 B h1 h2 h3 (by rw [ln_sRI, h4]; exact vp_in_nI (show i < 24 by omega) (by decide)) ?_
    rw [nI_1, nI_clamp (show i < 2 ^ 31 by omega), rI_sRI, if_pos rfl]
    refine ih (i + 1) _ (by omega) (st_ext (fun _ => rfl) (fun _ _ => rfl) (fun _ _ => rfl) (fun _ => rfl) (fun b => ?_) (fun _ => rfl))
    by_cases hb : b = r
    · subst hb
      rw [rI_sRI, if_pos rfl, rI_sRI, if_pos rfl]
      funext j
      by_cases z : j = i
      · subst z; rw [va_up_self, if_pos (by omega)]
      · rw [va_up_ne _ _ z]
        by_cases y : j < i
        · rw [if_pos y, if_pos (by omega)]
        · rw [if_neg y, if_neg (by omega)]
    · rw [rI_sRI, if_neg hb, rI_sRI, if_neg hb, rI_sRI, if_neg hb]
end TWI
section INI
variable {l : Launch} {w : Wd} {S : St}
theorem c_twI {a : Nat} (h : kd S a = 10) : ConV l yX8_init (wsOf yX8_init cX8_init 2 none) rX8_init w S [.ref a] (fun S' => OldE a S S' ∧ ∃ r d, (kd S r = 0 ∧ kd S d = 0) ∧ (kd S' r = 21 ∧ ln S' r = 24 ∧ kd S' d = 6) ∧ (gP S' 576 a = some r ∧ gP S' 577 a = some d) ∧ rI S' r = tens ∧ gI S' 320 d = 30 ∧ gI S' 321 d = 30) := by
  have ha : kd S a ≠ 0 := by rw [h]; decide
  refine con_V (by decide +kernel) rfl (Nat.le_of_ble_eq_true rfl) (fun p e s m args below meth c B => ?_)
  refine bX8_init_0 B (Nat.le_of_ble_eq_true rfl) (Nat.le_of_ble_eq_true rfl) (fun r hr => ?_)
  have nar : a ≠ r := fun z => ha (z ▸ hr)
  refine bX8_init_9 B (by rw [kd_nw, if_neg nar]; exact h) (Nat.le_of_ble_eq_true rfl) (Nat.le_of_ble_eq_true rfl) (fun d hd => ?_)
  obtain ⟨ndr, hd⟩ := nw0 (S := S) (q := r) (k := 21) (n := 24) hd (by decide)
  have nad : a ≠ d := fun z => ha (z ▸ hd)
  have nrd := Ne.symm ndr
  refine bX8_init_16 B (c_plI (by rw [kd_nw, if_pos rfl])) (Nat.le_of_ble_eq_true rfl) (Nat.le_of_ble_eq_true rfl) (fun S' hq => ?_)
  subst hq
  refine bX8_init_24 B (by simp [kd_sI, kd_sP, kd_sRI, kd_sRP, kd_nw, gI_sI, gI_sP, gI_sRI, gI_sRP, gI_nw, gP_sI, gP_sP, gP_sRI, gP_sRP, gP_nw, ln_sI, ln_sP, ln_sRI, ln_sRP, ln_nw, rI_sI, rI_sP, rI_sRI, rI_sRP, rI_nw, rP_sI, rP_sP, rP_sRI, rP_sRP, rP_nw, va_up_self, nar, nad, h]) ?_
  obtain ⟨S0, hS0⟩ : ∃ S0, S0 = sP (sI (sI (nw (sP (nw S r 21 24) 576 a (some r)) d 6 0) 320 d 30) 321 d 30) 577 a (some d) := ⟨_, rfl⟩
  rw [← hS0]
  have k1 : kd S0 a = 10 := by rw [hS0]; simp [kd_sI, kd_sP, kd_sRI, kd_sRP, kd_nw, gI_sI, gI_sP, gI_sRI, gI_sRP, gI_nw, gP_sI, gP_sP, gP_sRI, gP_sRP, gP_nw, ln_sI, ln_sP, ln_sRI, ln_sRP, ln_nw, rI_sI, rI_sP, rI_sRI, rI_sRP, rI_nw, rP_sI, rP_sP, rP_sRI, rP_sRP, rP_nw, va_up_self, nar, nad, h]
  have k2 : gP S0 576 a = some r := by rw [hS0]; simp [kd_sI, kd_sP, kd_sRI, kd_sRP, kd_nw, gI_sI, gI_sP, gI_sRI, gI_sRP, gI_nw, gP_sI, gP_sP, gP_sRI, gP_sRP, gP_nw, ln_sI, ln_sP, ln_sRI, ln_sRP, ln_nw, rI_sI, rI_sP, rI_sRI, rI_sRP, rI_nw, rP_sI, rP_sP, rP_sRI, rP_sRP, rP_nw, va_up_self, nad]
  have k3 : kd S0 r = 21 := by rw [hS0]; simp [kd_sI, kd_sP, kd_sRI, kd_sRP, kd_nw, gI_sI, gI_sP, gI_sRI, gI_sRP, gI_nw, gP_sI, gP_sP, gP_sRI, gP_sRP, gP_nw, ln_sI, ln_sP, ln_sRI, ln_sRP, ln_nw, rI_sI, rI_sP, rI_sRI, rI_sRP, rI_nw, rP_sI, rP_sP, rP_sRI, rP_sRP, rP_nw, va_up_self, nrd]
  have k4 : ln S0 r = 24 := by rw [hS0]; simp [kd_sI, kd_sP, kd_sRI, kd_sRP, kd_nw, gI_sI, gI_sP, gI_sRI, gI_sRP, gI_nw, gP_sI, gP_sP, gP_sRI, gP_sRP, gP_nw, ln_sI, ln_sP, ln_sRI, ln_sRP, ln_nw, rI_sI, rI_sP, rI_sRI, rI_sRP, rI_nw, rP_sI, rP_sP, rP_sRI, rP_sRP, rP_nw, va_up_self, nrd]
  have k5 : rI S0 r = fun _ => 0 := by rw [hS0]; simp [kd_sI, kd_sP, kd_sRI, kd_sRP, kd_nw, gI_sI, gI_sP, gI_sRI, gI_sRP, gI_nw, gP_sI, gP_sP, gP_sRI, gP_sRP, gP_nw, ln_sI, ln_sP, ln_sRI, ln_sRP, ln_nw, rI_sI, rI_sP, rI_sRI, rI_sRP, rI_nw, rP_sI, rP_sP, rP_sRI, rP_sRP, rP_nw, va_up_self, nrd]
  have k6 : kd S0 d = 6 := by rw [hS0]; simp [kd_sI, kd_sP, kd_sRI, kd_sRP, kd_nw, gI_sI, gI_sP, gI_sRI, gI_sRP, gI_nw, gP_sI, gP_sP, gP_sRI, gP_sRP, gP_nw, ln_sI, ln_sP, ln_sRI, ln_sRP, ln_nw, rI_sI, rI_sP, rI_sRI, rI_sRP, rI_nw, rP_sI, rP_sP, rP_sRI, rP_sRP, rP_nw, va_up_self]
  have k7 : gP S0 577 a = some d := by rw [hS0]; simp [kd_sI, kd_sP, kd_sRI, kd_sRP, kd_nw, gI_sI, gI_sP, gI_sRI, gI_sRP, gI_nw, gP_sI, gP_sP, gP_sRI, gP_sRP, gP_nw, ln_sI, ln_sP, ln_sRI, ln_sRP, ln_nw, rI_sI, rI_sP, rI_sRI, rI_sRP, rI_nw, rP_sI, rP_sP, rP_sRI, rP_sRP, rP_nw, va_up_self]
  have k8 : gI S0 320 d = 30 := by rw [hS0]; simp [kd_sI, kd_sP, kd_sRI, kd_sRP, kd_nw, gI_sI, gI_sP, gI_sRI, gI_sRP, gI_nw, gP_sI, gP_sP, gP_sRI, gP_sRP, gP_nw, ln_sI, ln_sP, ln_sRI, ln_sRP, ln_nw, rI_sI, rI_sP, rI_sRI, rI_sRP, rI_nw, rP_sI, rP_sP, rP_sRI, rP_sRP, rP_nw, va_up_self]
  have k9 : gI S0 321 d = 30 := by rw [hS0]; simp [kd_sI, kd_sP, kd_sRI, kd_sRP, kd_nw, gI_sI, gI_sP, gI_sRI, gI_sRP, gI_nw, gP_sI, gP_sP, gP_sRI, gP_sRP, gP_nw, ln_sI, ln_sP, ln_sRI, ln_sRP, ln_nw, rI_sI, rI_sP, rI_sRI, rI_sRP, rI_nw, rP_sI, rP_sP, rP_sRI, rP_sRP, rP_nw, va_up_self]
  have ho : OldE a S S0 := by rw [hS0]; exact (((((OldE.rf.new hr ha 21 24).sp (Or.inl rfl) _ _).new hd ha 6 0).si (Or.inr hd) _ _).si (Or.inr hd) _ _).sp (Or.inl rfl) _ _
  refine l_tens B k1 k2 k3 k4 (bX8_init_49 B ⟨ho.sri hr _, r, d, ⟨hr, hd⟩, ⟨k3, k4, k6⟩, ⟨k2, k7⟩, by rw [rI_sRI, if_pos rfl], k8, k9⟩) 24 0 S0 (by omega) ?_
  refine st_ext (fun _ => rfl) (fun _ _ => rfl) (fun _ _ => rfl) (fun _ => rfl) (fun b => ?_) (fun _ => rfl)
  rw [rI_sRI]
  split
  · rename_i z
    rw [z, k5]
    funext j
    rw [if_neg (by omega)]
  · rfl
end INI
