/-! THE CLASS'S PLANNING over its picture: following, the two scratch routes -/
/-- what lasts, said in numbers: homes of parcels, orders' goals, who is on a route waits, what waits was tried twice at most -/
def AIx (α : Ab) : Prop := (∀ q, q < nP α → cl (α 916 q) < nH α) ∧ (∀ h, h < nH α → ∀ k, k < cl (α 904 h) → ∃ wh, (α 905 (3 * h + k) = nI (100 + wh) ∧ wh < nL α) ∨ (α 905 (3 * h + k) = nI (200 + wh) ∧ wh < nH α)) ∧
  (∀ q, On α q → α 834 q = 0) ∧ (∀ q, q < nP α → α 834 q = 0 → α 838 q = 0 ∧ isN (α 835 q) 2) ∧ (∀ q, q < nP α → isN (α 835 q) 3) ∧ (∀ q, q < nP α → α 834 q = 2 → cl (α 836 q) < nL α) ∧
  (∀ h, nH α ≤ h → h < 16 → α 904 h = 0) ∧ ∀ q, nP α ≤ q → q < 30 → α 834 q = 0 ∧ α 835 q = 0 ∧ α 838 q = 0
def AIz (α : Ab) : Prop := AI α ∧ AIx α
theorem AIx.congr {α β : Ab} (f : FrM α β) (h : AIx α) : AIx β := by
  unfold AIx at h ⊢
  simp only [nP_congr f, nH_congr f, nL_congr f, On_congr f, f 916 rfl, f 904 rfl, f 905 rfl, f 834 rfl, f 838 rfl, f 835 rfl, f 836 rfl]
  exact h
theorem AIz.congr {α β : Ab} (f : FrM α β) (h : AIz α) : AIz β := ⟨h.1.congr f, h.2.congr f⟩
section FOL
variable {w : Wd} {S S' : St} {T : Tb} {α : Ab}
theorem CR.sc (h : CR w S T α) : Sc S (T 8 0) (T 1 0) (T 9 0) (T 10 0) (T 11 0) (T 12 0) (T 2 0) (T 3 0) :=
  ⟨h.k (cn1 (by decide)), h.lk (8, 512, 1) (by decide) (cn1 (by decide)), h.lk (8, 513, 9) (by decide) (cn1 (by decide)), h.lk (8, 514, 10) (by decide) (cn1 (by decide)), h.lk (8, 515, 11) (by decide) (cn1 (by decide)), h.lk (8, 516, 12) (by decide) (cn1 (by decide)), h.k (cn1 (by decide)), h.k (cn1 (by decide)), ⟨h.k (cn1 (by decide)), h.lnn (cn1 (by decide)) (by decide)⟩, ⟨h.k (cn1 (by decide)), h.lnn (cn1 (by decide)) (by decide)⟩, ⟨h.k (cn1 (by decide)), h.lnn (cn1 (by decide)) (by decide)⟩, ⟨h.ne (cn1 (by decide)) (cn1 (by decide)) (Or.inl (by decide)), h.ne (cn1 (by decide)) (cn1 (by decide)) (Or.inl (by decide)), h.ne (cn1 (by decide)) (cn1 (by decide)) (Or.inl (by decide))⟩, h.lk (9, 640, 1) (by decide) (cn1 (by decide)), h.lk (1, 576, 2) (by decide) (cn1 (by decide)), ⟨h.k (cn1 (by decide)), h.lnn (cn1 (by decide)) (by decide)⟩, ⟨h.ne (cn1 (by decide)) (cn1 (by decide)) (Or.inl (by decide)), h.ne (cn1 (by decide)) (cn1 (by decide)) (Or.inl (by decide)), h.ne (cn1 (by decide)) (cn1 (by decide)) (Or.inl (by decide))⟩, h.lk (1, 577, 3) (by decide) (cn1 (by decide)), h.k (cn1 (by decide))⟩
theorem CR.pd (h : CR w S T α) (hx : AIx α) {q : Nat} (hq : q < nP α) : Pd S (T 30 q) (pdat α q) := by
  obtain ⟨⟨b1, b2, b3, b4, b5, b6, b7⟩, -⟩ := h.pa hq
  have hh := hx.1 q hq
  obtain ⟨c1, c2, -⟩ := h.hm hh
  exact ⟨h.k (cnP (by decide) (by decide) hq), ⟨_, _, b5, h.k (cnH (by decide) (by decide) hh), h.lk (20, 128, 21) (by decide) (cnH (by decide) (by decide) hh), h.k (cnH (by decide) (by decide) hh), c1, c2⟩, b6, b7, b2, b3⟩
/-- a route of the class holds these parcels -/
abbrev Rl (S : St) (T : Tb) (r q n : Nat) (L : Nat → Nat) : Prop := Rt S r q n (fun i => T 30 (L i))
theorem CR.rv (h : CR w S T α) (hA : AI1 α) {v : Nat} (hv : v < nV α) : Rl S T (T 28 v) (T 29 v) (mny α v) (rwf α v) := by
  obtain ⟨-, -, -, -, b5, b6⟩ := h.va hv
  have v4 := hA.v4 hv
  exact ⟨h.k (cnV (by decide) (by decide) hv), h.lk (28, 448, 29) (by decide) (cnV (by decide) (by decide) hv), h.k (cnV (by decide) (by decide) hv), h.lnn (cnV (by decide) (by decide) hv) (by decide), b5, by have := hA.m12 v4; omega, fun i hi => ⟨b6 i hi, h.k (cnP (by decide) (by decide) (hA.2.2.2.2.1 v i v4 hi).2)⟩⟩
theorem FrX.ofS (f : FrS (T 10 0) (T 11 0) (T 12 0) S S') : FrX T S S' := by
  obtain ⟨g1, g2, g3, g4, g5, g6⟩ := f
  refine ⟨g1, g4, fun F a hF _ => ?_, fun F a h1 _ => g3 F a h1, g5, fun a _ _ => g6 a⟩
  unfold scrF at hF
  simp only [Bool.or_eq_false_iff, beq_eq_false_iff_ne] at hF
  exact g2 F a hF.1.1.1.1.1.1.1.1 hF.1.1.1.1.1.1.1.2 hF.1.1.1.1.1.1.2 hF.1.1.1.1.1.2 hF.1.1.1.1.2
end FOL
section FOL2
variable {l : Launch} {w : Wd} {S : St} {T : Tb} {α : Ab}
/-- following a route: its cost, the schedule's values; all else is scratch -/
theorem c_fol {r q n v : Nat} {L : Nat → Nat} (h : CR w S T α) (hA : AIz α) (hv : v < nV α) (hR : Rl S T r q n L) (hn : n ≤ 12) (hL : ∀ i, i < n → L i < nP α) :
    ConI l yX7_follow (wsOf yX7_follow cX7_follow 6 (some .int)) rX7_follow w S [.ref (T 8 0), .ref (T 27 v), .ref r] (fun x S' => x = costM α v n L ∧ FQ (T 8 0) (T 9 0) (T 10 0) (T 11 0) (T 12 0) (α 897) (fun i => pdat α (L i)) (α 898 0) (α 899 0) (α 911 v) n S S') := by
  obtain ⟨t1, t2, t3, t4⟩ := h.to
  obtain ⟨-, -, b3, b4, -⟩ := h.va hv
  have v4 := hA.1.1.v4 hv
  have htok := hA.1.1.1.tok (L := L) v4 (show n ≤ 13 by omega) (fun i hi => hA.1.1.p30 (hL i hi))
  have := c_follow (l := l) (w := w) (D := fun i => pdat α (L i)) h.sc (h.k (cnV (by decide) (by decide) hv)) b3 b4 t2 t3 hR hn (fun i hi => h.pd hA.2 (hL i hi)) (by rw [t1]; exact htok.1.1)
  rw [t1] at this
  exact this
/-- the routes other than r stay -/
def RtK (r q : Nat) (S S' : St) : Prop := ∀ r' q' n' f', r' ≠ r → q' ≠ q → Rt S r' q' n' f' → Rt S' r' q' n' f'
theorem rtk_put {r q : Nat} {g : Nat → Option Nat} {x : Int32} : RtK r q S (sI (sRP S q g) 449 r x) := by
  intro r' q' n' f' h1 h2 ⟨a1, a2, a3, a4, a5, a6, a7⟩
  exact ⟨a1, a2, a3, a4, by rw [gI_sI, if_neg (fun z => h1 z.2)]; exact a5, a6, fun i hi => by rw [rP_sI, rP_sRP, if_neg h2]; exact a7 i hi⟩
/-- only the route r's row and size have changed -/
def ScR (r q : Nat) (S S' : St) : Prop := ∃ (g : Nat → Option Nat) (v : Int32), S' = sI (sRP S q g) 449 r v
theorem ScR.rtk {r q : Nat} {S S' : St} (h : ScR r q S S') : RtK r q S S' := by
  obtain ⟨g, v, rfl⟩ := h
  exact rtk_put
theorem ScR.frx {c : Nat} {S S' : St} {T : Tb} (hc : c = 16 ∨ c = 18) (h : ScR (T c 0) (T (c + 1) 0) S S') : FrX T S S' := by
  obtain ⟨g, v, rfl⟩ := h
  refine ⟨fun _ => rfl, fun _ => rfl, fun f a _ hf => ?_, fun _ _ _ _ => rfl, fun _ _ _ _ => rfl, fun a h1 h2 => ?_⟩
  · rw [gI_sI, if_neg]; · rfl
    rintro ⟨rfl, rfl⟩
    have := hf rfl
    rcases hc with rfl | rfl
    · exact this.1 rfl
    · exact this.2 rfl
  · rw [rP_sI, rP_sRP, if_neg]
    rintro rfl
    rcases hc with rfl | rfl <;> contradiction
theorem CR.mkr (h : CR w S T α) {c n : Nat} {L : Nat → Nat} {g : Nat → Option Nat} (hc : c = 16 ∨ c = 18) (hn : n ≤ 13) (hg : ∀ j, j < n → g j = some (T 30 (L j))) (hL : ∀ j, j < n → L j < nP α) : FrX T S (sI (sRP S (T (c + 1) 0) g) 449 (T c 0) (nI n)) ∧ Rl (sI (sRP S (T (c + 1) 0) g) 449 (T c 0) (nI n)) T (T c 0) (T (c + 1) 0) n L := by
  refine ⟨⟨fun _ => rfl, fun _ => rfl, fun f a _ hf => ?_, fun _ _ _ _ => rfl, fun _ _ _ _ => rfl, fun a h1 h2 => ?_⟩, ?_, ?_, ?_, ?_, ?_, hn, fun i hi => ?_⟩
  · rw [gI_sI, if_neg]; · rfl
    rintro ⟨rfl, rfl⟩
    have := hf rfl
    rcases hc with rfl | rfl
    · exact this.1 rfl
    · exact this.2 rfl
  · rw [rP_sI, rP_sRP, if_neg]
    rintro rfl
    rcases hc with rfl | rfl <;> contradiction
  · rcases hc with rfl | rfl <;> exact h.k (cn1 (by decide))
  · rcases hc with rfl | rfl
    · exact h.lk (16, 448, 17) (by decide) (cn1 (by decide))
    · exact h.lk (18, 448, 19) (by decide) (cn1 (by decide))
  · rcases hc with rfl | rfl <;> exact h.k (cn1 (by decide))
  · rcases hc with rfl | rfl <;> exact h.lnn (cn1 (by decide)) (by decide)
  · rw [gI_sI, if_pos ⟨rfl, rfl⟩]
  · rw [rP_sI, rP_sRP, if_pos rfl]
    exact ⟨hg i hi, h.k (cnP (by decide) (by decide) (hL i hi))⟩
theorem c_copyX {c r2 q2 n : Nat} {L : Nat → Nat} (h : CR w S T α) (hc : c = 16 ∨ c = 18) (hR : Rl S T r2 q2 n L) (hL : ∀ j, j < n → L j < nP α) (h1 : r2 ≠ T c 0) (h2 : q2 ≠ T (c + 1) 0) :
    ConV l yX6_copy (wsOf yX6_copy cX6_copy 3 none) rX6_copy w S [.ref (T c 0), .ref r2] (fun S' => ScR (T c 0) (T (c + 1) 0) S S' ∧ Rl S' T (T c 0) (T (c + 1) 0) n L) := by
  have k1 : kd S (T c 0) = 8 := by rcases hc with rfl | rfl <;> exact h.k (cn1 (by decide))
  have k2 : gP S 448 (T c 0) = some (T (c + 1) 0) := by
    rcases hc with rfl | rfl
    · exact h.lk (16, 448, 17) (by decide) (cn1 (by decide))
    · exact h.lk (18, 448, 19) (by decide) (cn1 (by decide))
  have k3 : kd S (T (c + 1) 0) = 22 := by rcases hc with rfl | rfl <;> exact h.k (cn1 (by decide))
  have k4 : ln S (T (c + 1) 0) = 13 := by rcases hc with rfl | rfl <;> exact h.lnn (cn1 (by decide)) (by decide)
  refine conV_mono (c_copy hR k1 k2 k3 k4 h2 h1) (fun S' hq => ?_)
  obtain ⟨g, rfl, g2⟩ := hq
  obtain ⟨m1, m2⟩ := h.mkr hc hR.2.2.2.2.2.1 g2 hL
  exact ⟨⟨_, _, rfl⟩, m2⟩
theorem insF_L {T : Tb} {L : Nat → Nat} {k q j : Nat} : insF (fun i => T 30 (L i)) k (T 30 q) j = T 30 (insL L k q j) := by
  unfold insF insL
  split
  · rfl
  · split <;> rfl
theorem remF_L {T : Tb} {L : Nat → Nat} {k j : Nat} : remF (fun i => T 30 (L i)) k j = T 30 (remF L k j) := by
  unfold remF
  split <;> rfl
theorem revF_L {T : Tb} {L : Nat → Nat} {a b j : Nat} : revF (fun i => T 30 (L i)) a b j = T 30 (revF L a b j) := by
  unfold revF
  split <;> rfl
theorem insL_P {L : Nat → Nat} {k q n N : Nat} (hk : k ≤ n) (hL : ∀ j, j < n → L j < N) (hq : q < N) : ∀ j, j < n + 1 → insL L k q j < N := fun j hj => by
  rcases insL_mem (L := L) (q := q) hk hj with e | ⟨i, hi, e⟩
  · rw [e]; exact hq
  · rw [e]; exact hL i hi
theorem remF_P {L : Nat → Nat} {k n N : Nat} (hL : ∀ j, j < n → L j < N) : ∀ j, j < n - 1 → remF L k j < N := fun j hj => by
  obtain ⟨i, hi, -, e⟩ := remF_mem (f := L) (k := k) hj
  rw [e]; exact hL i hi
theorem revF_P {L : Nat → Nat} {a b n N : Nat} (hb : b < n) (hL : ∀ j, j < n → L j < N) : ∀ j, j < n → revF L a b j < N := fun j hj => by
  unfold revF
  split
  · exact hL _ (by omega)
  · exact hL j hj
theorem c_insX {c n k q : Nat} {L : Nat → Nat} (h : CR w S T α) (hc : c = 16 ∨ c = 18) (hR : Rl S T (T c 0) (T (c + 1) 0) n L) (hn : n ≤ 12) (hk : k ≤ n) (hL : ∀ j, j < n → L j < nP α) (hq : q < nP α) :
    ConV l yX6_insert (wsOf yX6_insert cX6_insert 4 none) rX6_insert w S [.ref (T c 0), .ref (T 30 q), .int (nI k)] (fun S' => ScR (T c 0) (T (c + 1) 0) S S' ∧ Rl S' T (T c 0) (T (c + 1) 0) (n + 1) (insL L k q)) := by
  refine conV_mono (c_insert hR hn hk (h.k (cnP (by decide) (by decide) hq))) (fun S' hp => ?_)
  obtain ⟨g, rfl, g2⟩ := hp
  obtain ⟨m1, m2⟩ := h.mkr hc (show n + 1 ≤ 13 by omega) (fun j hj => (g2 j hj).trans (congrArg some insF_L)) (insL_P hk hL hq)
  exact ⟨⟨_, _, rfl⟩, m2⟩
theorem c_remX {c n k q : Nat} {L : Nat → Nat} (h : CR w S T α) (hc : c = 16 ∨ c = 18) (hR : Rl S T (T c 0) (T (c + 1) 0) n L) (hk : k < n) (hL : ∀ j, j < n → L j < nP α) (hq : L k = q) (hu : ∀ j, j < n → L j = q → j = k) :
    ConV l yX6_remove (wsOf yX6_remove cX6_remove 4 none) rX6_remove w S [.ref (T c 0), .ref (T 30 q)] (fun S' => ScR (T c 0) (T (c + 1) 0) S S' ∧ Rl S' T (T c 0) (T (c + 1) 0) (n - 1) (remF L k)) := by
  have hqP : q < nP α := by rw [← hq]; exact hL k hk
  refine conV_mono (c_remove hR hk (congrArg (T 30) hq) (fun j hj e => hu j hj ((h.2.1 30 (L j) 30 q (cnP (by decide) (by decide) (hL j hj)) (cnP (by decide) (by decide) hqP) e).2))) (fun S' hp => ?_)
  obtain ⟨g, rfl, g2⟩ := hp
  have := hR.2.2.2.2.2.1
  obtain ⟨m1, m2⟩ := h.mkr hc (show n - 1 ≤ 13 by omega) (fun j hj => (g2 j hj).trans (congrArg some remF_L)) (remF_P hL)
  exact ⟨⟨_, _, rfl⟩, m2⟩
theorem c_turX {c n a b : Nat} {L : Nat → Nat} (h : CR w S T α) (hc : c = 16 ∨ c = 18) (hR : Rl S T (T c 0) (T (c + 1) 0) n L) (hb : b < n) (hab : a ≤ b) (hL : ∀ j, j < n → L j < nP α) :
    ConV l yX6_turn (wsOf yX6_turn cX6_turn 6 none) rX6_turn w S [.ref (T c 0), .int (nI a), .int (nI b)] (fun S' => ScR (T c 0) (T (c + 1) 0) S S' ∧ Rl S' T (T c 0) (T (c + 1) 0) n (revF L a b)) := by
  refine conV_mono (c_turn hR hb hab) (fun S' hp => ?_)
  obtain ⟨g, rfl, g2⟩ := hp
  have e : sRP S (T (c + 1) 0) g = sI (sRP S (T (c + 1) 0) g) 449 (T c 0) (nI n) := by
    have e2 : gI (sRP S (T (c + 1) 0) g) 449 (T c 0) = nI n := hR.2.2.2.2.1
    rw [← e2, sI_self]
  rw [e]
  exact ⟨⟨_, _, rfl⟩, (h.mkr hc hR.2.2.2.2.2.1 (fun j hj => (g2 j hj).trans (congrArg some revF_L)) (revF_P hb hL)).2⟩
theorem fits_iff {n v : Nat} {L : Nat → Nat} (h : CR w S T α) (hL : ∀ j, j < n → L j < nP α) : fitsS S (fun i => T 30 (L i)) n (α 910 v) ↔ fitsM α v n L := by
  have e : ∀ i, i < n → kfS S (fun i => T 30 (L i)) i = kD (fun i => pdat α (L i)) i ∧ vfS S (fun i => T 30 (L i)) i = vD (fun i => pdat α (L i)) i := fun i hi => by
    obtain ⟨⟨-, b2, b3, -⟩, -⟩ := h.pa (hL i hi)
    exact ⟨b2, b3⟩
  unfold fitsS fitsM
  rw [glk_congr n e, ld0_congr n e]
  exact Iff.rfl
theorem c_fitX {r q n v : Nat} {L : Nat → Nat} (h : CR w S T α) (hv : v < nV α) (hR : Rl S T r q n L) (hL : ∀ j, j < n → L j < nP α) :
    ConI l yX6_fits (wsOf yX6_fits cX6_fits 2 (some .boolean)) rX6_fits w S [.ref r, .int (gI S 705 (T 27 v))] (fun x S' => S = S' ∧ (x = 1 ∧ fitsM α v n L ∨ x = 0 ∧ ¬ fitsM α v n L)) := by
  rw [(h.va hv).2.1]
  refine conI_mono (c_fits hR) (fun x S' hq => ⟨hq.1, ?_⟩)
  rw [← fits_iff h hL]
  exact hq.2
end FOL2
