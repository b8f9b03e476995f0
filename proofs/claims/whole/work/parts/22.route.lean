/-- a route's row: n parcels, the i-th at the address f i -/
def Rt (S : St) (r q n : Nat) (f : Nat → Nat) : Prop := kd S r = 8 ∧ gP S 448 r = some q ∧ kd S q = 22 ∧ ln S q = 13 ∧ gI S 449 r = nI n ∧ n ≤ 13 ∧ ∀ i, i < n → rP S q i = some (f i) ∧ kd S (f i) = 5
/-- the load at the depot -/
def ld0 (kf vf : Nat → Int32) : Nat → Int32
  | 0 => 0
  | n + 1 => if kf n = 2 then ld0 kf vf n else ld0 kf vf n + vf n
/-- the load behind n stops, the greatest till then -/
def ldk (kf vf : Nat → Int32) (l0 : Int32) : Nat → Int32
  | 0 => l0
  | n + 1 => ldk kf vf l0 n + (if kf n = 2 then vf n else -(vf n))
def glk (kf vf : Nat → Int32) (l0 : Int32) : Nat → Int32
  | 0 => l0
  | n + 1 => if ldk kf vf l0 (n + 1) ≤ glk kf vf l0 n then glk kf vf l0 n else ldk kf vf l0 (n + 1)
def kfS (S : St) (f : Nat → Nat) (i : Nat) : Int32 := gI S 257 (f i)
def vfS (S : St) (f : Nat → Nat) (i : Nat) : Int32 := gI S 258 (f i)
theorem vp13 {S : St} {q i : Nat} (h : ln S q = 13) (hi : i < 13) : vp_in (nI i) (ln S q) := by rw [h]; exact vp_in_nI hi (by decide)
theorem nI_m1 {i : Nat} (h : 0 < i) : nI i + (-1) = nI (i - 1) := sb_m1 h
theorem nI_s1 {i : Nat} (h : 0 < i) : nI i - 1 = nI (i - 1) := by
  have := pk_sub (a := i) (b := 1) (by omega)
  exact this
section C2
variable {l : Launch} {w : Wd} {S : St}
theorem c_at {r q n i : Nat} {f : Nat → Nat} (h : Rt S r q n f) (hi : i < n) : ConR l yX6_at (wsOf yX6_at cX6_at 2 (some (.object "LastMile$Parcel"))) rX6_at w S [.ref r, .int (nI i)] (fun x S' => S = S' ∧ x = f i) := by
  obtain ⟨h1, h2, h3, h4, h5, h6, h7⟩ := h
  refine con_R (by decide +kernel) rfl (Nat.le_of_ble_eq_true rfl) (fun p e s m args below meth c B => ?_)
  exact bX6_at_0 B h1 h2 h3 (vp13 h4 (by omega)) (by rw [nI_clamp (by omega)]; exact (h7 i hi).1) ⟨rfl, rfl⟩
end C2
section L2
variable {p : Program} {l : Launch} {e : Env} {s : State} {m : MethodId} {args : Array Value} {below : List Frame} {meth : Method} {c : Code} {w : Wd} {S : St}
theorem l_loadAtDepot (B : Bd p s m args meth c cX6_loadAtDepot 3 (wsOf yX6_loadAtDepot cX6_loadAtDepot 3 (some .int)) RX6 w (some .int) "loadAtDepot") {Q : State → Prop} {r q n : Nat} {f : Nat → Nat} (h : Rt S r q n f) (hx : K p l e rX6_loadAtDepot s m args below meth c 3 w 0 0 Q S 43 [(1, .int (ld0 (kfS S f) (vfS S f) n))] []) : ∀ k i, i + k = n → K p l e rX6_loadAtDepot s m args below meth c 3 w 0 0 Q S 4 [(0, .ref r), (1, .int (ld0 (kfS S f) (vfS S f) i)), (2, .int (nI i))] [] := by
  obtain ⟨h1, h2, h3, h4, h5, h6, h7⟩ := h
  intro k
  induction k with
  | zero =>
    intro i hi
    refine bX6_loadAtDepot_4 B h1 (fun _ => ?_) (fun c => absurd (by rw [h5, show n = i by omega]; exact Int32.le_refl _) c)
    rw [show i = n by omega]
    exact hx
  | succ k ih =>
    intro i hi
    have hin : i < n := by omega
    have g1 : vp_in (nI i) (ln S q) := vp13 h4 (by omega)
    have g2 : rP S q (nI i).toNatClampNeg = some (f i) := by rw [nI_clamp (by omega)]; exact (h7 i hin).1
    have g3 := (h7 i hin).2
    have go := ih (i + 1) (by omega)
    refine bX6_loadAtDepot_4 B h1 (fun c => absurd c (by rw [h5]; exact nI_ge hin (by omega))) (fun _ => ?_)
    refine bX6_loadAtDepot_12 B h1 h2 h3 g1 g2 g3 (fun c => ?_) (fun c => ?_)
    · refine bX6_loadAtDepot_37 B ?_
      rw [nI_1]
      rw [show ld0 (kfS S f) (vfS S f) (i + 1) = ld0 (kfS S f) (vfS S f) i from if_pos c] at go
      exact go
    · refine bX6_loadAtDepot_25 B h1 h2 h3 g1 g2 g3 (bX6_loadAtDepot_37 B ?_)
      rw [nI_1]
      rw [show ld0 (kfS S f) (vfS S f) (i + 1) = ld0 (kfS S f) (vfS S f) i + vfS S f i from if_neg c] at go
      exact go
theorem l_greatestLoad (B : Bd p s m args meth c cX6_greatestLoad 4 (wsOf yX6_greatestLoad cX6_greatestLoad 4 (some .int)) RX6 w (some .int) "greatestLoad") {Q : State → Prop} {r q n : Nat} {f : Nat → Nat} (h : Rt S r q n f) {l0 : Int32} (hx : K p l e rX6_greatestLoad s m args below meth c 4 w 0 0 Q S 68 [(2, .int (glk (kfS S f) (vfS S f) l0 n))] []) : ∀ k i, i + k = n → K p l e rX6_greatestLoad s m args below meth c 4 w 0 0 Q S 9 [(0, .ref r), (1, .int (ldk (kfS S f) (vfS S f) l0 i)), (2, .int (glk (kfS S f) (vfS S f) l0 i)), (3, .int (nI i))] [] := by
  obtain ⟨h1, h2, h3, h4, h5, h6, h7⟩ := h
  intro k
  induction k with
  | zero =>
    intro i hi
    refine bX6_greatestLoad_9 B h1 (fun _ => ?_) (fun c => absurd (by rw [h5, show n = i by omega]; exact Int32.le_refl _) c)
    rw [show i = n by omega]
    exact hx
  | succ k ih =>
    intro i hi
    have hin : i < n := by omega
    have g1 : vp_in (nI i) (ln S q) := vp13 h4 (by omega)
    have g2 : rP S q (nI i).toNatClampNeg = some (f i) := by rw [nI_clamp (by omega)]; exact (h7 i hin).1
    have g3 := (h7 i hin).2
    have go := ih (i + 1) (by omega)
    have tail : ∀ x : Int32, ldk (kfS S f) (vfS S f) l0 (i + 1) = ldk (kfS S f) (vfS S f) l0 i + x → K p l e rX6_greatestLoad s m args below meth c 4 w 0 0 Q S 53 [(0, .ref r), (2, .int (glk (kfS S f) (vfS S f) l0 i)), (3, .int (nI i))] [.int x, .int (ldk (kfS S f) (vfS S f) l0 i)] := by
      intro x ex
      have eg : glk (kfS S f) (vfS S f) l0 (i + 1) = if ldk (kfS S f) (vfS S f) l0 (i + 1) ≤ glk (kfS S f) (vfS S f) l0 i then glk (kfS S f) (vfS S f) l0 i else ldk (kfS S f) (vfS S f) l0 (i + 1) := rfl
      refine bX6_greatestLoad_53 B (fun c => ?_) (fun c => ?_)
      · refine bX6_greatestLoad_62 B ?_
        rw [nI_1]
        rw [eg, ex, if_pos c] at go
        exact go
      · refine bX6_greatestLoad_60 B (bX6_greatestLoad_62 B ?_)
        rw [nI_1]
        rw [eg, ex, if_neg c] at go
        exact go
    refine bX6_greatestLoad_9 B h1 (fun c => absurd c (by rw [h5]; exact nI_ge hin (by omega))) (fun _ => ?_)
    refine bX6_greatestLoad_17 B h1 h2 h3 g1 g2 g3 (fun c => ?_) (fun c => ?_)
    · refine bX6_greatestLoad_43 B h1 h2 h3 g1 g2 g3 (tail _ ?_)
      exact congrArg (fun z => ldk (kfS S f) (vfS S f) l0 i + z) (if_neg c)
    · refine bX6_greatestLoad_31 B h1 h2 h3 g1 g2 g3 (tail _ ?_)
      exact congrArg (fun z => ldk (kfS S f) (vfS S f) l0 i + z) (if_pos c)
end L2
section C3
variable {l : Launch} {w : Wd} {S : St}
theorem c_loadAtDepot {r q n : Nat} {f : Nat → Nat} (h : Rt S r q n f) : ConI l yX6_loadAtDepot (wsOf yX6_loadAtDepot cX6_loadAtDepot 3 (some .int)) rX6_loadAtDepot w S [.ref r] (fun x S' => S = S' ∧ x = ld0 (kfS S f) (vfS S f) n) := by
  refine con_I (by decide +kernel) rfl (Nat.le_of_ble_eq_true rfl) (fun p e s m args below meth c B => ?_)
  exact bX6_loadAtDepot_0 B (l_loadAtDepot B h (bX6_loadAtDepot_43 B ⟨rfl, rfl⟩) n 0 (by omega))
theorem c_greatestLoad {r q n : Nat} {f : Nat → Nat} (h : Rt S r q n f) : ConI l yX6_greatestLoad (wsOf yX6_greatestLoad cX6_greatestLoad 4 (some .int)) rX6_greatestLoad w S [.ref r] (fun x S' => S = S' ∧ x = glk (kfS S f) (vfS S f) (ld0 (kfS S f) (vfS S f) n) n) := by
  refine con_I (by decide +kernel) rfl (Nat.le_of_ble_eq_true rfl) (fun p e s m args below meth c B => ?_)
  refine bX6_greatestLoad_0 B (c_loadAtDepot h) h.1 (fun r S' hp => ?_)
  obtain ⟨rfl, rfl⟩ := hp
  exact bX6_greatestLoad_4 B (l_greatestLoad B h (bX6_greatestLoad_68 B ⟨rfl, rfl⟩) n 0 (by omega))
/-- a route is possible -/
def fitsS (S : St) (f : Nat → Nat) (n : Nat) (room : Int32) : Prop := n ≤ 12 ∧ ¬ room < glk (kfS S f) (vfS S f) (ld0 (kfS S f) (vfS S f) n) n
theorem c_fits {r q n : Nat} {f : Nat → Nat} {room : Int32} (h : Rt S r q n f) : ConI l yX6_fits (wsOf yX6_fits cX6_fits 2 (some .boolean)) rX6_fits w S [.ref r, .int room] (fun x S' => S = S' ∧ (x = 1 ∧ fitsS S f n room ∨ x = 0 ∧ ¬ fitsS S f n room)) := by
  refine con_I (by decide +kernel) rfl (Nat.le_of_ble_eq_true rfl) (fun p e s m args below meth c B => ?_)
  have e5 := h.2.2.2.2.1
  have e6 := h.2.2.2.2.2.1
  refine bX6_fits_0 B h.1 (fun c => ?_) (fun c => ?_)
  · refine bX6_fits_21 B (bX6_fits_22 B (Or.inl rfl) ⟨rfl, Or.inr ⟨rfl, fun z => ?_⟩⟩)
    rw [e5] at c
    exact nI_nlt (a := 12) (b := n) z.1 (by decide) c
  · refine bX6_fits_9 B (c_greatestLoad h) h.1 (fun x S' hp => ?_)
    obtain ⟨rfl, rfl⟩ := hp
    have hn : n ≤ 12 := by
      rcases Nat.lt_or_ge 12 n with z | z
      · exact absurd (by rw [e5]; exact nI_lt z (by omega)) c
      · exact z
    refine bX6_fits_13 B (fun c2 => ?_) (fun c2 => ?_)
    · exact bX6_fits_21 B (bX6_fits_22 B (Or.inl rfl) ⟨rfl, Or.inr ⟨rfl, fun z => z.2 c2⟩⟩)
    · exact bX6_fits_17 B (bX6_fits_22 B (Or.inr rfl) ⟨rfl, Or.inl ⟨rfl, hn, c2⟩⟩)
end C3
