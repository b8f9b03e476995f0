/-! THE CHECKSUM -/
def mx (d : Int64) (x : Int32) : Int64 := d * 31 + x.toInt64
def dgN (f : Nat → Int32) (d0 : Int64) : Nat → Int64
  | 0 => d0
  | j + 1 => mx (dgN f d0 j) (f j)
def dgH (α : Ab) (d0 : Int64) : Nat → Int64
  | 0 => d0
  | h + 1 => dgN (fun k => α 905 (3 * h + k)) (dgN (homV α h) (dgH α d0 h) 6) (cl (α 904 h))
def dgL (α : Ab) (d0 : Int64) : Nat → Int64
  | 0 => d0
  | k + 1 => dgN (locV α k) (dgL α d0 k) 6
def dgP (α : Ab) (d0 : Int64) : Nat → Int64
  | 0 => d0
  | q + 1 => dgN (parV α q) (dgP α d0 q) 9
def dgV (α : Ab) (d0 : Int64) : Nat → Int64
  | 0 => d0
  | v + 1 => dgN (fun k => α 841 (12 * v + k)) (dgN (vanV α v) (dgV α d0 v) 10) (mny α v)
def dgA (α : Ab) : Int64 := mx (mx (dgN (α 897) (dgN (cntV α) 859 12) 24) (α 898 0)) (α 899 0)
def digD (α : Ab) : Int64 := dgV α (dgP α (dgL α (dgH α (dgA α) (nH α)) (nL α)) (nP α)) (nV α)
section MDG
variable {p : Program} {l : Launch} {e : Env} {s : State} {m : MethodId} {args : Array Value} {below : List Frame} {meth : Method} {c : Code} {w : Wd} {S : St}
theorem l_dgCount (B : Bd p s m args meth c cX13_digest 5 (wsOf yX13_digest cX13_digest 5 (some .long)) RX13 w (some .long) "digest") {Q : State → Prop} {m0 s0 ah : Nat} {d0 : Int64} {A : Nat → Nat} {α : Ab} (hA : AI1 α)
    (hx : ∀ S' β, MR S' m0 s0 ah A β → FrH 0 α β → K p l e rX13_digest s m args below meth c 5 w 12 144 Q S' 36 [(0, .ref m0), (1, .long (dgN (cntV α) d0 12))] []) :
    ∀ d j, j + d = 12 → ∀ S β, MR S m0 s0 ah A β → FrH 0 α β → K p l e rX13_digest s m args below meth c 5 w j (12 * j) Q S 11 [(0, .ref m0), (1, .long (dgN (cntV α) d0 j)), (3, .int (nI j))] [] := by
  intro d
  induction d with
  | zero =>
    intro j hj S β h f
    have hj : j = 12 := by omega
    subst hj
    exact bX13_digest_11 B (fun _ => hx S β h f) (fun c => absurd (by decide) c)
  | succ d ih =>
    intro j hj S β h f
    have go := ih (j + 1) (by omega)
    refine bX13_digest_11 B (fun c => absurd c (by rw [show (11 : Int32) = nI 11 from rfl]; exact nI_nlt (by omega) (by omega))) (fun _ => ?_)
    refine bX13_digest_17 B (c_counted h (hA.congr f.1) (by omega)) (by show j + 1 ≤ rX13_digest.cells; exact Nat.le_trans (show j + 1 ≤ 12 by omega) (Nat.le_of_ble_eq_true rfl)) (by exact Nat.le_trans (show 12 * j + 12 ≤ 144 by omega) (Nat.le_of_ble_eq_true rfl)) h.1.1 (fun r S2 hq2 => ?_)
    obtain ⟨rfl, γ, k2, k3⟩ := hq2
    refine bX13_digest_27 B ?_
    rw [nI_1, cntV_congr f.1]
    exact go S2 γ k2 ⟨f.1.tr k3.m, by rw [k3 896 rfl]; exact f.2⟩
theorem l_dgSlow (B : Bd p s m args meth c cX13_digest 5 (wsOf yX13_digest cX13_digest 5 (some .long)) RX13 w (some .long) "digest") {Q : State → Prop} {m0 s0 ah ka na : Nat} {d0 : Int64} {A : Nat → Nat} {α β : Ab} (h : MR S m0 s0 ah A β) (f : FrM α β)
    (hx : K p l e rX13_digest s m args below meth c 5 w ka na Q S 64 [(0, .ref m0), (1, .long (dgN (α 897) d0 24))] []) :
    ∀ d j, j + d = 24 → K p l e rX13_digest s m args below meth c 5 w ka na Q S 38 [(0, .ref m0), (1, .long (dgN (α 897) d0 j)), (3, .int (nI j))] [] := by
  obtain ⟨a1, a2, a3, a4⟩ := h.ar 897 (by decide)
  intro d
  induction d with
  | zero =>
    intro j hj
    have hj : j = 24 := by omega
    subst hj
    exact bX13_digest_38 B (fun _ => hx) (fun c => absurd (by decide) c)
  | succ d ih =>
    intro j hj
    have go := ih (j + 1) (by omega)
    refine bX13_digest_38 B (fun c => absurd c (by rw [show (24 : Int32) = nI 24 from rfl]; exact nI_ge (by omega) (by omega))) (fun _ => ?_)
    refine bX13_digest_44 B h.1.1 a1 a2 (by rw [a3]; exact vp_in_nI (show j < 24 by omega) (by decide)) ?_
    rw [a4, nI_clamp (by omega), f 897 rfl, nI_1]
    exact go
end MDG
