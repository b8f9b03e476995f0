/-! ADDING A THING: what was there stays, the picture grows by one -/
def Old (S S' : St) : Prop := ∀ b, kd S b ≠ 0 → kd S' b = kd S b ∧ ln S' b = ln S b ∧ rI S' b = rI S b ∧ rP S' b = rP S b ∧ (∀ g, gI S' g b = gI S g b) ∧ ∀ g, gP S' g b = gP S g b
section OLD
variable {S S1 S2 : St} {q : Nat}
theorem Old.rf : Old S S := fun _ _ => ⟨rfl, rfl, rfl, rfl, fun _ => rfl, fun _ => rfl⟩
theorem Old.new (h : Old S S1) (hq : kd S q = 0) (k n : Nat) : Old S (nw S1 q k n) := fun b hb => by
  have hne : b ≠ q := fun z => hb (by rw [z]; exact hq)
  obtain ⟨a1, a2, a3, a4, a5, a6⟩ := h b hb
  exact ⟨by rw [kd_nw, if_neg hne]; exact a1, by rw [ln_nw, if_neg hne]; exact a2, by rw [rI_nw, if_neg hne]; exact a3, by rw [rP_nw, if_neg hne]; exact a4, fun g => by rw [gI_nw, if_neg hne]; exact a5 g, fun g => by rw [gP_nw, if_neg hne]; exact a6 g⟩
theorem Old.si (h : Old S S1) (hq : kd S q = 0) (f : Nat) (x : Int32) : Old S (sI S1 f q x) := fun b hb => by
  have hne : b ≠ q := fun z => hb (by rw [z]; exact hq)
  obtain ⟨a1, a2, a3, a4, a5, a6⟩ := h b hb
  exact ⟨a1, a2, a3, a4, fun g => by rw [gI_sI, if_neg (fun z => hne z.2)]; exact a5 g, a6⟩
theorem Old.sp (h : Old S S1) (hq : kd S q = 0) (f : Nat) (x : Option Nat) : Old S (sP S1 f q x) := fun b hb => by
  have hne : b ≠ q := fun z => hb (by rw [z]; exact hq)
  obtain ⟨a1, a2, a3, a4, a5, a6⟩ := h b hb
  exact ⟨a1, a2, a3, a4, a5, fun g => by rw [gP_sP, if_neg (fun z => hne z.2)]; exact a6 g⟩
theorem Old.sri (h : Old S S1) (hq : kd S q = 0) (f : Nat → Int32) : Old S (sRI S1 q f) := fun b hb => by
  have hne : b ≠ q := fun z => hb (by rw [z]; exact hq)
  obtain ⟨a1, a2, a3, a4, a5, a6⟩ := h b hb
  exact ⟨a1, a2, by rw [rI_sRI, if_neg hne]; exact a3, a4, a5, a6⟩
theorem Old.k0 (h : Old S S1) (hq : kd S1 q = 0) : kd S q = 0 := by
  rcases Nat.eq_zero_or_pos (kd S q) with z | z
  · exact z
  · have := (h q (by omega)).1; omega
end OLD
theorem k_wE {p : Program} {l : Launch} {e : Env} {R : Room} {s : State} {m : MethodId} {args : Array Value} {below : List Frame} {meth : Method} {c : Code} {nL : Nat} {w : Wd} {k n : Nat} {Q : State → Prop} {S : St} {pc : Nat} {lst : List (Nat × Value)} {st : List Value} {cc : ByteArray} {Ts : List Cond} {own : String} {ret : Option FieldType} {nm : String}
    (B : Bd p s m args meth c cc nL Ts own w ret nm) (kk : (∀ a, kd S a ≠ 0 → a ≠ wE w) → K p l e R s m args below meth c nL w k n Q S pc lst st) : K p l e R s m args below meth c nL w k n Q S pc lst st := fun H locs ls h1 h2 h3 => by
  obtain ⟨L, g1, g2, g3⟩ := id h1
  refine kk (fun a ha z => ?_) H locs ls h1 h2 h3
  obtain ⟨cell, -, -, -, -, -, -, hz⟩ := B.2.2.2.1.2.1.2
  obtain ⟨q0, hq⟩ := va_pl_get (X := wX w) (f := cellOf w S) (g1 a ha)
  exact hz (z ▸ g3.2 q0 _ hq)
/-- the components of the things of the list j -/
def wid : Nat → Nat | 0 => 3 | 1 => 4 | 2 => 3 | _ => 2
def Inj (j c : Nat) : Prop := fam j ≤ c ∧ c < fam j + wid j
def NewT (j : Nat) (S : St) (T : Tb) (α : Ab) (n : Nat) : Prop := match j with | 0 => Hm S T α n | 1 => Lo S T α n | 2 => Va S T α n | _ => Pa S T α n
/-- the same values at the old places -/
def VIo (α β : Ab) : Prop := (α 897 = β 897 ∧ α 898 0 = β 898 0 ∧ α 899 0 = β 899 0 ∧ α 832 0 = β 832 0) ∧
  (∀ i, i < nH α → α 901 i = β 901 i ∧ α 902 i = β 902 i ∧ α 903 i = β 903 i ∧ α 904 i = β 904 i ∧ ∀ k, k < 3 → α 905 (3 * i + k) = β 905 (3 * i + k)) ∧
  (∀ k, k < nL α → α 907 k = β 907 k ∧ α 908 k = β 908 k ∧ ∀ b, b < 3 → α 839 (3 * k + b) = β 839 (3 * k + b)) ∧
  (∀ v, v < nV α → α 910 v = β 910 v ∧ α 911 v = β 911 v ∧ α 912 v = β 912 v ∧ mny β v = mny α v ∧ ∀ k, k < mny α v → rwf β v k = rwf α v k) ∧
  ∀ q, q < nP α → (α 914 q = β 914 q ∧ α 915 q = β 915 q ∧ α 916 q = β 916 q ∧ α 917 q = β 917 q ∧ α 918 q = β 918 q) ∧ α 834 q = β 834 q ∧ α 835 q = β 835 q ∧ α 836 q = β 836 q ∧ α 837 q = β 837 q ∧ α 838 q = β 838 q
theorem Inj.n4 {j c : Nat} (hj : j < 4) (h : Inj j c) : 20 ≤ c ∧ c < 32 := by
  unfold Inj fam wid at h
  rcases j with _ | _ | _ | _ | j <;> simp only at h <;> omega
theorem cnt_inj {α : Ab} {j c : Nat} (hj : j < 4) (h : Inj j c) : cCnt α c = cCnt α (fam j) := by
  unfold Inj fam wid at h
  unfold cCnt fam
  rcases j with _ | _ | _ | _ | j <;> simp only at h ⊢
  · rw [if_neg (by omega), if_pos (by omega)]; rfl
  · rw [if_neg (by omega), if_neg (by omega), if_pos (by omega)]; rfl
  · rw [if_neg (by omega), if_neg (by omega), if_neg (by omega), if_pos (by omega)]; rfl
  · rw [if_neg (by omega), if_neg (by omega), if_neg (by omega), if_neg (by omega), if_pos (by omega)]; rfl
  · omega
theorem LK_grp : ∀ t ∈ LK, ((t.1 < 20 ∧ t.2.2 < 20) ∨ (20 ≤ t.1 ∧ t.1 < 23 ∧ 20 ≤ t.2.2 ∧ t.2.2 < 23) ∨ (23 ≤ t.1 ∧ t.1 < 27 ∧ 23 ≤ t.2.2 ∧ t.2.2 < 27) ∨ (27 ≤ t.1 ∧ t.1 < 30 ∧ 27 ≤ t.2.2 ∧ t.2.2 < 30) ∨ (30 ≤ t.1 ∧ t.1 < 32 ∧ 30 ≤ t.2.2 ∧ t.2.2 < 32)) ∧ t.2.1 ≠ 1 := by decide
theorem LK_cnt {α : Ab} {t : Nat × Nat × Nat} (ht : t ∈ LK) : cCnt α t.2.2 = cCnt α t.1 := by
  have g := (LK_grp t ht).1
  unfold cCnt
  rcases g with g | g | g | g | g
  · rw [if_pos g.1, if_pos g.2]
  · rw [if_neg (by omega), if_pos (by omega), if_neg (by omega), if_pos (by omega)]
  · rw [if_neg (by omega), if_neg (by omega), if_pos (by omega), if_neg (by omega), if_neg (by omega), if_pos (by omega)]
  · rw [if_neg (by omega), if_neg (by omega), if_neg (by omega), if_pos (by omega), if_neg (by omega), if_neg (by omega), if_neg (by omega), if_pos (by omega)]
  · rw [if_neg (by omega), if_neg (by omega), if_neg (by omega), if_neg (by omega), if_pos (by omega), if_neg (by omega), if_neg (by omega), if_neg (by omega), if_neg (by omega), if_pos (by omega)]
theorem LK_inj {j : Nat} (hj : j < 4) {t : Nat × Nat × Nat} (ht : t ∈ LK) (h : Inj j t.1) : Inj j t.2.2 := by
  have g := (LK_grp t ht).1
  unfold Inj fam wid at h ⊢
  rcases j with _ | _ | _ | _ | j <;> simp only at h ⊢ <;> omega
theorem cKd_22 : ∀ c, c < 32 → cKd c ≠ 23 := by decide
theorem fam_inj {j : Nat} : Inj j (fam j) := ⟨Nat.le_refl _, by unfold wid; split <;> omega⟩
theorem Ls.em {w : Wd} {S : St} {a ea N n ci : Nat} {f : Nat → Nat} (h : Ls w S a ea N n ci f) : kd S ea = 23 ∨ ea = wE w := by
  rcases h.2.2.2.1 with z | z
  · exact Or.inl z.1
  · rcases h.2.2.2.2.2.1 with y | y
    · exact Or.inr y.2
    · have := z.2; omega
section EXT
variable {w : Wd} {S S1 S2 : St} {T : Tb} {α β : Ab} {u : Nat → Nat} {j : Nat}
/-- the table with one thing more -/
def exT (T : Tb) (α : Ab) (j : Nat) (u : Nat → Nat) (eb : Nat) : Tb := fun c i => if c = 32 + j then eb else if (fam j ≤ c ∧ c < fam j + wid j) ∧ i = cCnt α c then u c else T c i
theorem exT_old {eb c i : Nat} (hi : i < cCnt α c) : exT T α j u eb c i = T c i := by
  unfold exT
  rw [if_neg (by have := cnt_lt hi; omega), if_neg (fun z => by have := z.2; omega)]
theorem exT_new {eb c : Nat} (hj : j < 4) (hc : Inj j c) : exT T α j u eb c (cCnt α c) = u c := by
  unfold exT
  rw [if_neg (by have := hc.n4 hj; omega), if_pos ⟨hc, rfl⟩]
theorem exT_arr {eb j' : Nat} (hj : j < 4) (hne : j' ≠ j) : exT T α j u eb (32 + j') 0 = T (32 + j') 0 := by
  unfold exT
  rw [if_neg (by omega), if_neg (fun z => by have := Inj.n4 hj z.1; omega)]
theorem CR.ext (h : CR w S T α) (hA : AIz α) (hj : j < 4) (hwE : ∀ a, kd S2 a ≠ 0 → a ≠ wE w)
    (hc : ∀ c, ¬ Inj j c → cCnt β c = cCnt α c) (hc1 : ∀ c, Inj j c → cCnt β c = cCnt α c + 1)
    (ho : Old S S1) (hu : ∀ c, Inj j c → kd S (u c) = 0 ∧ kd S1 (u c) = cKd c ∧ (21 ≤ cKd c → ln S1 (u c) = cLn c))
    (hd : ∀ c c', Inj j c → Inj j c' → u c = u c' → c = c') (hl : ∀ t ∈ LK, Inj j t.1 → gP S1 t.2.1 (u t.1) = some (u t.2.2))
    (ha : LAd w (T (4 + j) 0) (T (32 + j) 0) (cCnt α (fam j)) (fci j) (u (fam j)) (T (fam j)) S1 S2) (hv : VIo α β) (hvo : ∀ q, q < nP α → vof β q = vof α q)
    (hn : ∀ T', (∀ c, Inj j c → T' c (cCnt α c) = u c) → (∀ c i, i < cCnt α c → T' c i = T c i) → (∀ c, Inj j c → (∀ g, gI S2 g (u c) = gI S1 g (u c)) ∧ (∀ g, gP S2 g (u c) = gP S1 g (u c)) ∧ rI S2 (u c) = rI S1 (u c)) → NewT j S2 T' β (cCnt α (fam j))) :
    ∃ T', T' 0 0 = T 0 0 ∧ CR w S2 T' β := by
  obtain ⟨eb, N', l1, l2, l3⟩ := ha
  have n0 : ∀ c i, i < cCnt α c → kd S (T c i) ≠ 0 := fun c i hi => h.k0 hi
  obtain ⟨N, hL⟩ := h.ls hj
  have F0 : ∀ b, kd S b ≠ 0 → kd S2 b = kd S b ∧ ln S2 b = ln S b ∧ rI S2 b = rI S b ∧ (b ≠ T (32 + j) 0 → rP S2 b = rP S b) ∧ (b ≠ T (4 + j) 0 → ∀ g, gI S2 g b = gI S g b) ∧ ∀ g, (b = T (4 + j) 0 → g ≠ 1) → gP S2 g b = gP S g b := fun b hb => by
    obtain ⟨a1, a2, a3, a4, a5, a6⟩ := ho b hb
    obtain ⟨b1, b2, b3, b4, b5, b6⟩ := l3 b (by rw [a1]; exact hb)
    exact ⟨b1.trans a1, b2.trans a2, b3.trans a3, fun z => (b4 z).trans a4, fun z g => (b5 g (fun y => absurd y z)).trans (a5 g), fun g hg => (b6 g hg).trans (a6 g)⟩
  have nea : ∀ b, kd S b ≠ 0 → kd S b ≠ 23 → b ≠ T (32 + j) 0 := fun b hb hb2 z => by
    rcases hL.em with y | y
    · rw [← z] at y; exact hb2 y
    · exact hwE b (by rw [(F0 b hb).1]; exact hb) (z.trans y)
  have F : ∀ c i, i < cCnt α c → kd S2 (T c i) = kd S (T c i) ∧ ln S2 (T c i) = ln S (T c i) ∧ rI S2 (T c i) = rI S (T c i) ∧ rP S2 (T c i) = rP S (T c i) ∧ (c ≠ 4 + j → ∀ g, gI S2 g (T c i) = gI S g (T c i)) ∧ ∀ g, g ≠ 1 → gP S2 g (T c i) = gP S g (T c i) := fun c i hi => by
    obtain ⟨a1, a2, a3, a4, a5, a6⟩ := F0 (T c i) (n0 c i hi)
    exact ⟨a1, a2, a3, a4 (nea _ (n0 c i hi) (by rw [h.k hi]; exact cKd_22 c (cnt_lt hi))), fun z => a5 (h.ne hi (cn1 (by omega)) (Or.inl z)), fun g hg => a6 g (fun _ => hg)⟩
  have un : ∀ c, Inj j c → u c ≠ T (4 + j) 0 := fun c hi z => by
    have := (hu c hi).1
    rw [z] at this
    exact n0 (4 + j) 0 (cn1 (by omega)) this
  have G : ∀ c, Inj j c → kd S2 (u c) = cKd c ∧ (21 ≤ cKd c → ln S2 (u c) = cLn c) ∧ (∀ g, gI S2 g (u c) = gI S1 g (u c)) ∧ (∀ g, gP S2 g (u c) = gP S1 g (u c)) ∧ rI S2 (u c) = rI S1 (u c) := fun c hi => by
    obtain ⟨a1, a2, a3⟩ := hu c hi
    obtain ⟨b1, b2, b3, -, b5, b6⟩ := l3 (u c) (by rw [a2]; exact cKd_pos c (hi.n4 hj).2)
    exact ⟨b1.trans a2, fun z => b2.trans (a3 z), fun g => b5 g (fun y => absurd y (un c hi)), fun g => b6 g (fun y => absurd y (un c hi)), b3⟩
  have cas : ∀ c i, i < cCnt β c → i < cCnt α c ∨ (Inj j c ∧ i = cCnt α c) := fun c i hi => by
    by_cases z : Inj j c
    · rw [hc1 c z] at hi
      rcases Nat.lt_or_ge i (cCnt α c) with y | y
      · exact Or.inl y
      · exact Or.inr ⟨z, by omega⟩
    · rw [hc c z] at hi; exact Or.inl hi
  have hlt : ∀ c, c < 20 → ¬ Inj j c := fun c hc' z => by have := z.n4 hj; omega
  refine ⟨exT T α j u eb, exT_old (cn1 (by decide)), fun c i hi => ?_, fun c i c' i' hi hi' e1 => ?_, fun t ht i hi => ?_, ⟨fun j' hj' => ?_, fun j1 j2 h1 h2 hk e1 => ?_⟩, ?_, fun i hi => ?_, fun i hi => ?_, fun i hi => ?_, fun i hi => ?_⟩
  · rcases cas c i hi with z | ⟨z, rfl⟩
    · rw [exT_old z]
      obtain ⟨a1, a2, -⟩ := F c i z
      exact ⟨a1.trans (h.k z), fun y => a2.trans (h.lnn z y)⟩
    · rw [exT_new hj z]
      exact ⟨(G c z).1, (G c z).2.1⟩
  · rcases cas c i hi with z | ⟨z, rfl⟩ <;> rcases cas c' i' hi' with z' | ⟨z', rfl⟩
    · rw [exT_old z, exT_old z'] at e1; exact h.2.1 c i c' i' z z' e1
    · rw [exT_old z, exT_new hj z'] at e1
      exact absurd (e1 ▸ (hu c' z').1 : kd S (T c i) = 0) (n0 c i z)
    · rw [exT_new hj z, exT_old z'] at e1
      exact absurd (e1 ▸ (hu c z).1 : kd S (T c' i') = 0) (n0 c' i' z')
    · rw [exT_new hj z, exT_new hj z'] at e1
      have := hd c c' z z' e1
      subst this
      exact ⟨rfl, rfl⟩
  · rcases cas t.1 i hi with z | ⟨z, rfl⟩
    · rw [exT_old z, exT_old (by rw [LK_cnt ht]; exact z), (F t.1 i z).2.2.2.2.2 _ (LK_grp t ht).2]
      exact h.lk t ht z
    · rw [exT_new hj z, ← LK_cnt ht, exT_new hj (LK_inj hj ht z), (G _ z).2.2.2.1]
      exact hl t ht z
  · by_cases hjj : j' = j
    · subst hjj
      refine ⟨N', ?_⟩
      rw [exT_old (cn1 (by omega)), show exT T α j' u eb (32 + j') 0 = eb from if_pos rfl, hc1 _ fam_inj]
      obtain ⟨m1, m2, m3, m4, m5, m6, m7⟩ := l1
      refine ⟨m1, m2, m3, m4, m5, m6, fun i hi => ?_⟩
      have e2 : exT T α j' u eb (fam j') i = adF (T (fam j')) (cCnt α (fam j')) (u (fam j')) i := by
        rcases Nat.lt_or_ge i (cCnt α (fam j')) with y | y
        · rw [exT_old y, adF_lt y]
        · have : i = cCnt α (fam j') := by omega
          rw [this, exT_new hj fam_inj, adF_n]
      rw [e2]; exact m7 i hi
    · obtain ⟨M, g1, g2, g3, g4, g5, g6, g7⟩ := h.ls hj'
      have c1 : 0 < cCnt α (4 + j') := cn1 (by omega)
      obtain ⟨a1, a2, a3, a4, a5, a6⟩ := F0 (T (4 + j') 0) (n0 _ _ c1)
      have ne1' : T (4 + j') 0 ≠ T (4 + j) 0 := h.ne c1 (cn1 (by omega)) (Or.inl (by omega))
      refine ⟨M, ?_⟩
      have ninj : ¬ Inj j (fam j') := fun z => by
        unfold Inj fam wid at z
        rcases j with _ | _ | _ | _ | j <;> rcases j' with _ | _ | _ | _ | j' <;> simp only at z <;> omega
      rw [exT_old (cn1 (by omega)), exT_arr hj hjj, hc _ ninj]
      have hra : ∀ i, i < cCnt α (fam j') → rP S2 (T (32 + j') 0) = rP S (T (32 + j') 0) := fun i hi => by
        have hk3 := (Ls.oa (show Ls w S _ _ M _ _ _ from ⟨g1, g2, g3, g4, g5, g6, g7⟩) hi).1
        exact (F0 _ (by rw [hk3]; decide)).2.2.2.1 (fun z => hjj (h.2.2.2.1.2 j' j hj' hj hk3 z))
      refine ⟨a1.trans g1, (a6 1 (fun z => absurd z ne1')).trans g2, (a5 ne1' 2).trans g3, ?_, g5, g6, fun i hi => ?_⟩
      · rcases g4 with z | z
        · have := F0 (T (32 + j') 0) (by rw [z.1]; decide)
          exact Or.inl ⟨this.1.trans z.1, this.2.1.trans z.2⟩
        · exact Or.inr z
      · rw [hra i hi, exT_old hi, (F _ i hi).1]
        exact g7 i hi
  · have arr : ∀ j1 j2, j1 < 4 → j2 < 4 → j1 ≠ j → j2 = j → kd S2 (T (32 + j1) 0) = 23 → T (32 + j1) 0 = eb → False := fun j1 j2 h1 h2 n1 n2 hk2 e2 => by
      obtain ⟨M, g1⟩ := h.ls h1
      rcases g1.em with z | z
      · rcases l2 with y | y
        · exact n1 (h.2.2.2.1.2 j1 j h1 hj z (e2.trans y))
        · have := ho.k0 y.1
          rw [← e2, z] at this; exact absurd this (by decide)
      · exact hwE _ (by rw [hk2]; decide) z
    by_cases z1 : j1 = j <;> by_cases z2 : j2 = j
    · omega
    · exfalso
      subst z1
      rw [show exT T α j1 u eb (32 + j1) 0 = eb from if_pos rfl] at hk e1
      rw [exT_arr hj z2] at e1
      exact arr j2 j1 h2 h1 z2 rfl (e1 ▸ hk) e1.symm
    · exfalso
      subst z2
      rw [exT_arr hj z1] at hk e1
      rw [show exT T α j2 u eb (32 + j2) 0 = eb from if_pos rfl] at e1
      exact arr j1 j2 h1 h2 z1 rfl hk e1
    · rw [exT_arr hj z1] at hk e1
      rw [exT_arr hj z2] at e1
      refine h.2.2.2.1.2 j1 j2 h1 h2 ?_ e1
      obtain ⟨M, g1⟩ := h.ls h1
      rcases g1.em with z | z
      · exact z
      · exact absurd z (hwE _ (by rw [hk]; decide))
  · obtain ⟨t1, t2, t3, t4⟩ := h.to
    obtain ⟨v1, v2, v3, v4⟩ := hv.1
    unfold To
    rw [exT_old (cn1 (by decide)), exT_old (cn1 (by decide)), exT_old (cn1 (by decide)), (F 2 0 (cn1 (by decide))).2.2.1, (F 3 0 (cn1 (by decide))).2.2.2.2.1 (by omega), (F 3 0 (cn1 (by decide))).2.2.2.2.1 (by omega), (F 0 0 (cn1 (by decide))).2.2.2.2.1 (by omega)]
    exact ⟨t1.trans v1, t2.trans v2, t3.trans v3, t4.trans v4⟩
  · rcases cas 20 i hi with z | ⟨z, rfl⟩
    · have z' : i < nH α := z
      obtain ⟨b1, b2, b3, b4, b5⟩ := h.hm z'
      obtain ⟨v1, v2, v3, v4, v5⟩ := hv.2.1 i z'
      have c0 : i < cCnt α 20 := z
      have c1 : i < cCnt α 21 := z
      have c2 : i < cCnt α 22 := z
      unfold Hm
      rw [exT_old c0, exT_old c1, exT_old c2, (F 20 i c0).2.2.2.2.1 (by omega), (F 20 i c0).2.2.2.2.1 (by omega), (F 21 i c1).2.2.2.2.1 (by omega), (F 21 i c1).2.2.2.2.1 (by omega), (F 22 i c2).2.2.1]
      exact ⟨b1.trans v1, b2.trans v2, b3.trans v3, b4.trans v4, fun k hk hk2 => (b5 k hk (by rw [v4]; exact hk2)).trans (v5 k hk)⟩
    · have hj0 : j = 0 := by
        unfold Inj fam wid at z
        rcases j with _ | _ | _ | _ | j <;> simp only at z <;> omega
      subst hj0
      exact hn _ (fun c hc' => exT_new hj hc') (fun c i hi => exT_old hi) (fun c hc' => (G c hc').2.2)
  · rcases cas 23 i hi with z | ⟨z, rfl⟩
    · have z' : i < nL α := z
      obtain ⟨b1, b2, b3⟩ := h.lo z'
      obtain ⟨v1, v2, v3⟩ := hv.2.2.1 i z'
      have c0 : i < cCnt α 24 := z
      have c1 : i < cCnt α 25 := z
      unfold Lo
      rw [exT_old c0, exT_old c1, (F 24 i c0).2.2.2.2.1 (by omega), (F 24 i c0).2.2.2.2.1 (by omega), (F 25 i c1).2.2.1]
      exact ⟨b1.trans v1, b2.trans v2, fun k hk => (b3 k hk).trans (v3 k hk)⟩
    · have hj0 : j = 1 := by
        unfold Inj fam wid at z
        rcases j with _ | _ | _ | _ | j <;> simp only at z <;> omega
      subst hj0
      exact hn _ (fun c hc' => exT_new hj hc') (fun c i hi => exT_old hi) (fun c hc' => (G c hc').2.2)
  · rcases cas 27 i hi with z | ⟨z, rfl⟩
    · have z' : i < nV α := z
      obtain ⟨b1, b2, b3, b4, b5, b6⟩ := h.va z'
      obtain ⟨v1, v2, v3, v4, v5⟩ := hv.2.2.2.1 i z'
      have c0 : i < cCnt α 27 := z
      have c1 : i < cCnt α 28 := z
      have c2 : i < cCnt α 29 := z
      unfold Va
      rw [exT_old c0, exT_old c1, exT_old c2, (F 27 i c0).2.2.2.2.1 (by omega), (F 27 i c0).2.2.2.2.1 (by omega), (F 27 i c0).2.2.2.2.1 (by omega), (F 27 i c0).2.2.2.2.1 (by omega), (F 28 i c1).2.2.2.2.1 (by omega), (F 29 i c2).2.2.2.1, v4]
      refine ⟨b1, b2.trans v1, b3.trans v2, b4.trans v3, b5, fun k hk => ?_⟩
      rw [v5 k hk, exT_old (cnP (by decide) (by decide) (hA.1.1.2.2.2.2.1 i k (hA.1.1.v4 z') hk).2)]
      exact b6 k hk
    · have hj0 : j = 2 := by
        unfold Inj fam wid at z
        rcases j with _ | _ | _ | _ | j <;> simp only at z <;> omega
      subst hj0
      exact hn _ (fun c hc' => exT_new hj hc') (fun c i hi => exT_old hi) (fun c hc' => (G c hc').2.2)
  · rcases cas 30 i hi with z | ⟨z, rfl⟩
    · have z' : i < nP α := z
      obtain ⟨⟨b1, b2, b3, b4, b5, b6, b7⟩, d1, d2, d3, d4, d5, d6⟩ := h.pa z'
      obtain ⟨⟨v1, v2, v3, v4, v5⟩, x1, x2, x3, x4, x5⟩ := hv.2.2.2.2 i z'
      have c0 : i < cCnt α 30 := z
      have hh := hA.2.1 i z'
      have gg := (F 30 i c0).2.2.2.2.1 (by omega)
      have gp := (F 30 i c0).2.2.2.2.2
      unfold Pa
      rw [exT_old c0, gg, gg, gg, gg, gg, gg, gg, gg, gg, gg, gg, gp _ (by decide), gp _ (by decide), ← v3, exT_old (cnH (by decide) (by decide) hh)]
      refine ⟨⟨b1, b2.trans v1, b3.trans v2, b4, b5, b6.trans v4, b7.trans v5⟩, ?_, d2.trans x2, d3.trans x1, d4.trans x3, fun y => (d5 (x1.trans y)).trans x4, d6.trans x5⟩
      rw [d1]
      unfold vop
      rw [hvo i z']
      rcases vof_cases hA.1.1 i with ⟨v, k, o, e2, e3⟩ | ⟨-, e2⟩
      · rw [if_neg e3, if_neg e3, e2, cl_nI (by have := hA.1.1.v4 o.1; omega), exT_old (cnV (by decide) (by decide) o.1)]
      · rw [if_pos e2, if_pos e2]
    · have hj0 : j = 3 := by
        unfold Inj fam wid at z
        rcases j with _ | _ | _ | _ | j <;> simp only at z <;> omega
      subst hj0
      exact hn _ (fun c hc' => exT_new hj hc') (fun c i hi => exT_old hi) (fun c hc' => (G c hc').2.2)
end EXT
