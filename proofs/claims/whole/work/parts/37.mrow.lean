/-! A VAN'S ROW IS SET -/
def setRow (α : Ab) (v n : Nat) (L : Nat → Nat) : Ab := aset (aset α 840 (va_up (α 840) v (nI n))) 841 (va_cpy (fun i => nI (L i)) (α 841) 0 (12 * v) n)
theorem setRow_ne {α : Ab} {v n F : Nat} {L : Nat → Nat} (h1 : F ≠ 840) (h2 : F ≠ 841) : setRow α v n L F = α F := by
  unfold setRow; rw [aset_ne h2, aset_ne h1]
theorem nV_setRow {α : Ab} {v n : Nat} {L : Nat → Nat} : nV (setRow α v n L) = nV α := by unfold nV; rw [setRow_ne (by decide) (by decide)]
theorem nP_setRow {α : Ab} {v n : Nat} {L : Nat → Nat} : nP (setRow α v n L) = nP α := by unfold nP; rw [setRow_ne (by decide) (by decide)]
theorem mny_setRow {α : Ab} {v n v' : Nat} {L : Nat → Nat} (hn : n ≤ 12) : mny (setRow α v n L) v' = if v' = v then n else mny α v' := by
  unfold mny setRow
  rw [aset_ne (by decide), aset_same]
  by_cases c : v' = v
  · subst c; rw [va_up_self, if_pos rfl]; exact nI_clamp (by omega)
  · rw [va_up_ne _ _ c, if_neg c]
theorem c841_setRow {α : Ab} {v n v' i : Nat} {L : Nat → Nat} (hn : n ≤ 12) (hi : i < 12) (hv : v' = v → i < n) : setRow α v n L 841 (12 * v' + i) = if v' = v then nI (L i) else α 841 (12 * v' + i) := by
  unfold setRow
  rw [aset_same]
  by_cases c : v' = v
  · subst c; rw [pk_cpy_in (by omega) (by have := hv rfl; omega), if_pos rfl]; show nI (L _) = _; congr 2; omega
  · rw [if_neg c, pk_cpy_out (by omega)]
theorem rwf_setRow {α : Ab} {v n v' i : Nat} {L : Nat → Nat} (hn : n ≤ 12) (hi : i < 12) (hv : v' = v → i < n) (hL : ∀ i, i < n → L i < 30) : rwf (setRow α v n L) v' i = if v' = v then L i else rwf α v' i := by
  unfold rwf
  rw [c841_setRow hn hi hv]
  by_cases c : v' = v
  · rw [if_pos c, if_pos c]; exact nI_clamp (by have := hL i (hv c); omega)
  · rw [if_neg c, if_neg c]
theorem AI1.rows {α : Ab} (hA : AI1 α) {v n : Nat} {L : Nat → Nat} (hv : v < nV α) (hn : n ≤ 12) (hL : ∀ i, i < n → L i < nP α) (hi : ∀ i j, i < n → j < n → L i = L j → i = j)
    (hd : ∀ v' i j, v' < 4 → v' ≠ v → i < mny α v' → j < n → rwf α v' i ≠ L j) : AI1 (setRow α v n L) := by
  have v4 := hA.v4 hv
  have hL30 : ∀ i, i < n → L i < 30 := fun i h => hA.p30 (hL i h)
  have hA0 := hA
  obtain ⟨h1, h2, h3, h4, h5, h6⟩ := hA
  have hm12 : ∀ v' i, v' < 4 → i < mny (setRow α v n L) v' → i < 12 ∧ (v' = v → i < n) ∧ (v' ≠ v → i < mny α v') := by
    intro v' i hv' hi'
    rw [mny_setRow hn] at hi'
    by_cases c : v' = v
    · rw [if_pos c] at hi'; exact ⟨by omega, fun _ => hi', fun z => absurd c z⟩
    · rw [if_neg c] at hi'; have := hA0.m12 hv'; exact ⟨by omega, fun z => absurd z c, fun _ => hi'⟩
  refine ⟨?_, ?_, ?_, ?_, ?_, ?_⟩
  · unfold AIr at h1 ⊢
    simp only [setRow_ne (show (897 : Nat) ≠ 840 by decide) (show (897 : Nat) ≠ 841 by decide), setRow_ne (show (898 : Nat) ≠ 840 by decide) (show (898 : Nat) ≠ 841 by decide), setRow_ne (show (899 : Nat) ≠ 840 by decide) (show (899 : Nat) ≠ 841 by decide), setRow_ne (show (901 : Nat) ≠ 840 by decide) (show (901 : Nat) ≠ 841 by decide), setRow_ne (show (902 : Nat) ≠ 840 by decide) (show (902 : Nat) ≠ 841 by decide), setRow_ne (show (911 : Nat) ≠ 840 by decide) (show (911 : Nat) ≠ 841 by decide), setRow_ne (show (912 : Nat) ≠ 840 by decide) (show (912 : Nat) ≠ 841 by decide), setRow_ne (show (916 : Nat) ≠ 840 by decide) (show (916 : Nat) ≠ 841 by decide), setRow_ne (show (917 : Nat) ≠ 840 by decide) (show (917 : Nat) ≠ 841 by decide), setRow_ne (show (918 : Nat) ≠ 840 by decide) (show (918 : Nat) ≠ 841 by decide)]
    exact h1
  · unfold AIc nH nL nV nP at h2 ⊢
    simp only [setRow_ne (show (900 : Nat) ≠ 840 by decide) (show (900 : Nat) ≠ 841 by decide), setRow_ne (show (906 : Nat) ≠ 840 by decide) (show (906 : Nat) ≠ 841 by decide), setRow_ne (show (909 : Nat) ≠ 840 by decide) (show (909 : Nat) ≠ 841 by decide), setRow_ne (show (913 : Nat) ≠ 840 by decide) (show (913 : Nat) ≠ 841 by decide)]
    exact h2
  · intro v' hv'
    rw [mny_setRow hn]
    by_cases c : v' = v
    · subst c
      rw [if_pos rfl]
      exact ⟨by show aset _ 841 _ 840 _ = _; rw [aset_ne (by decide), aset_same, va_up_self], hn⟩
    · rw [if_neg c]
      exact ⟨by show aset _ 841 _ 840 _ = _; rw [aset_ne (by decide), aset_same, va_up_ne _ _ c]; exact (h3 v' hv').1, (h3 v' hv').2⟩
  · intro v' hv' h4'
    rw [nV_setRow] at hv'
    rw [mny_setRow hn, if_neg (by omega)]
    exact h4 v' hv' h4'
  · intro v' i hv' hi'
    obtain ⟨x1, x2, x3⟩ := hm12 v' i hv' hi'
    rw [c841_setRow hn x1 x2, rwf_setRow hn x1 x2 hL30, nP_setRow]
    by_cases c : v' = v
    · rw [if_pos c, if_pos c]; exact ⟨rfl, hL i (x2 c)⟩
    · rw [if_neg c, if_neg c]; exact h5 v' i hv' (x3 c)
  · intro a b i j ha hb hi' hj' e
    obtain ⟨x1, x2, x3⟩ := hm12 a i ha hi'
    obtain ⟨y1, y2, y3⟩ := hm12 b j hb hj'
    rw [rwf_setRow hn x1 x2 hL30, rwf_setRow hn y1 y2 hL30] at e
    by_cases ca : a = v
    · rw [if_pos ca] at e
      by_cases cb : b = v
      · rw [if_pos cb] at e; exact ⟨ca.trans cb.symm, hi i j (x2 ca) (y2 cb) e⟩
      · rw [if_neg cb] at e; exact absurd e.symm (hd b j i hb cb (y3 cb) (x2 ca))
    · rw [if_neg ca] at e
      by_cases cb : b = v
      · rw [if_pos cb] at e; exact absurd e (hd a i j ha ca (x3 ca) (y2 cb))
      · rw [if_neg cb] at e; exact h6 a b i j ha hb (x3 ca) (y3 cb) e
/-- a parcel is put into a row -/
def putA (α : Ab) (q v k : Nat) : Ab := setRow α v (mny α v + 1) (insL (rwf α v) k q)
theorem insL_mem {L : Nat → Nat} {k q i n : Nat} (hk : k ≤ n) (hi : i < n + 1) : insL L k q i = q ∨ ∃ j, j < n ∧ insL L k q i = L j := by
  unfold insL
  split
  · exact Or.inr ⟨i, by omega, rfl⟩
  · split
    · exact Or.inl rfl
    · exact Or.inr ⟨i - 1, by omega, rfl⟩
theorem insL_lt {L : Nat → Nat} {k q i : Nat} (h : i < k) : insL L k q i = L i := if_pos h
theorem insL_eq {L : Nat → Nat} {k q : Nat} : insL L k q k = q := by unfold insL; rw [if_neg (by omega), if_pos rfl]
theorem insL_gt {L : Nat → Nat} {k q i : Nat} (h : k < i) : insL L k q i = L (i - 1) := by unfold insL; rw [if_neg (by omega), if_neg (by omega)]
theorem insL_inj {L : Nat → Nat} {k q n : Nat} (hk : k ≤ n) (hL : ∀ i j, i < n → j < n → L i = L j → i = j) (hq : ∀ i, i < n → L i ≠ q) : ∀ i j, i < n + 1 → j < n + 1 → insL L k q i = insL L k q j → i = j := by
  intro i j hi hj e
  rcases Nat.lt_trichotomy i k with a | a | a <;> rcases Nat.lt_trichotomy j k with b | b | b
  · rw [insL_lt a, insL_lt b] at e; exact hL i j (by omega) (by omega) e
  · rw [insL_lt a, b, insL_eq] at e; exact absurd e (hq i (by omega))
  · rw [insL_lt a, insL_gt b] at e; have := hL i (j - 1) (by omega) (by omega) e; omega
  · rw [insL_lt b, a, insL_eq] at e; exact absurd e.symm (hq j (by omega))
  · omega
  · rw [insL_gt b, a, insL_eq] at e; exact absurd e.symm (hq (j - 1) (by omega))
  · rw [insL_gt a, insL_lt b] at e; have := hL (i - 1) j (by omega) (by omega) e; omega
  · rw [insL_gt a, b, insL_eq] at e; exact absurd e (hq (i - 1) (by omega))
  · rw [insL_gt a, insL_gt b] at e; have := hL (i - 1) (j - 1) (by omega) (by omega) e; omega
theorem AI1.put {α : Ab} (hA : AI1 α) {q v k : Nat} (hv : v < nV α) (hk : k ≤ mny α v) (hq : q < nP α) (hn : mny α v + 1 ≤ 12) (ho : ¬ On α q) : AI1 (putA α q v k) := by
  have v4 := hA.v4 hv
  refine hA.rows hv hn (fun i hi => ?_) (insL_inj hk (fun i j hi hj e => (hA.2.2.2.2.2 v v i j v4 v4 hi hj e).2) (fun i hi e => ho ⟨v, i, hv, hi, e⟩)) (fun v' i j hv' hne hi hj e => ?_)
  · rcases insL_mem (L := rwf α v) (q := q) hk hi with e | ⟨j, hj, e⟩
    · rw [e]; exact hq
    · rw [e]; exact (hA.2.2.2.2.1 v j v4 hj).2
  · rcases insL_mem (L := rwf α v) (q := q) hk hj with e2 | ⟨j', hj', e2⟩
    · have hv'n : v' < nV α := by
        rcases Nat.lt_or_ge v' (nV α) with z | z
        · exact z
        · have := hA.2.2.2.1 v' z hv'; omega
      exact ho ⟨v', i, hv'n, hi, e.trans e2⟩
    · exact hne (hA.2.2.2.2.2 v' v i j' hv' v4 hi hj' (e.trans e2)).1
theorem mv_fit {α : Ab} {q v k : Nat} (h : ¬ mv α q v k = 1000000) : mny α v + 1 ≤ 12 := by
  unfold mv at h
  by_cases c : fitsM α v (mny α v + 1) (insL (rwf α v) k q)
  · exact c.1
  · rw [if_neg c] at h; exact absurd rfl h
theorem setRow_fr {α β : Ab} (f : FrM α β) {v n : Nat} {L : Nat → Nat} : FrM (setRow α v n L) (setRow β v n L) := by
  intro F hF
  by_cases c2 : F = 841
  · subst c2; unfold setRow; rw [aset_same, aset_same, f 841 rfl]
  · by_cases c1 : F = 840
    · subst c1; unfold setRow; rw [aset_ne c2, aset_ne c2, aset_same, aset_same, f 840 rfl]
    · rw [setRow_ne c1 c2, setRow_ne c1 c2, f F hF]
section MK
variable {l : Launch} {w : Wd} {S : St} {m0 s0 ah : Nat} {A : Nat → Nat}
theorem c_keepL {α : Ab} {v n : Nat} {L : Nat → Nat} (h : MR S m0 s0 ah A α) (hv : v < 4) (hn : n ≤ 12) (hL : α 922 0 = nI n) (hl : ∀ i, i < n → α 921 i = nI (L i)) : ConV l yX13_keep (wsOf yX13_keep cX13_keep 2 none) rX13_keep w S [.ref m0, .int (nI v)] (fun S' => ∃ α', MR S' m0 s0 ah A α' ∧ FrM (setRow α v n L) α' ∧ ∀ F, F ≠ 840 → F ≠ 841 → α' F = α F) := by
  refine conV_mono (c_keep h hv hL hn) (fun S' hq => ?_)
  obtain ⟨β, g1, g2, g3, g4⟩ := hq
  refine ⟨β, g1, fun F _ => ?_, g2⟩
  by_cases c1 : F = 840
  · subst c1; rw [g3]; unfold setRow; rw [aset_ne (by decide), aset_same]
  · by_cases c2 : F = 841
    · subst c2
      rw [g4]
      unfold setRow
      rw [aset_same]
      funext j
      by_cases c : 12 * v ≤ j ∧ j < 12 * v + n
      · rw [pk_cpy_in c.1 c.2, pk_cpy_in c.1 c.2]; exact hl _ (by omega)
      · rw [pk_cpy_out (by omega), pk_cpy_out (by omega)]
    · rw [g2 F c1 c2, setRow_ne c1 c2]
end MK
