theorem glk_succ (kf vf : Nat → Int32) (l0 : Int32) (n : Nat) : glk kf vf l0 (n + 1) = if ldk kf vf l0 (n + 1) ≤ glk kf vf l0 n then glk kf vf l0 n else ldk kf vf l0 (n + 1) := rfl
section LM2
variable {p : Program} {l : Launch} {e : Env} {s : State} {m : MethodId} {args : Array Value} {below : List Frame} {meth : Method} {c : Code} {w : Wd} {S : St}
variable {m0 s0 ah : Nat} {A : Nat → Nat}
theorem scr_ne {F G : Nat} (hF : scrC F = false) (hG : scrC G = true) : F ≠ G := by rintro rfl; rw [hF] at hG; cases hG
set_option maxRecDepth 100000 in
theorem l_mcost (B : Bd p s m args meth c cX13_cost 14 (wsOf yX13_cost cX13_cost 14 (some .int)) RX13 w (some .int) "cost") {Q : State → Prop} {α0 : Ab} {n : Nat} {L : Nat → Nat} {v l0 : Int32} {t0 : Tr} (hL : Line α0 n L)
    (hT : Tok (α0 897) (fun i => pdat α0 (L i)) t0 (α0 898 0) (α0 899 0) n)
    (hx : ∀ (S' : St) (α' : Ab), MR S' m0 s0 ah A α' → (∀ F, scrC F = false → α' F = α0 F) →
      α' 926 0 = (goB (α0 897) (wk (α0 897) (fun i => pdat α0 (L i)) t0 n).1 (α0 898 0) (α0 899 0)).2.2.2.2.1 → α' 927 0 = (wk (α0 897) (fun i => pdat α0 (L i)) t0 n).2 → α' 929 0 = (goB (α0 897) (wk (α0 897) (fun i => pdat α0 (L i)) t0 n).1 (α0 898 0) (α0 899 0)).2.2.2.2.2 → α' 930 0 = glk (kD (fun i => pdat α0 (L i))) (vD (fun i => pdat α0 (L i))) l0 n →
      (∀ j, j < n → α' 923 j = nowW (α0 897) (pdat α0 (L j)) (wk (α0 897) (fun i => pdat α0 (L i)) t0 j).1 ∧ α' 924 j = lateW (α0 897) (pdat α0 (L j)) (wk (α0 897) (fun i => pdat α0 (L i)) t0 j).1 ∧ α' 925 j = ldk (kD (fun i => pdat α0 (L i))) (vD (fun i => pdat α0 (L i))) l0 (j + 1)) →
      K p l e rX13_cost s m args below meth c 14 w 0 0 Q S' 400 [(0, .ref m0), (1, .int v), (2, .int (goB (α0 897) (wk (α0 897) (fun i => pdat α0 (L i)) t0 n).1 (α0 898 0) (α0 899 0)).2.2.2.1)] []) :
    ∀ d i, i + d = n → ∀ (S1 : St) (α : Ab), MR S1 m0 s0 ah A α → CI α0 α (fun i => pdat α0 (L i)) t0 l0 i →
      K p l e rX13_cost s m args below meth c 14 w 0 0 Q S1 103 [(0, .ref m0), (1, .int v), (2, .int (wk (α0 897) (fun i => pdat α0 (L i)) t0 i).1.2.2.2.1), (3, .int (wk (α0 897) (fun i => pdat α0 (L i)) t0 i).1.2.2.1), (4, .int (wk (α0 897) (fun i => pdat α0 (L i)) t0 i).1.1), (5, .int (wk (α0 897) (fun i => pdat α0 (L i)) t0 i).1.2.1), (6, .int (ldk (kD (fun i => pdat α0 (L i))) (vD (fun i => pdat α0 (L i))) l0 i)), (7, .int (nI i))] [] := by
  have hn := hL.2.1
  intro d
  induction d with
  | zero =>
    intro i hi S1 α h hC
    have ein : i = n := by omega
    subst ein
    obtain ⟨f1, f2, f3, f4, f5, f6⟩ := hC
    have hlen : gI S1 922 m0 = nI i := (h.sc 922 (by decide)).trans ((congrFun (f1 922 rfl) 0).trans hL.1)
    have e8 : gI S1 898 m0 = α0 898 0 := (h.sc 898 (by decide)).trans (congrFun (f1 898 rfl) 0)
    have e9 : gI S1 899 m0 = α0 899 0 := (h.sc 899 (by decide)).trans (congrFun (f1 899 rfl) 0)
    have esl : α 897 = α0 897 := f1 897 rfl
    refine bX13_cost_103 B h.1.1 (fun c => absurd c (by rw [hlen]; exact nI_nlt (Nat.le_refl i) (by omega))) (fun _ => ?_)
    refine bX13_cost_112 B h.1.1 (fun c => absurd hlen.symm c) (fun _ => ?_)
    refine bX13_cost_121 B (bX13_cost_137 B (fun c => absurd rfl c) (fun _ => ?_))
    refine bX13_cost_145 B h.1.1 (bX13_cost_159 B (fun c => absurd rfl c) (fun _ => ?_))
    refine bX13_cost_167 B h.1.1 ?_
    rw [e8, e9]
    refine l_mleg B h f4 (hT.1 i (Nat.le_refl i)) (fun S' α' base now way h' hα hg => ?_)
    rw [esl] at hg
    have hs : MR (sI S' 926 m0 (gI S' 926 m0 + way)) m0 s0 ah A (au α' 926 0 (gI S' 926 m0 + way)) := h'.setS (F := 926) (by decide) _
    have e26 : gI S' 926 m0 = (wk (α0 897) (fun i => pdat α0 (L i)) t0 i).1.2.2.2.2.1 := (h'.sc 926 (by decide)).trans ((congrFun (hα 926 (by decide)) 0).trans f2)
    refine bX13_cost_235 B h'.1.1 (fun c => absurd rfl c) (fun _ => bX13_cost_267 B ?_)
    have key := hx _ _ hs (fun F hF => by rw [au_neF (scr_ne hF rfl), hα F (scr_ne hF rfl)]; exact f1 F hF) (by rw [au_same, e26, hg]) (by rw [au_ne (by decide), hα 927 (by decide)]; exact f3) (by rw [au_ne (by decide), hg]) (by rw [au_ne (by decide), hα 930 (by decide)]; exact f5) (fun j hj => by rw [au_neF (by decide), au_neF (by decide), au_neF (by decide), hα 923 (by decide), hα 924 (by decide), hα 925 (by decide)]; exact f6 j hj)
    have e5 : (goB (α0 897) (wk (α0 897) (fun i => pdat α0 (L i)) t0 i).1 (α0 898 0) (α0 899 0)).2.2.2.1 = now + way := congrArg (fun z : Tr => z.2.2.2.1) hg
    rw [← e5]
    exact key
  | succ d ih =>
    intro i hi S1 α h hC
    have hin : i < n := by omega
    obtain ⟨f1, f2, f3, f4, f5, f6⟩ := hC
    obtain ⟨g1, g2, hh, g3, g4⟩ := hL.2.2 i hin
    have hlen : gI S1 922 m0 = nI n := (h.sc 922 (by decide)).trans ((congrFun (f1 922 rfl) 0).trans hL.1)
    have esl : α 897 = α0 897 := f1 897 rfl
    have ei : (nI i).toNatClampNeg = i := nI_clamp (by omega)
    have eL : (nI (L i)).toNatClampNeg = L i := nI_clamp (by omega)
    have eh : (nI hh).toNatClampNeg = hh := nI_clamp (by omega)
    obtain ⟨a1, a2, a3, a4⟩ := h.ar 921 (by decide)
    obtain ⟨b1, b2, b3, b4⟩ := h.ar 916 (by decide)
    obtain ⟨c1, c2, c3, c4⟩ := h.ar 901 (by decide)
    obtain ⟨d1, d2, d3, d4⟩ := h.ar 902 (by decide)
    have v1 : vp_in (nI i) (ln S1 (A 921)) := by rw [a3]; exact vp_in_nI (show i < 13 by omega) (by decide)
    have r1 : rI S1 (A 921) (nI i).toNatClampNeg = nI (L i) := by rw [a4, ei, f1 921 rfl]; exact g1
    have r2 : rI S1 (A 916) (nI (L i)).toNatClampNeg = nI hh := by rw [b4, eL, f1 916 rfl]; exact g4
    have epd : pdat α0 (L i) = (α0 901 hh, α0 902 hh, α0 917 (L i), α0 918 (L i), α0 914 (L i), α0 915 (L i)) := by unfold pdat; rw [g4, eh]
    have hne : ¬ nI hh = (-1) := by
      intro z
      have := congrArg Int32.toInt z
      rw [nI_toInt (by omega)] at this
      have e1 : ((-1 : Int32)).toInt = -1 := by decide
      omega
    refine bX13_cost_103 B h.1.1 (fun c => absurd c (by rw [hlen]; exact nI_nlt (by omega) (by omega))) (fun _ => ?_)
    refine bX13_cost_112 B h.1.1 (fun _ => ?_) (fun c => absurd c (by rw [hlen]; exact fun z => absurd ((nI_eq (by omega) (by omega)).mp z) (by omega)))
    refine bX13_cost_125 B h.1.1 b1 a1 a2 v1 b2 (by rw [r1, b3]; exact vp_in_nI g2 (by decide)) ?_
    rw [r1, r2]
    refine bX13_cost_137 B (fun _ => ?_) (fun c => absurd c hne)
    refine bX13_cost_152 B h.1.1 c1 c2 (by rw [c3]; exact vp_in_nI g3 (by decide)) ?_
    rw [eh, c4, f1 901 rfl]
    refine bX13_cost_159 B (fun _ => ?_) (fun c => absurd c hne)
    refine bX13_cost_174 B h.1.1 d1 d2 (by rw [d3]; exact vp_in_nI g3 (by decide)) ?_
    rw [eh, d4, f1 902 rfl]
    refine l_mleg B h f4 (hT.1 i (by omega)) (fun S2 α2 base now way h2 hα hg => ?_)
    rw [esl] at hg
    have hs : MR (sI S2 926 m0 (gI S2 926 m0 + way)) m0 s0 ah A (au α2 926 0 (gI S2 926 m0 + way)) := h2.setS (F := 926) (by decide) _
    have e26 : gI S2 926 m0 = (wk (α0 897) (fun i => pdat α0 (L i)) t0 i).1.2.2.2.2.1 := (h2.sc 926 (by decide)).trans ((congrFun (hα 926 (by decide)) 0).trans f2)
    refine bX13_cost_235 B h2.1.1 (fun _ => ?_) (fun c => absurd c hne)
    have hg' : goB (α0 897) (wk (α0 897) (fun i => pdat α0 (L i)) t0 i).1 (pdat α0 (L i)).1 (pdat α0 (L i)).2.1 = (α0 901 hh, α0 902 hh, base, now + way, (wk (α0 897) (fun i => pdat α0 (L i)) t0 i).1.2.2.2.2.1 + way, α2 929 0) := by rw [epd]; exact hg
    -- the cells behind the way
    obtain ⟨α3, eα3⟩ : ∃ z, z = au α2 926 0 (gI S2 926 m0 + way) := ⟨_, rfl⟩
    rw [← eα3] at hs
    have k1 : ∀ F, scrC F = false → α3 F = α0 F := fun F hF => by rw [eα3, au_neF (scr_ne hF rfl), hα F (scr_ne hF rfl)]; exact f1 F hF
    have k2 : α3 926 0 = (wk (α0 897) (fun i => pdat α0 (L i)) t0 i).1.2.2.2.2.1 + way := by rw [eα3, au_same, e26]
    have k3 : ∀ F, F ≠ 926 → F ≠ 929 → α3 F = α F := fun F e1 e2 => by rw [eα3, au_neF e1, hα F e2]
    have k4 : α3 929 0 = α2 929 0 := by rw [eα3, au_ne (by decide)]
    clear eα3 e26
    generalize sI S2 926 m0 (gI S2 926 m0 + way) = S3 at hs ⊢
    obtain ⟨a1, a2, a3, a4⟩ := hs.ar 921 (by decide)
    obtain ⟨b1, b2, b3, b4⟩ := hs.ar 917 (by decide)
    obtain ⟨c1, c2, c3, c4⟩ := hs.ar 923 (by decide)
    have v2 : vp_in (nI i) (ln S3 (A 921)) := by rw [a3]; exact vp_in_nI (show i < 13 by omega) (by decide)
    have r3 : rI S3 (A 921) (nI i).toNatClampNeg = nI (L i) := by rw [a4, ei, k1 921 rfl]; exact g1
    have vL : ∀ z, z = 30 → vp_in (nI (L i)) z := fun z e => by rw [e]; exact vp_in_nI g2 (by decide)
    have v13 : ∀ z, z = 13 → vp_in (nI i) z := fun z e => by rw [e]; exact vp_in_nI (show i < 13 by omega) (by decide)
    have enow : (if now + way < α0 917 (L i) then α0 917 (L i) else now + way) = nowW (α0 897) (pdat α0 (L i)) (wk (α0 897) (fun i => pdat α0 (L i)) t0 i).1 := by
      unfold nowW
      rw [max_eq, hg', epd]
    refine bX13_cost_270 B hs.1.1 a1 a2 v2 b1 b2 (by rw [r3]; exact vL _ b3) c1 c2 (v13 _ c3) ?_
    rw [r3, eL, b4, k1 917 rfl, enow, c4, ei]
    have h4 := hs.setA (F := 923) (by decide) (va_up (α3 923) i (nowW (α0 897) (pdat α0 (L i)) (wk (α0 897) (fun i => pdat α0 (L i)) t0 i).1))
    generalize hS4 : sRI S3 (A 923) (va_up (α3 923) i (nowW (α0 897) (pdat α0 (L i)) (wk (α0 897) (fun i => pdat α0 (L i)) t0 i).1)) = S4 at h4 ⊢
    obtain ⟨a1, a2, a3, a4⟩ := h4.ar 924 (by decide)
    obtain ⟨b1, b2, b3, b4⟩ := h4.ar 918 (by decide)
    have tN : okT (nowW (α0 897) (pdat α0 (L i)) (wk (α0 897) (fun i => pdat α0 (L i)) t0 i).1) := (hT.2.1 i hin).1
    have tT : okT (α0 918 (L i)) := by
      have hz : okT (pdat α0 (L i)).2.2.2.1 := (hT.2.1 i hin).2
      rw [epd] at hz
      exact hz
    have elate : (if 0 < nowW (α0 897) (pdat α0 (L i)) (wk (α0 897) (fun i => pdat α0 (L i)) t0 i).1 - α0 918 (L i) then nowW (α0 897) (pdat α0 (L i)) (wk (α0 897) (fun i => pdat α0 (L i)) t0 i).1 - α0 918 (L i) else 0) = lateW (α0 897) (pdat α0 (L i)) (wk (α0 897) (fun i => pdat α0 (L i)) t0 i).1 := by
      rw [pos_sub tN tT]
      unfold lateW
      rw [show (pdat α0 (L i)).2.2.2.1 = α0 918 (L i) by rw [epd]]
    refine bX13_cost_299 B h4.1.1 a1 b1 b2 (vL _ b3) a2 (v13 _ a3) ?_
    rw [eL, b4, aset_ne (by decide), k1 918 rfl, elate, a4, aset_ne (by decide), ei]
    have h5 := h4.setA (F := 924) (by decide) (va_up (α3 924) i (lateW (α0 897) (pdat α0 (L i)) (wk (α0 897) (fun i => pdat α0 (L i)) t0 i).1))
    generalize hS5 : sRI S4 (A 924) (va_up (α3 924) i (lateW (α0 897) (pdat α0 (L i)) (wk (α0 897) (fun i => pdat α0 (L i)) t0 i).1)) = S5 at h5 ⊢
    obtain ⟨a1, a2, a3, a4⟩ := h5.ar 924 (by decide)
    obtain ⟨b1, b2, b3, b4⟩ := h5.ar 914 (by decide)
    have e927 : gI S5 927 m0 = (wk (α0 897) (fun i => pdat α0 (L i)) t0 i).2 := (h5.sc 927 (by decide)).trans (by rw [aset_ne (by decide), aset_ne (by decide), k3 927 (by decide) (by decide)]; exact f3)
    have rl : rI S5 (A 924) (nI i).toNatClampNeg = lateW (α0 897) (pdat α0 (L i)) (wk (α0 897) (fun i => pdat α0 (L i)) t0 i).1 := by rw [a4, aset_same, ei, va_up_self]
    have rk : rI S5 (A 914) (nI (L i)).toNatClampNeg = α0 914 (L i) := by rw [b4, eL, aset_ne (by decide), aset_ne (by decide), k1 914 rfl]
    have h6 : MR (sI S5 927 m0 (gI S5 927 m0 + lateW (α0 897) (pdat α0 (L i)) (wk (α0 897) (fun i => pdat α0 (L i)) t0 i).1)) m0 s0 ah A _ := h5.setS (F := 927) (by decide) _
    -- the load
    have tail : ∀ x : Int32, ldk (kD (fun i => pdat α0 (L i))) (vD (fun i => pdat α0 (L i))) l0 (i + 1) = ldk (kD (fun i => pdat α0 (L i))) (vD (fun i => pdat α0 (L i))) l0 i + x → K p l e rX13_cost s m args below meth c 14 w 0 0 Q (sI S5 927 m0 (gI S5 927 m0 + lateW (α0 897) (pdat α0 (L i)) (wk (α0 897) (fun i => pdat α0 (L i)) t0 i).1)) 366 [(0, .ref m0), (1, .int v), (2, .int (nowW (α0 897) (pdat α0 (L i)) (wk (α0 897) (fun i => pdat α0 (L i)) t0 i).1)), (3, .int base), (4, .int (α0 901 hh)), (5, .int (α0 902 hh)), (7, .int (nI i))] [.int x, .int (ldk (kD (fun i => pdat α0 (L i))) (vD (fun i => pdat α0 (L i))) l0 i)] := by
      intro x ex
      generalize hS6 : sI S5 927 m0 (gI S5 927 m0 + lateW (α0 897) (pdat α0 (L i)) (wk (α0 897) (fun i => pdat α0 (L i)) t0 i).1) = S6 at h6 ⊢
      obtain ⟨a1, a2, a3, a4⟩ := h6.ar 925 (by decide)
      have e930 : gI S6 930 m0 = glk (kD (fun i => pdat α0 (L i))) (vD (fun i => pdat α0 (L i))) l0 i := (h6.sc 930 (by decide)).trans (by rw [au_ne (by decide), aset_ne (by decide), aset_ne (by decide), k3 930 (by decide) (by decide)]; exact f5)
      refine bX13_cost_366 B h6.1.1 a1 a2 (v13 _ a3) ?_
      have egl : (if gI S6 930 m0 < ldk (kD (fun i => pdat α0 (L i))) (vD (fun i => pdat α0 (L i))) l0 i + x then ldk (kD (fun i => pdat α0 (L i))) (vD (fun i => pdat α0 (L i))) l0 i + x else gI S6 930 m0) = glk (kD (fun i => pdat α0 (L i))) (vD (fun i => pdat α0 (L i))) l0 (i + 1) := by
        rw [max_eq, e930, ← ex, glk_succ]
      rw [a4, au_neF (by decide), aset_ne (by decide), aset_ne (by decide), k3 925 (by decide) (by decide), ei, ← ex]
      have h7 := h6.setA (F := 925) (by decide) (va_up (α 925) i (ldk (kD (fun i => pdat α0 (L i))) (vD (fun i => pdat α0 (L i))) l0 (i + 1)))
      have h8 : MR (sI (sRI S6 (A 925) (va_up (α 925) i (ldk (kD (fun i => pdat α0 (L i))) (vD (fun i => pdat α0 (L i))) l0 (i + 1)))) 930 m0 (glk (kD (fun i => pdat α0 (L i))) (vD (fun i => pdat α0 (L i))) l0 (i + 1))) m0 s0 ah A _ := h7.setS (F := 930) (by decide) _
      refine bX13_cost_378 B h7.1.1 ?_
      have e930' : gI (sRI S6 (A 925) (va_up (α 925) i (ldk (kD (fun i => pdat α0 (L i))) (vD (fun i => pdat α0 (L i))) l0 (i + 1)))) 930 m0 = gI S6 930 m0 := gI_sRI ..
      rw [← ex] at egl
      rw [e930', egl, nI_1]
      have ew : wk (α0 897) (fun i => pdat α0 (L i)) t0 (i + 1) = ((α0 901 hh, α0 902 hh, base, nowW (α0 897) (pdat α0 (L i)) (wk (α0 897) (fun i => pdat α0 (L i)) t0 i).1 + 4, (wk (α0 897) (fun i => pdat α0 (L i)) t0 i).1.2.2.2.2.1 + way, α2 929 0), (wk (α0 897) (fun i => pdat α0 (L i)) t0 i).2 + lateW (α0 897) (pdat α0 (L i)) (wk (α0 897) (fun i => pdat α0 (L i)) t0 i).1) := by
        show stepW _ _ _ = _
        unfold stepW
        rw [hg']
        rw [show (pdat α0 (L i)).1 = α0 901 hh by rw [epd], show (pdat α0 (L i)).2.1 = α0 902 hh by rw [epd]]
      have go := ih (i + 1) (by omega) _ _ h8 ⟨fun F hF => ?_, ?_, ?_, ?_, ?_, fun j hj => ?_⟩
      · have w1 : (wk (α0 897) (fun i => pdat α0 (L i)) t0 (i + 1)).1.2.2.2.1 = nowW (α0 897) (pdat α0 (L i)) (wk (α0 897) (fun i => pdat α0 (L i)) t0 i).1 + 4 := congrArg (fun z : Wk => z.1.2.2.2.1) ew
        have w2 : (wk (α0 897) (fun i => pdat α0 (L i)) t0 (i + 1)).1.2.2.1 = base := congrArg (fun z : Wk => z.1.2.2.1) ew
        have w3 : (wk (α0 897) (fun i => pdat α0 (L i)) t0 (i + 1)).1.1 = α0 901 hh := congrArg (fun z : Wk => z.1.1) ew
        have w4 : (wk (α0 897) (fun i => pdat α0 (L i)) t0 (i + 1)).1.2.1 = α0 902 hh := congrArg (fun z : Wk => z.1.2.1) ew
        rw [w1, w2, w3, w4] at go
        exact go
      · rw [au_neF (scr_ne hF rfl), aset_ne (scr_ne hF rfl), au_neF (scr_ne hF rfl), aset_ne (scr_ne hF rfl), aset_ne (scr_ne hF rfl)]
        exact k1 F hF
      · rw [ew, au_ne (by decide), aset_ne (by decide), au_ne (by decide), aset_ne (by decide), aset_ne (by decide)]
        exact k2
      · rw [ew, au_ne (by decide), aset_ne (by decide), au_same, e927]
      · rw [ew, au_ne (by decide), aset_ne (by decide), au_ne (by decide), aset_ne (by decide), aset_ne (by decide)]
        exact k4
      · rw [au_same]
      · rw [au_neF (by decide), au_neF (by decide), au_neF (by decide), aset_ne (by decide), aset_ne (by decide), aset_same, au_neF (by decide), au_neF (by decide), aset_same, aset_ne (by decide), aset_same]
        by_cases cj : j = i
        · subst cj
          rw [va_up_self, va_up_self, va_up_self]
          exact ⟨rfl, rfl, rfl⟩
        · rw [va_up_ne _ _ cj, va_up_ne _ _ cj, va_up_ne _ _ cj, k3 923 (by decide) (by decide), k3 924 (by decide) (by decide)]
          exact f6 j (by omega)
    have ek : kD (fun i => pdat α0 (L i)) i = α0 914 (L i) := rfl
    have ev : vD (fun i => pdat α0 (L i)) i = α0 915 (L i) := rfl
    refine bX13_cost_319 B h5.1.1 a1 a2 (v13 _ a3) b1 b2 (vL _ b3) (fun c => ?_) (fun c => ?_)
    · rw [rl]
      rw [rk] at c
      obtain ⟨a1, a2, a3, a4⟩ := h6.ar 915 (by decide)
      refine bX13_cost_358 B h6.1.1 a1 a2 (vL _ a3) ?_
      rw [a4, au_neF (by decide), aset_ne (by decide), aset_ne (by decide), k1 915 rfl, eL]
      exact tail _ (congrArg (fun z => ldk (kD (fun i => pdat α0 (L i))) (vD (fun i => pdat α0 (L i))) l0 i + z) (if_neg c))
    · rw [rl]
      rw [rk] at c
      obtain ⟨a1, a2, a3, a4⟩ := h6.ar 915 (by decide)
      refine bX13_cost_348 B h6.1.1 a1 a2 (vL _ a3) ?_
      rw [a4, au_neF (by decide), aset_ne (by decide), aset_ne (by decide), k1 915 rfl, eL]
      exact tail _ (congrArg (fun z => ldk (kD (fun i => pdat α0 (L i))) (vD (fun i => pdat α0 (L i))) l0 i + z) (if_pos c))
end LM2
section MC2
variable {l : Launch} {w : Wd} {S : St} {m0 s0 ah : Nat} {A : Nat → Nat}
/-- the load at the depot of a line -/
def l0L (α : Ab) (L : Nat → Nat) (n : Nat) : Int32 := ld0 (fun i => α 914 (L i)) (fun i => α 915 (L i)) n
/-- what cost() leaves -/
def CQ (α α' : Ab) (L : Nat → Nat) (n v : Nat) : Prop :=
  (∀ F, scrC F = false → α' F = α F) ∧ α' 926 0 = (finW (α 897) (fun i => pdat α (L i)) (α 898 0) (α 899 0) (α 911 v) n).2.2.2.2.1 ∧ α' 927 0 = (wk (α 897) (fun i => pdat α (L i)) (t00 (α 898 0) (α 899 0) (α 911 v)) n).2 ∧ α' 928 0 = (finW (α 897) (fun i => pdat α (L i)) (α 898 0) (α 899 0) (α 911 v) n).2.2.2.1 ∧ α' 929 0 = (finW (α 897) (fun i => pdat α (L i)) (α 898 0) (α 899 0) (α 911 v) n).2.2.2.2.2 ∧ α' 930 0 = glk (kD (fun i => pdat α (L i))) (vD (fun i => pdat α (L i))) (l0L α L n) n ∧
  ∀ j, j < n → α' 923 j = nowW (α 897) (pdat α (L j)) (wk (α 897) (fun i => pdat α (L i)) (t00 (α 898 0) (α 899 0) (α 911 v)) j).1 ∧ α' 924 j = lateW (α 897) (pdat α (L j)) (wk (α 897) (fun i => pdat α (L i)) (t00 (α 898 0) (α 899 0) (α 911 v)) j).1 ∧ α' 925 j = ldk (kD (fun i => pdat α (L i))) (vD (fun i => pdat α (L i))) (l0L α L n) (j + 1)
set_option maxRecDepth 100000 in
theorem c_mcost {α : Ab} {n v : Nat} {L : Nat → Nat} (h : MR S m0 s0 ah A α) (hL : Line α n L) (hv : v < 4) (hT : Tok (α 897) (fun i => pdat α (L i)) (t00 (α 898 0) (α 899 0) (α 911 v)) (α 898 0) (α 899 0) n) (hE : okT (α 912 v)) :
    ConI l yX13_cost (wsOf yX13_cost cX13_cost 14 (some .int)) rX13_cost w S [.ref m0, .int (nI v)] (fun r S' => r = costW (α 897) (fun i => pdat α (L i)) (α 898 0) (α 899 0) (α 911 v) (α 912 v) n ∧ ∃ α', MR S' m0 s0 ah A α' ∧ CQ α α' L n v) := by
  refine con_I (by decide +kernel) rfl (Nat.le_of_ble_eq_true rfl) (fun p e s m args below meth c B => ?_)
  obtain ⟨a1, a2, a3, a4⟩ := h.ar 911 (by decide)
  have ev : (nI v).toNatClampNeg = v := nI_clamp (by omega)
  have e8 : gI S 898 m0 = α 898 0 := h.sc 898 (by decide)
  have e9 : gI S 899 m0 = α 899 0 := h.sc 899 (by decide)
  refine bX13_cost_0 B h.1.1 a1 a2 (by rw [a3]; exact vp_in_nI hv (by decide)) ?_
  rw [a4, ev, e8, e9]
  refine l_mload B h hL (bX13_cost_79 B h.1.1 ?_) n 0 (by omega)
  have h1 := h.setS (F := 926) (by decide) 0
  have h2 := h1.setS (F := 927) (by decide) 0
  have h3 := h2.setS (F := 929) (by decide) 0
  have h4 := h3.setS (F := 930) (by decide) (l0L α L n)
  refine l_mcost (l0 := l0L α L n) (t0 := t00 (α 898 0) (α 899 0) (α 911 v)) B hL hT (fun S' α' h' g1 g2 g3 g4 g5 g6 => ?_) n 0 (by omega) _ _ h4 ⟨fun F hF => ?_, rfl, rfl, rfl, rfl, fun j hj => absurd hj (by omega)⟩
  · obtain ⟨b1, b2, b3, b4⟩ := h'.ar 912 (by decide)
    have e912 : rI S' (A 912) (nI v).toNatClampNeg = α 912 v := by rw [b4, ev, g1 912 rfl]
    have e26 : gI S' 926 m0 = _ := (h'.sc 926 (by decide)).trans g2
    have e27 : gI S' 927 m0 = _ := (h'.sc 927 (by decide)).trans g3
    refine bX13_cost_400 B h'.1.1 b1 b2 (by rw [b3]; exact vp_in_nI hv (by decide)) ⟨?_, _, h'.setS (F := 928) (by decide) _, ?_⟩
    · rw [e26, e27, e912, pos_sub hT.2.2 hE]
      rfl
    · refine ⟨fun F hF => (au_neF (scr_ne hF rfl)).trans (g1 F hF), ?_, ?_, au_same, ?_, ?_, fun j hj => ?_⟩
      · rw [au_ne (by decide)]; exact g2
      · rw [au_ne (by decide)]; exact g3
      · rw [au_ne (by decide)]; exact g4
      · rw [au_ne (by decide)]; exact g5
      · rw [au_neF (by decide), au_neF (by decide), au_neF (by decide)]; exact g6 j hj
  · rw [au_neF (scr_ne hF rfl), au_neF (scr_ne hF rfl), au_neF (scr_ne hF rfl), au_neF (scr_ne hF rfl)]
end MC2
