/-! THE STATE of a system of objects as one value: kd: the kind of what lies at an address (0: nothing; class ci of vwCl: ci + 1; 21 int[], 22 Parcel[], 23 Object[]); gI, gP: int and reference fields by field number (64 * class + place) and address; ln: an array's length; rI, rP: an array's places. -/
abbrev St : Type := (Nat → Nat) × (Nat → Nat → Int32) × (Nat → Nat → Option Nat) × (Nat → Nat) × (Nat → Nat → Int32) × (Nat → Nat → Option Nat)
def kd (S : St) (a : Nat) : Nat := S.1 a
def gI (S : St) (f a : Nat) : Int32 := S.2.1 f a
def gP (S : St) (f a : Nat) : Option Nat := S.2.2.1 f a
def ln (S : St) (a : Nat) : Nat := S.2.2.2.1 a
def rI (S : St) (a : Nat) : Nat → Int32 := S.2.2.2.2.1 a
def rP (S : St) (a : Nat) : Nat → Option Nat := S.2.2.2.2.2 a
def sI (S : St) (f a : Nat) (v : Int32) : St := (S.1, fun f' a' => if f' = f ∧ a' = a then v else S.2.1 f' a', S.2.2)
def sP (S : St) (f a : Nat) (v : Option Nat) : St := (S.1, S.2.1, fun f' a' => if f' = f ∧ a' = a then v else S.2.2.1 f' a', S.2.2.2)
def sRI (S : St) (a : Nat) (g : Nat → Int32) : St := (S.1, S.2.1, S.2.2.1, S.2.2.2.1, fun a' => if a' = a then g else S.2.2.2.2.1 a', S.2.2.2.2.2)
def sRP (S : St) (a : Nat) (g : Nat → Option Nat) : St := (S.1, S.2.1, S.2.2.1, S.2.2.2.1, S.2.2.2.2.1, fun a' => if a' = a then g else S.2.2.2.2.2 a')
def nw (S : St) (a k n : Nat) : St := (fun a' => if a' = a then k else S.1 a', fun f a' => if a' = a then 0 else S.2.1 f a', fun f a' => if a' = a then none else S.2.2.1 f a', fun a' => if a' = a then n else S.2.2.2.1 a', fun a' => if a' = a then (fun _ => 0) else S.2.2.2.2.1 a', fun a' => if a' = a then (fun _ => none) else S.2.2.2.2.2 a')
theorem kd_sI (S : St) (f0 a0 : Nat) (v : Int32) (a : Nat) : kd (sI S f0 a0 v) a = kd S a := rfl
theorem kd_sP (S : St) (f0 a0 : Nat) (v : Option Nat) (a : Nat) : kd (sP S f0 a0 v) a = kd S a := rfl
theorem kd_sRI (S : St) (a0 : Nat) (v : Nat → Int32) (a : Nat) : kd (sRI S a0 v) a = kd S a := rfl
theorem kd_sRP (S : St) (a0 : Nat) (v : Nat → Option Nat) (a : Nat) : kd (sRP S a0 v) a = kd S a := rfl
theorem kd_nw (S : St) (a0 k n : Nat) (a : Nat) : kd (nw S a0 k n) a = if a = a0 then k else kd S a := rfl
theorem gI_sI (S : St) (f0 a0 : Nat) (v : Int32) (f a : Nat) : gI (sI S f0 a0 v) f a = if f = f0 ∧ a = a0 then v else gI S f a := rfl
theorem gI_sP (S : St) (f0 a0 : Nat) (v : Option Nat) (f a : Nat) : gI (sP S f0 a0 v) f a = gI S f a := rfl
theorem gI_sRI (S : St) (a0 : Nat) (v : Nat → Int32) (f a : Nat) : gI (sRI S a0 v) f a = gI S f a := rfl
theorem gI_sRP (S : St) (a0 : Nat) (v : Nat → Option Nat) (f a : Nat) : gI (sRP S a0 v) f a = gI S f a := rfl
theorem gI_nw (S : St) (a0 k n : Nat) (f a : Nat) : gI (nw S a0 k n) f a = if a = a0 then 0 else gI S f a := rfl
theorem gP_sI (S : St) (f0 a0 : Nat) (v : Int32) (f a : Nat) : gP (sI S f0 a0 v) f a = gP S f a := rfl
theorem gP_sP (S : St) (f0 a0 : Nat) (v : Option Nat) (f a : Nat) : gP (sP S f0 a0 v) f a = if f = f0 ∧ a = a0 then v else gP S f a := rfl
theorem gP_sRI (S : St) (a0 : Nat) (v : Nat → Int32) (f a : Nat) : gP (sRI S a0 v) f a = gP S f a := rfl
theorem gP_sRP (S : St) (a0 : Nat) (v : Nat → Option Nat) (f a : Nat) : gP (sRP S a0 v) f a = gP S f a := rfl
theorem gP_nw (S : St) (a0 k n : Nat) (f a : Nat) : gP (nw S a0 k n) f a = if a = a0 then none else gP S f a := rfl
theorem ln_sI (S : St) (f0 a0 : Nat) (v : Int32) (a : Nat) : ln (sI S f0 a0 v) a = ln S a := rfl
theorem ln_sP (S : St) (f0 a0 : Nat) (v : Option Nat) (a : Nat) : ln (sP S f0 a0 v) a = ln S a := rfl
theorem ln_sRI (S : St) (a0 : Nat) (v : Nat → Int32) (a : Nat) : ln (sRI S a0 v) a = ln S a := rfl
theorem ln_sRP (S : St) (a0 : Nat) (v : Nat → Option Nat) (a : Nat) : ln (sRP S a0 v) a = ln S a := rfl
theorem ln_nw (S : St) (a0 k n : Nat) (a : Nat) : ln (nw S a0 k n) a = if a = a0 then n else ln S a := rfl
theorem rI_sI (S : St) (f0 a0 : Nat) (v : Int32) (a : Nat) : rI (sI S f0 a0 v) a = rI S a := rfl
theorem rI_sP (S : St) (f0 a0 : Nat) (v : Option Nat) (a : Nat) : rI (sP S f0 a0 v) a = rI S a := rfl
theorem rI_sRI (S : St) (a0 : Nat) (v : Nat → Int32) (a : Nat) : rI (sRI S a0 v) a = if a = a0 then v else rI S a := rfl
theorem rI_sRP (S : St) (a0 : Nat) (v : Nat → Option Nat) (a : Nat) : rI (sRP S a0 v) a = rI S a := rfl
theorem rI_nw (S : St) (a0 k n : Nat) (a : Nat) : rI (nw S a0 k n) a = if a = a0 then (fun _ => 0) else rI S a := rfl
theorem rP_sI (S : St) (f0 a0 : Nat) (v : Int32) (a : Nat) : rP (sI S f0 a0 v) a = rP S a := rfl
theorem rP_sP (S : St) (f0 a0 : Nat) (v : Option Nat) (a : Nat) : rP (sP S f0 a0 v) a = rP S a := rfl
theorem rP_sRI (S : St) (a0 : Nat) (v : Nat → Int32) (a : Nat) : rP (sRI S a0 v) a = rP S a := rfl
theorem rP_sRP (S : St) (a0 : Nat) (v : Nat → Option Nat) (a : Nat) : rP (sRP S a0 v) a = if a = a0 then v else rP S a := rfl
theorem rP_nw (S : St) (a0 k n : Nat) (a : Nat) : rP (nw S a0 k n) a = if a = a0 then (fun _ => none) else rP S a := rfl
def nf : Nat → Nat
  | 0 => 3
  | 1 => 3
  | 2 => 4
  | 3 => 3
  | 4 => 14
  | 5 => 2
  | 6 => 6
  | 7 => 2
  | 8 => 6
  | 9 => 2
  | 10 => 6
  | 11 => 5
  | 12 => 11
  | 13 => 15
  | 14 => 36
  | _ => 0
/-- which fields hold references -/
def isR : Nat → Nat → Bool
  | 0, 1 => true
  | 1, 2 => true
  | 2, 0 => true
  | 2, 2 => true
  | 3, 0 => true
  | 3, 1 => true
  | 3, 2 => true
  | 4, 4 => true
  | 4, 7 => true
  | 4, 13 => true
  | 6, 0 => true
  | 6, 1 => true
  | 6, 2 => true
  | 6, 3 => true
  | 7, 0 => true
  | 8, 0 => true
  | 8, 1 => true
  | 8, 2 => true
  | 8, 3 => true
  | 8, 4 => true
  | 9, 0 => true
  | 9, 1 => true
  | 10, 0 => true
  | 10, 1 => true
  | 11, 4 => true
  | 12, 0 => true
  | 12, 1 => true
  | 12, 2 => true
  | 12, 3 => true
  | 12, 4 => true
  | 12, 5 => true
  | 12, 6 => true
  | 12, 7 => true
  | 12, 8 => true
  | 12, 9 => true
  | 13, 2 => true
  | 13, 3 => true
  | 13, 4 => true
  | 13, 5 => true
  | 13, 6 => true
  | 13, 7 => true
  | 13, 8 => true
  | 13, 9 => true
  | 13, 14 => true
  | 14, 1 => true
  | 14, 5 => true
  | 14, 6 => true
  | 14, 7 => true
  | 14, 8 => true
  | 14, 9 => true
  | 14, 11 => true
  | 14, 12 => true
  | 14, 14 => true
  | 14, 15 => true
  | 14, 16 => true
  | 14, 18 => true
  | 14, 19 => true
  | 14, 20 => true
  | 14, 21 => true
  | 14, 22 => true
  | 14, 23 => true
  | 14, 24 => true
  | 14, 25 => true
  | 14, 27 => true
  | 14, 28 => true
  | 14, 29 => true
  | _, _ => false
def NF : List (String × Nat × String × String × String × String) := [("LastMile$Locker", 22, "LastMile", "BOX_VOLUMES", "[I", "LastMile"), ("LastMileModel", 135, "LastMileModel$State", "free", "[I", "LastMileModel"), ("LastMileModel", 144, "LastMileModel$State", "where", "[I", "LastMileModel"), ("LastMileModel", 147, "LastMileModel$State", "how", "[I", "LastMileModel"), ("LastMileModel", 157, "LastMileModel$State", "attempts", "[I", "LastMileModel"), ("LastMileModel", 169, "LastMileModel$State", "many", "[I", "LastMileModel"), ("LastMileModel", 175, "LastMileModel$State", "route", "[I", "LastMileModel"), ("LastMileModel", 252, "LastMileModel$State", "day", "I", "LastMileModel"), ("LastMileModel", 268, "LastMileModel$State", "latest", "I", "LastMileModel"), ("LastMileModel$State", 102, "LastMileModel", "homeX", "[I", "LastMileModel"), ("LastMileModel$State", 105, "LastMileModel", "homeY", "[I", "LastMileModel"), ("LastMileModel$State", 108, "LastMileModel", "lockerX", "[I", "LastMileModel"), ("LastMileModel$State", 111, "LastMileModel", "lockerY", "[I", "LastMileModel"), ("LastMileModel$State", 121, "LastMileModel", "from", "[I", "LastMileModel"), ("LastMileModel$State", 135, "LastMileModel", "start", "[I", "LastMileModel"), ("LastMileModel$State", 138, "LastMileModel", "depotX", "I", "LastMileModel"), ("LastMileModel$State", 141, "LastMileModel", "depotY", "I", "LastMileModel"), ("LastMileModel$State", 144, "LastMileModel", "end", "[I", "LastMileModel"), ("LastMileModel$State", 150, "LastMileModel", "parcels", "I", "LastMileModel"), ("LastMileModel$State", 54, "LastMileModel", "vans", "I", "LastMileModel"), ("LastMileModel$State", 57, "LastMileModel", "volume", "[I", "LastMileModel"), ("LastMileModel$State", 84, "LastMileModel", "hours", "[I", "LastMileModel"), ("LastMileModel$State", 87, "LastMileModel", "homeOf", "[I", "LastMileModel"), ("LastMileModel$State", 90, "LastMileModel", "orders", "[I", "LastMileModel"), ("LastMileModel$State", 93, "LastMileModel", "order", "[I", "LastMileModel"), ("LastMileModel$State", 99, "LastMileModel", "kind", "[I", "LastMileModel")]
def NM : List (String × Nat × MethodName × String) := [("LastMile", 52, ⟨"LastMile$Choice", "<init>", "()V"⟩, "LastMile"), ("LastMile", 59, ⟨"LastMile$Route", "<init>", "()V"⟩, "LastMile"), ("LastMile$Van", 9, ⟨"LastMile$Route", "<init>", "()V"⟩, "LastMile"), ("LastMileModel", 67, ⟨"LastMileModel$State", "<init>", "(LLastMileModel;)V"⟩, "LastMileModel"), ("LastMileModel$State", 69, ⟨"LastMileModel", "apart", "(IIII)I"⟩, "LastMileModel"), ("LastMileModel$State", 73, ⟨"LastMileModel", "minutes", "(II)I"⟩, "LastMileModel")]
abbrev Wd : Type := va_G × ClassId × ClassId × ClassId × ClassId × va_W × (Nat → Prop) × Nat × Nat × Nat
def wD (w : Wd) : va_G := w.1
def wI (w : Wd) : ClassId := w.2.1
def wP (w : Wd) : ClassId := w.2.2.1
def wO (w : Wd) : ClassId := w.2.2.2.1
def wL (w : Wd) : ClassId := w.2.2.2.2.1
def wX (w : Wd) : va_W := w.2.2.2.2.2.1
def wA (w : Wd) : Nat → Prop := w.2.2.2.2.2.2.1
def wB (w : Wd) : Nat := w.2.2.2.2.2.2.2.1
def wE (w : Wd) : Nat := w.2.2.2.2.2.2.2.2.1
def wM (w : Wd) : Nat := w.2.2.2.2.2.2.2.2.2
abbrev wTy (w : Wd) : List (ClassId × FieldType) := [(wI w, .int), (wP w, .object "LastMile$Parcel"), (wO w, .object "java/lang/Object"), (wL w, .long)]
def fv (S : St) (ci a j : Nat) : Value := if isR ci j = true then va_rf (gP S (64 * ci + j) a) else .int (gI S (64 * ci + j) a)
def cellOf (w : Wd) (S : St) (a : Nat) : va_E :=
  if kd S a = 21 then .inl (wI w, ln S a, .inl (rI S a))
  else if kd S a = 22 then .inl (wP w, ln S a, .inr (.inr (.inr (.inr (rP S a)))))
  else if kd S a = 23 then .inl (wO w, ln S a, .inr (.inr (.inr (.inr (rP S a)))))
  else .inr (kd S a - 1, (List.range (nf (kd S a - 1))).map (fv S (kd S a - 1) a))
/-- the heap holds the state S beside the cells wX w -/
def Hd (w : Wd) (S : St) (H : Heap) : Prop := ∃ L : List Nat, (∀ a, kd S a ≠ 0 → a ∈ L) ∧ va_P (wD w) vwCl (wX w ++ va_pl L (cellOf w S)) H ∧ va_D (wA w) (wX w ++ va_pl L (cellOf w S))
theorem cellOf_obj {w : Wd} {S : St} {a ci : Nat} (h : kd S a = ci + 1) (h15 : ci < 15) : cellOf w S a = .inr (ci, (List.range (nf ci)).map (fv S ci a)) := by
  unfold cellOf
  rw [if_neg (by omega), if_neg (by omega), if_neg (by omega), h, Nat.add_sub_cancel]
theorem cellOf_21 {w : Wd} {S : St} {a : Nat} (h : kd S a = 21) : cellOf w S a = .inl (wI w, ln S a, .inl (rI S a)) := by
  unfold cellOf; rw [if_pos h]
theorem cellOf_22 {w : Wd} {S : St} {a : Nat} (h : kd S a = 22) : cellOf w S a = .inl (wP w, ln S a, .inr (.inr (.inr (.inr (rP S a))))) := by
  unfold cellOf; rw [if_neg (by omega), if_pos h]
theorem cellOf_23 {w : Wd} {S : St} {a : Nat} (h : kd S a = 23) : cellOf w S a = .inl (wO w, ln S a, .inr (.inr (.inr (.inr (rP S a))))) := by
  unfold cellOf; rw [if_neg (by omega), if_neg (by omega), if_pos h]
theorem cellOf_congr {w : Wd} {S S' : St} {a : Nat} (h1 : kd S' a = kd S a) (h2 : ln S' a = ln S a) (h3 : rI S' a = rI S a) (h4 : rP S' a = rP S a) (h5 : ∀ f, gI S' f a = gI S f a) (h6 : ∀ f, gP S' f a = gP S f a) : cellOf w S' a = cellOf w S a := by
  unfold cellOf fv
  simp only [h1, h2, h3, h4, h5, h6]
theorem map_set_range {α : Type} (f g : Nat → α) (n j : Nat) (hg : ∀ i, i ≠ j → g i = f i) : ((List.range n).map f).set j (g j) = (List.range n).map g := by
  apply List.ext_getElem?
  intro i
  by_cases hij : i = j
  · subst hij
    by_cases hn : i < n
    · rw [List.getElem?_set_self (by simpa using hn)]
      simp [hn]
    · rw [List.getElem?_eq_none (by simpa using hn), List.getElem?_eq_none (by simpa using hn)]
  · rw [List.getElem?_set_ne (Ne.symm hij)]
    by_cases hn : i < n
    · simp [hn, hg i hij]
    · rw [List.getElem?_eq_none (by simpa using hn), List.getElem?_eq_none (by simpa using hn)]
theorem up_sI {w : Wd} {S : St} {a ci j f : Nat} {v : Int32} (h : kd S a = ci + 1) (h15 : ci < 15) (hf : f = 64 * ci + j) (hr : isR ci j = false) : ∀ b, va_up (cellOf w S) a (.inr (ci, ((List.range (nf ci)).map (fv S ci a)).set j (.int v))) b = cellOf w (sI S f a v) b := by
  intro b
  by_cases hb : b = a
  · subst hb
    rw [va_up_self, cellOf_obj (S := sI S f b v) (by rw [kd_sI]; exact h) h15]
    have e : fv (sI S f b v) ci b j = .int v := by
      unfold fv
      rw [hr, gI_sI, hf]; simp
    rw [← e, map_set_range (fv S ci b) (fv (sI S f b v) ci b) (nf ci) j ?_]
    intro i hi
    unfold fv
    rw [gP_sI, gI_sI, if_neg (show ¬ (64 * ci + i = f ∧ b = b) from fun z => by omega)]
  · rw [va_up_ne _ _ hb]
    exact (cellOf_congr (kd_sI ..) (ln_sI ..) (rI_sI ..) (rP_sI ..) (fun f' => by rw [gI_sI, if_neg (fun z => hb z.2)]) (fun f' => gP_sI ..)).symm
theorem up_sP {w : Wd} {S : St} {a ci j f : Nat} {v : Option Nat} (h : kd S a = ci + 1) (h15 : ci < 15) (hf : f = 64 * ci + j) (hr : isR ci j = true) : ∀ b, va_up (cellOf w S) a (.inr (ci, ((List.range (nf ci)).map (fv S ci a)).set j (va_rf v))) b = cellOf w (sP S f a v) b := by
  intro b
  by_cases hb : b = a
  · subst hb
    rw [va_up_self, cellOf_obj (S := sP S f b v) (by rw [kd_sP]; exact h) h15]
    have e : fv (sP S f b v) ci b j = va_rf v := by
      unfold fv
      rw [hr, gP_sP, hf]; simp
    rw [← e, map_set_range (fv S ci b) (fv (sP S f b v) ci b) (nf ci) j ?_]
    intro i hi
    unfold fv
    rw [gI_sP, gP_sP, if_neg (show ¬ (64 * ci + i = f ∧ b = b) from fun z => by omega)]
  · rw [va_up_ne _ _ hb]
    exact (cellOf_congr (kd_sP ..) (ln_sP ..) (rI_sP ..) (rP_sP ..) (fun f' => gI_sP ..) (fun f' => by rw [gP_sP, if_neg (fun z => hb z.2)])).symm
theorem up_sRI {w : Wd} {S : St} {a : Nat} {g : Nat → Int32} (h : kd S a = 21) : ∀ b, va_up (cellOf w S) a (.inl (wI w, ln S a, .inl g)) b = cellOf w (sRI S a g) b := by
  intro b
  by_cases hb : b = a
  · subst hb
    rw [va_up_self, cellOf_21 (S := sRI S b g) (by rw [kd_sRI]; exact h), ln_sRI, rI_sRI, if_pos rfl]
  · rw [va_up_ne _ _ hb]
    exact (cellOf_congr (kd_sRI ..) (ln_sRI ..) (by rw [rI_sRI, if_neg hb]) (rP_sRI ..) (fun f' => gI_sRI ..) (fun f' => gP_sRI ..)).symm
theorem up_sRP {w : Wd} {S : St} {a : Nat} {g : Nat → Option Nat} (h : kd S a = 22) : ∀ b, va_up (cellOf w S) a (.inl (wP w, ln S a, .inr (.inr (.inr (.inr g))))) b = cellOf w (sRP S a g) b := by
  intro b
  by_cases hb : b = a
  · subst hb
    rw [va_up_self, cellOf_22 (S := sRP S b g) (by rw [kd_sRP]; exact h), ln_sRP, rP_sRP, if_pos rfl]
  · rw [va_up_ne _ _ hb]
    exact (cellOf_congr (kd_sRP ..) (ln_sRP ..) (rI_sRP ..) (by rw [rP_sRP, if_neg hb]) (fun f' => gI_sRP ..) (fun f' => gP_sRP ..)).symm
theorem up_sRO {w : Wd} {S : St} {a : Nat} {g : Nat → Option Nat} (h : kd S a = 23) : ∀ b, va_up (cellOf w S) a (.inl (wO w, ln S a, .inr (.inr (.inr (.inr g))))) b = cellOf w (sRP S a g) b := by
  intro b
  by_cases hb : b = a
  · subst hb
    rw [va_up_self, cellOf_23 (S := sRP S b g) (by rw [kd_sRP]; exact h), ln_sRP, rP_sRP, if_pos rfl]
  · rw [va_up_ne _ _ hb]
    exact (cellOf_congr (kd_sRP ..) (ln_sRP ..) (rI_sRP ..) (by rw [rP_sRP, if_neg hb]) (fun f' => gI_sRP ..) (fun f' => gP_sRP ..)).symm
theorem up_nw {w : Wd} {S : St} {a k n : Nat} {x : va_E} (hx : cellOf w (nw S a k n) a = x) : ∀ b, va_up (cellOf w S) a x b = cellOf w (nw S a k n) b := by
  intro b
  by_cases hb : b = a
  · subst hb
    rw [va_up_self, hx]
  · rw [va_up_ne _ _ hb]
    exact (cellOf_congr (by rw [kd_nw, if_neg hb]) (by rw [ln_nw, if_neg hb]) (by rw [rI_nw, if_neg hb]) (by rw [rP_nw, if_neg hb]) (fun f' => by rw [gI_nw, if_neg hb]) (fun f' => by rw [gP_nw, if_neg hb])).symm
/-- what a launch gives and no call changes: the two static arrays, and the nest words -/
def Zn (U : State) : Prop := (∀ q ∈ NF, va_Nw (.fieldLinkNest q.1 q.2.1 q.2.2.1 q.2.2.2.1 q.2.2.2.2.1 q.2.2.2.2.2) U) ∧ ∀ q ∈ NM, va_Nw (.methodLinkNest q.1 q.2.1 q.2.2.1 q.2.2.2) U
theorem Zn.warm {u U : State} (hW : u.WarmedH U.vm) (h : Zn u) : Zn U := ⟨fun q hq => va_Nw.warmF hW (h.1 q hq), fun q hq => va_Nw.warmM hW (h.2 q hq)⟩
theorem Zn.same {u U : State} (hW : u.vm = U.vm) (h : Zn u) : Zn U := ⟨fun q hq => va_tabs rfl hW (h.1 q hq), fun q hq => va_tabs rfl hW (h.2 q hq)⟩
def NS : List (Nat × String) := [(119, "a home is not its own neighbour"), (174, "it does not wait, it is on a route, or the route would not be possible"), (185, "it is on no route"), (320, "there is no such number"), (323, "a value is out of its range"), (325, "there are as many as there may be")]
def nIO : String := "java/lang/IndexOutOfBoundsException"
def nIA : String := "java/lang/IllegalArgumentException"
def nIS : String := "java/lang/IllegalStateException"
def NC : List (String × String) := [(nIO, nIO), (nIA, nIA), (nIS, nIS)]
def NX : List (String × String) := [(nIO, nIA), (nIO, nIS), (nIA, nIO), (nIA, nIS), (nIS, nIO), (nIS, nIA)]
def ND : List MethodName := [Bundle.initS "java/lang/RuntimeException", Bundle.initS "java/lang/Exception", Bundle.initS Bundle.tN]
/-- what throwing asks of the start -/
def Zt (w : Wd) (U : State) (H : Heap) : Prop := vx_Zq Bundle.tN "UNASSIGNED_STACK" Bundle.steD (wA w) U H ∧ vx_Zq Bundle.tN "SUPPRESSED_SENTINEL" Bundle.listD (wA w) U H ∧ (∀ q ∈ NS, ∃ sa, vk_R "LastMile" q.1 q.2 sa U) ∧ (∀ q ∈ NC, va_Nw (.castable q.1 q.2) U) ∧ (∀ q ∈ NX, va_Nc q.1 q.2 U) ∧ ∀ q ∈ ND, va_Nw (.declares q) U
theorem Zt.go {w : Wd} {u U : State} {H H1 : Heap} (h : Zt w u H) (hvm : u.WarmedH U.vm) (hq : ∀ a : Nat, a < H.size → ¬ (wA w) a → H1[a]? = H[a]?) : Zt w U H1 :=
  ⟨(h.1.kept hq).moved hvm.alike, (h.2.1.kept hq).moved hvm.alike, fun q hm => (h.2.2.1 q hm).imp fun _ z => z.warm hvm, fun q hm => va_Nw.warmC hvm (h.2.2.2.1 q hm), fun q hm => (h.2.2.2.2.1 q hm).moved hvm.alike, fun q hm => va_Nw.warmD hvm (h.2.2.2.2.2 q hm)⟩
theorem Zt.same {w : Wd} {u U : State} {H : Heap} (h : Zt w u H) (hvm : u.vm = U.vm) : Zt w U H :=
  ⟨h.1.moved (hvm ▸ Vm.Alike.refl u.vm), h.2.1.moved (hvm ▸ Vm.Alike.refl u.vm), fun q hm => (h.2.2.1 q hm).imp fun _ z => z.same hvm.symm, fun q hm => va_tabs rfl hvm (h.2.2.2.1 q hm), fun q hm => (h.2.2.2.2.1 q hm).moved (hvm ▸ Vm.Alike.refl u.vm), fun q hm => va_tabs rfl hvm (h.2.2.2.2.2 q hm)⟩
/-- what a list's growing asks of the start -/
def NOb : List String := ["LastMile$Home", "LastMile$Locker", "LastMile$Parcel", "LastMile$Van"]
def Zo (w : Wd) (U : State) : Prop := va_Mi "[Ljava/lang/Object;" (wM w) U ∧ va_Dc U ∧ ∀ q ∈ NOb, va_Nw (.castable q "java/lang/Object") U
theorem Zo.warm {w : Wd} {u U : State} (hW : u.WarmedH U.vm) (h : Zo w u) : Zo w U := ⟨h.1.moved hW.alike, h.2.1.moved hW.alike, fun q hm => va_Nw.warmC hW (h.2.2 q hm)⟩
theorem Zo.same {w : Wd} {u U : State} (hW : u.vm = U.vm) (h : Zo w u) : Zo w U := ⟨h.1.moved (hW ▸ Vm.Alike.refl u.vm), h.2.1.moved (hW ▸ Vm.Alike.refl u.vm), fun q hm => va_tabs rfl hW (h.2.2 q hm)⟩
def Zs (w : Wd) (U : State) (H : Heap) : Prop :=
  (va_Z "LastMile" "BOX_VOLUMES" "[I" (.ref (wB w)) (wA w) U H ∧ va_T .int (wB w) 3 (fun j => .int (if j = 0 then 5 else if j = 1 then 15 else 40)) (wA w) U H) ∧
  (va_Z "java/util/ArrayList" "DEFAULTCAPACITY_EMPTY_ELEMENTDATA" "[Ljava/lang/Object;" (.ref (wE w)) (wA w) U H ∧ va_T (.object "java/lang/Object") (wE w) 0 (fun _ => .null) (wA w) U H) ∧ (va_AO "LastMile$Parcel" U ∧ va_AO "java/lang/Object" U ∧ Zo w U) ∧ Zn U ∧ Zt w U H
theorem Zs.go {w : Wd} {u U : State} {H H1 : Heap} (h : Zs w u H) (hvm : u.WarmedH U.vm) (hq : ∀ a : Nat, a < H.size → ¬ (wA w) a → H1[a]? = H[a]?) : Zs w U H1 :=
  ⟨⟨(h.1.1.kept hq).moved hvm.alike, (h.1.2.kept hq).moved hvm.alike⟩, ⟨(h.2.1.1.kept hq).moved hvm.alike, (h.2.1.2.kept hq).moved hvm.alike⟩, ⟨h.2.2.1.1.moved hvm.alike, h.2.2.1.2.1.moved hvm.alike, h.2.2.1.2.2.warm hvm⟩, h.2.2.2.1.warm hvm, h.2.2.2.2.go hvm hq⟩
theorem Zs.same {w : Wd} {u U : State} {H : Heap} (h : Zs w u H) (hvm : u.vm = U.vm) : Zs w U H :=
  ⟨⟨h.1.1.moved (hvm ▸ Vm.Alike.refl u.vm), h.1.2.moved (hvm ▸ Vm.Alike.refl u.vm)⟩, ⟨h.2.1.1.moved (hvm ▸ Vm.Alike.refl u.vm), h.2.1.2.moved (hvm ▸ Vm.Alike.refl u.vm)⟩, ⟨h.2.2.1.1.moved (hvm ▸ Vm.Alike.refl u.vm), h.2.2.1.2.1.moved (hvm ▸ Vm.Alike.refl u.vm), h.2.2.1.2.2.same hvm⟩, h.2.2.2.1.same hvm, h.2.2.2.2.same hvm⟩
/-- the body of a method: its machine, code, words, tables -/
def Bd (p : Program) (s : State) (m : MethodId) (args : Array Value) (meth : Method) (c : Code) (cc : ByteArray) (nL : Nat) (Ts : List Cond) (own : String) (w : Wd) (ret : Option FieldType) (nm : String) : Prop :=
  CallFix p m c cc nL s args Ts own ∧ va_K (wD w) vwCl (wTy w) s ∧ (∀ q, s.heap.size ≤ q → wA w q) ∧ Zs w s s.heap ∧ meth.locks = false ∧ meth.sig.returnType = ret ∧ meth.name = nm
/-- from every heap that holds the state S, the machine at this frame comes to an end with Q -/
def K (p : Program) (l : Launch) (e : Env) (R : Room) (s : State) (m : MethodId) (args : Array Value) (below : List Frame) (meth : Method) (c : Code) (nL : Nat) (w : Wd) (k n : Nat) (Q : State → Prop) (S : St) (pc : Nat) (lst : List (Nat × Value)) (st : List Value) : Prop :=
  ∀ (H : Heap) (locs : List Loc) (ls : Array Slot), Hd w S H → va_S (wA w) s.heap H locs → lv_has ls nL lst → W p l e R s m args below meth c H locs k n Q (F0 m pc ls st)
section BASE
variable {p : Program} {l : Launch} {e : Env} {R : Room} {s : State} {m : MethodId} {args : Array Value} {below : List Frame} {meth : Method} {c : Code} {nL : Nat} {w : Wd} {k n : Nat} {Q : State → Prop} {S : St} {pc : Nat} {lst : List (Nat × Value)} {st : List Value} {cc : ByteArray} {Ts : List Cond} {own : String} {ret : Option FieldType} {nm : String}
theorem k_iconst (B : Bd p s m args meth c cc nL Ts own w ret nm) {i : Int} {v : Int32} (hv : Int32.ofInt i = v) (hd : decode cc pc = .ok (.iconst i, 1)) (kk : K p l e R s m args below meth c nL w k n Q S (pc + 1) lst (.int v :: st)) : K p l e R s m args below meth c nL w k n Q S pc lst st := fun H locs ls h1 h2 h3 => lv_iconst B.1.1 B.1.2.1 hd hv (kk H locs ls h1 h2 h3)
theorem k_bipush (B : Bd p s m args meth c cc nL Ts own w ret nm) {i : Int} {v : Int32} (hv : (Int8.ofInt i).toInt32 = v) (hd : decode cc pc = .ok (.bipush i, 2)) (kk : K p l e R s m args below meth c nL w k n Q S (pc + 2) lst (.int v :: st)) : K p l e R s m args below meth c nL w k n Q S pc lst st := fun H locs ls h1 h2 h3 => lv_bipush B.1.1 B.1.2.1 hd hv (kk H locs ls h1 h2 h3)
theorem k_sipush (B : Bd p s m args meth c cc nL Ts own w ret nm) {i : Int} {v : Int32} (hv : (Int16.ofInt i).toInt32 = v) (hd : decode cc pc = .ok (.sipush i, 3)) (kk : K p l e R s m args below meth c nL w k n Q S (pc + 3) lst (.int v :: st)) : K p l e R s m args below meth c nL w k n Q S pc lst st := fun H locs ls h1 h2 h3 => lv_sipush B.1.1 B.1.2.1 hd hv (kk H locs ls h1 h2 h3)
theorem k_ldc (B : Bd p s m args meth c cc nL Ts own w ret nm) {idx : Nat} {v : Int32} (hc : Cond.constant own idx v ∈ Ts) (hd : decode cc pc = .ok (.ldc idx, 2)) (kk : K p l e R s m args below meth c nL w k n Q S (pc + 2) lst (.int v :: st)) : K p l e R s m args below meth c nL w k n Q S pc lst st := fun H locs ls h1 h2 h3 => lv_ldc B.1.1 B.1.2.1 B.1.2.2.2.1 (B.1.2.2.2.2 _ hc) hd (kk H locs ls h1 h2 h3)
theorem k_ldcw (B : Bd p s m args meth c cc nL Ts own w ret nm) {idx : Nat} {v : Int32} (hc : Cond.constant own idx v ∈ Ts) (hd : decode cc pc = .ok (.ldc_w idx, 3)) (kk : K p l e R s m args below meth c nL w k n Q S (pc + 3) lst (.int v :: st)) : K p l e R s m args below meth c nL w k n Q S pc lst st := fun H locs ls h1 h2 h3 => lv_ldcw B.1.1 B.1.2.1 B.1.2.2.2.1 (B.1.2.2.2.2 _ hc) hd (kk H locs ls h1 h2 h3)
theorem k_ldc2 (B : Bd p s m args meth c cc nL Ts own w ret nm) {idx : Nat} {v : Int64} (hc : Cond.constantLong own idx v ∈ Ts) (hd : decode cc pc = .ok (.ldc2_w idx, 3)) (kk : K p l e R s m args below meth c nL w k n Q S (pc + 3) lst (.long v :: st)) : K p l e R s m args below meth c nL w k n Q S pc lst st := fun H locs ls h1 h2 h3 => lv_ldc2 B.1.1 B.1.2.1 B.1.2.2.2.1 (B.1.2.2.2.2 _ hc) hd (kk H locs ls h1 h2 h3)
theorem k_iadd (B : Bd p s m args meth c cc nL Ts own w ret nm) {x y : Int32} (hd : decode cc pc = .ok (.iadd, 1)) (kk : K p l e R s m args below meth c nL w k n Q S (pc + 1) lst (.int (x + y) :: st)) : K p l e R s m args below meth c nL w k n Q S pc lst (.int y :: .int x :: st) := fun H locs ls h1 h2 h3 => lv_iadd B.1.1 B.1.2.1 hd (kk H locs ls h1 h2 h3)
theorem k_isub (B : Bd p s m args meth c cc nL Ts own w ret nm) {x y : Int32} (hd : decode cc pc = .ok (.isub, 1)) (kk : K p l e R s m args below meth c nL w k n Q S (pc + 1) lst (.int (x - y) :: st)) : K p l e R s m args below meth c nL w k n Q S pc lst (.int y :: .int x :: st) := fun H locs ls h1 h2 h3 => lv_isub B.1.1 B.1.2.1 hd (kk H locs ls h1 h2 h3)
theorem k_imul (B : Bd p s m args meth c cc nL Ts own w ret nm) {x y : Int32} (hd : decode cc pc = .ok (.imul, 1)) (kk : K p l e R s m args below meth c nL w k n Q S (pc + 1) lst (.int (x * y) :: st)) : K p l e R s m args below meth c nL w k n Q S pc lst (.int y :: .int x :: st) := fun H locs ls h1 h2 h3 => lv_imul B.1.1 B.1.2.1 hd (kk H locs ls h1 h2 h3)
theorem k_iand (B : Bd p s m args meth c cc nL Ts own w ret nm) {x y : Int32} (hd : decode cc pc = .ok (.iand, 1)) (kk : K p l e R s m args below meth c nL w k n Q S (pc + 1) lst (.int (x &&& y) :: st)) : K p l e R s m args below meth c nL w k n Q S pc lst (.int y :: .int x :: st) := fun H locs ls h1 h2 h3 => lv_iand B.1.1 B.1.2.1 hd (kk H locs ls h1 h2 h3)
theorem k_idiv (B : Bd p s m args meth c cc nL Ts own w ret nm) {x y : Int32} (hy : ¬ y = 0) (hd : decode cc pc = .ok (.idiv, 1)) (kk : K p l e R s m args below meth c nL w k n Q S (pc + 1) lst (.int (x / y) :: st)) : K p l e R s m args below meth c nL w k n Q S pc lst (.int y :: .int x :: st) := fun H locs ls h1 h2 h3 => lv_idiv B.1.1 B.1.2.1 hd hy (kk H locs ls h1 h2 h3)
theorem k_ladd (B : Bd p s m args meth c cc nL Ts own w ret nm) {x y : Int64} (hd : decode cc pc = .ok (.ladd, 1)) (kk : K p l e R s m args below meth c nL w k n Q S (pc + 1) lst (.long (x + y) :: st)) : K p l e R s m args below meth c nL w k n Q S pc lst (.long y :: .long x :: st) := fun H locs ls h1 h2 h3 => lv_ladd B.1.1 B.1.2.1 hd (kk H locs ls h1 h2 h3)
theorem k_lmul (B : Bd p s m args meth c cc nL Ts own w ret nm) {x y : Int64} (hd : decode cc pc = .ok (.lmul, 1)) (kk : K p l e R s m args below meth c nL w k n Q S (pc + 1) lst (.long (x * y) :: st)) : K p l e R s m args below meth c nL w k n Q S pc lst (.long y :: .long x :: st) := fun H locs ls h1 h2 h3 => lv_lmul B.1.1 B.1.2.1 hd (kk H locs ls h1 h2 h3)
theorem k_irem (B : Bd p s m args meth c cc nL Ts own w ret nm) {x y : Int32} (hy : ¬ y = 0) (hd : decode cc pc = .ok (.irem, 1)) (kk : K p l e R s m args below meth c nL w k n Q S (pc + 1) lst (.int (x - x / y * y) :: st)) : K p l e R s m args below meth c nL w k n Q S pc lst (.int y :: .int x :: st) := fun H locs ls h1 h2 h3 => lv_irem B.1.1 B.1.2.1 hd hy (kk H locs ls h1 h2 h3)
theorem k_ineg (B : Bd p s m args meth c cc nL Ts own w ret nm) {x : Int32} (hd : decode cc pc = .ok (.ineg, 1)) (kk : K p l e R s m args below meth c nL w k n Q S (pc + 1) lst (.int (-x) :: st)) : K p l e R s m args below meth c nL w k n Q S pc lst (.int x :: st) := fun H locs ls h1 h2 h3 => lv_ineg B.1.1 B.1.2.1 hd (kk H locs ls h1 h2 h3)
theorem k_ishr (B : Bd p s m args meth c cc nL Ts own w ret nm) {x y : Int32} (hd : decode cc pc = .ok (.ishr, 1)) (kk : K p l e R s m args below meth c nL w k n Q S (pc + 1) lst (.int (x >>> (y &&& 31)) :: st)) : K p l e R s m args below meth c nL w k n Q S pc lst (.int y :: .int x :: st) := fun H locs ls h1 h2 h3 => lv_ishr B.1.1 B.1.2.1 hd (kk H locs ls h1 h2 h3)
theorem k_null (B : Bd p s m args meth c cc nL Ts own w ret nm) (hd : decode cc pc = .ok (.aconst_null, 1)) (kk : K p l e R s m args below meth c nL w k n Q S (pc + 1) lst (va_rf none :: st)) : K p l e R s m args below meth c nL w k n Q S pc lst st := fun H locs ls h1 h2 h3 => lv_null B.1.1 B.1.2.1 hd (kk H locs ls h1 h2 h3)
theorem k_i2l (B : Bd p s m args meth c cc nL Ts own w ret nm) {x : Int32} (hd : decode cc pc = .ok (.i2l, 1)) (kk : K p l e R s m args below meth c nL w k n Q S (pc + 1) lst (.long x.toInt64 :: st)) : K p l e R s m args below meth c nL w k n Q S pc lst (.int x :: st) := fun H locs ls h1 h2 h3 => lv_i2l B.1.1 B.1.2.1 hd rfl (kk H locs ls h1 h2 h3)
theorem k_pop (B : Bd p s m args meth c cc nL Ts own w ret nm) {v : Value} (hc : v.category = 1) (hd : decode cc pc = .ok (.pop, 1)) (kk : K p l e R s m args below meth c nL w k n Q S (pc + 1) lst st) : K p l e R s m args below meth c nL w k n Q S pc lst (v :: st) := fun H locs ls h1 h2 h3 => lv_pop B.1.1 B.1.2.1 hd hc (kk H locs ls h1 h2 h3)
theorem k_dup (B : Bd p s m args meth c cc nL Ts own w ret nm) {v : Value} (hc : v.category = 1) (hd : decode cc pc = .ok (.dup, 1)) (kk : K p l e R s m args below meth c nL w k n Q S (pc + 1) lst (v :: v :: st)) : K p l e R s m args below meth c nL w k n Q S pc lst (v :: st) := fun H locs ls h1 h2 h3 => lv_dup B.1.1 B.1.2.1 hd hc (kk H locs ls h1 h2 h3)
theorem k_dup_x1 (B : Bd p s m args meth c cc nL Ts own w ret nm) {v u : Value} (hc : v.category = 1) (hc2 : u.category = 1) (hd : decode cc pc = .ok (.dup_x1, 1)) (kk : K p l e R s m args below meth c nL w k n Q S (pc + 1) lst (v :: u :: v :: st)) : K p l e R s m args below meth c nL w k n Q S pc lst (v :: u :: st) := fun H locs ls h1 h2 h3 => lv_dup_x1 B.1.1 B.1.2.1 hd hc hc2 (kk H locs ls h1 h2 h3)
theorem k_dup2 (B : Bd p s m args meth c cc nL Ts own w ret nm) {v u : Value} (hc : v.category = 1) (hc2 : u.category = 1) (hd : decode cc pc = .ok (.dup2, 1)) (kk : K p l e R s m args below meth c nL w k n Q S (pc + 1) lst (v :: u :: v :: u :: st)) : K p l e R s m args below meth c nL w k n Q S pc lst (v :: u :: st) := fun H locs ls h1 h2 h3 => lv_dup2_11 B.1.1 B.1.2.1 hd hc hc2 (kk H locs ls h1 h2 h3)
theorem k_iload_n (B : Bd p s m args meth c cc nL Ts own w ret nm) (j : Nat) {q : Fin 4} {i : Nat} {x : Int32} (hi : (q : Nat) = i) (hl : lst[j]? = some (i, .int x)) (hd : decode cc pc = .ok (.iload_n q, 1)) (kk : K p l e R s m args below meth c nL w k n Q S (pc + 1) lst (.int x :: st)) : K p l e R s m args below meth c nL w k n Q S pc lst st := fun H locs ls h1 h2 h3 => lv_iload_n B.1.1 B.1.2.1 hd hi (lv_at h3 j hl) (kk H locs ls h1 h2 h3)
theorem k_lload_n (B : Bd p s m args meth c cc nL Ts own w ret nm) (j : Nat) {q : Fin 4} {i : Nat} {x : Int64} (hi : (q : Nat) = i) (hl : lst[j]? = some (i, .long x)) (hd : decode cc pc = .ok (.lload_n q, 1)) (kk : K p l e R s m args below meth c nL w k n Q S (pc + 1) lst (.long x :: st)) : K p l e R s m args below meth c nL w k n Q S pc lst st := fun H locs ls h1 h2 h3 => lv_lload_n B.1.1 B.1.2.1 hd hi (lv_at h3 j hl) (kk H locs ls h1 h2 h3)
theorem k_aload_n (B : Bd p s m args meth c cc nL Ts own w ret nm) (j : Nat) {q : Fin 4} {i : Nat} {x : Nat} (hi : (q : Nat) = i) (hl : lst[j]? = some (i, .ref x)) (hd : decode cc pc = .ok (.aload_n q, 1)) (kk : K p l e R s m args below meth c nL w k n Q S (pc + 1) lst (.ref x :: st)) : K p l e R s m args below meth c nL w k n Q S pc lst st := fun H locs ls h1 h2 h3 => lv_aload_n B.1.1 B.1.2.1 hd hi (lv_at h3 j hl) (kk H locs ls h1 h2 h3)
theorem k_iload (B : Bd p s m args meth c cc nL Ts own w ret nm) (j : Nat) {i : Nat} {x : Int32} (hl : lst[j]? = some (i, .int x)) (hd : decode cc pc = .ok (.iload i, 2)) (kk : K p l e R s m args below meth c nL w k n Q S (pc + 2) lst (.int x :: st)) : K p l e R s m args below meth c nL w k n Q S pc lst st := fun H locs ls h1 h2 h3 => lv_iload B.1.1 B.1.2.1 hd (lv_at h3 j hl) (kk H locs ls h1 h2 h3)
theorem k_lload (B : Bd p s m args meth c cc nL Ts own w ret nm) (j : Nat) {i : Nat} {x : Int64} (hl : lst[j]? = some (i, .long x)) (hd : decode cc pc = .ok (.lload i, 2)) (kk : K p l e R s m args below meth c nL w k n Q S (pc + 2) lst (.long x :: st)) : K p l e R s m args below meth c nL w k n Q S pc lst st := fun H locs ls h1 h2 h3 => lv_lload B.1.1 B.1.2.1 hd (lv_at h3 j hl) (kk H locs ls h1 h2 h3)
theorem k_aload (B : Bd p s m args meth c cc nL Ts own w ret nm) (j : Nat) {i : Nat} {x : Nat} (hl : lst[j]? = some (i, .ref x)) (hd : decode cc pc = .ok (.aload i, 2)) (kk : K p l e R s m args below meth c nL w k n Q S (pc + 2) lst (.ref x :: st)) : K p l e R s m args below meth c nL w k n Q S pc lst st := fun H locs ls h1 h2 h3 => lv_aload B.1.1 B.1.2.1 hd (lv_at h3 j hl) (kk H locs ls h1 h2 h3)
theorem k_istore_n (B : Bd p s m args meth c cc nL Ts own w ret nm) {q : Fin 4} {i : Nat} {x : Int32} {lst' : List (Nat × Value)} (hi : (q : Nat) = i) (hn : i < nL) (hl : (i, Value.int x) :: lst.filter (fun q => !(q.1 == i) && !(q.1 + 1 == i && q.2.category == 2)) = lst') (hd : decode cc pc = .ok (.istore_n q, 1)) (kk : K p l e R s m args below meth c nL w k n Q S (pc + 1) lst' st) : K p l e R s m args below meth c nL w k n Q S pc lst (.int x :: st) := fun H locs ls h1 h2 h3 => lv_istore_n (lv' := lst') B.1.1 B.1.2.1 hd hi h3 hn hl (fun ls' h3' => kk H locs ls' h1 h2 h3')
theorem k_istore (B : Bd p s m args meth c cc nL Ts own w ret nm) {i : Nat} {x : Int32} {lst' : List (Nat × Value)} (hn : i < nL) (hl : (i, Value.int x) :: lst.filter (fun q => !(q.1 == i) && !(q.1 + 1 == i && q.2.category == 2)) = lst') (hd : decode cc pc = .ok (.istore i, 2)) (kk : K p l e R s m args below meth c nL w k n Q S (pc + 2) lst' st) : K p l e R s m args below meth c nL w k n Q S pc lst (.int x :: st) := fun H locs ls h1 h2 h3 => lv_istore (lv' := lst') B.1.1 B.1.2.1 hd h3 hn hl (fun ls' h3' => kk H locs ls' h1 h2 h3')
theorem k_lstore_n (B : Bd p s m args meth c cc nL Ts own w ret nm) {q : Fin 4} {i : Nat} {x : Int64} {lst' : List (Nat × Value)} (hi : (q : Nat) = i) (hn : i + 1 < nL) (hl : (i, Value.long x) :: lst.filter (fun q => !(q.1 == i) && (!(q.1 == i + 1) && !(q.1 + 1 == i && q.2.category == 2))) = lst') (hd : decode cc pc = .ok (.lstore_n q, 1)) (kk : K p l e R s m args below meth c nL w k n Q S (pc + 1) lst' st) : K p l e R s m args below meth c nL w k n Q S pc lst (.long x :: st) := fun H locs ls h1 h2 h3 => lv_lstore_n (lv' := lst') B.1.1 B.1.2.1 hd hi h3 hn hl (fun ls' h3' => kk H locs ls' h1 h2 h3')
theorem k_lstore (B : Bd p s m args meth c cc nL Ts own w ret nm) {i : Nat} {x : Int64} {lst' : List (Nat × Value)} (hn : i + 1 < nL) (hl : (i, Value.long x) :: lst.filter (fun q => !(q.1 == i) && (!(q.1 == i + 1) && !(q.1 + 1 == i && q.2.category == 2))) = lst') (hd : decode cc pc = .ok (.lstore i, 2)) (kk : K p l e R s m args below meth c nL w k n Q S (pc + 2) lst' st) : K p l e R s m args below meth c nL w k n Q S pc lst (.long x :: st) := fun H locs ls h1 h2 h3 => lv_lstore (lv' := lst') B.1.1 B.1.2.1 hd h3 hn hl (fun ls' h3' => kk H locs ls' h1 h2 h3')
theorem k_astore_n (B : Bd p s m args meth c cc nL Ts own w ret nm) {q : Fin 4} {i : Nat} {x : Nat} {lst' : List (Nat × Value)} (hi : (q : Nat) = i) (hn : i < nL) (hl : (i, Value.ref x) :: lst.filter (fun q => !(q.1 == i) && !(q.1 + 1 == i && q.2.category == 2)) = lst') (hd : decode cc pc = .ok (.astore_n q, 1)) (kk : K p l e R s m args below meth c nL w k n Q S (pc + 1) lst' st) : K p l e R s m args below meth c nL w k n Q S pc lst (.ref x :: st) := fun H locs ls h1 h2 h3 => lv_astore_n (lv' := lst') B.1.1 B.1.2.1 hd hi h3 hn hl (fun ls' h3' => kk H locs ls' h1 h2 h3')
theorem k_astore (B : Bd p s m args meth c cc nL Ts own w ret nm) {i : Nat} {x : Nat} {lst' : List (Nat × Value)} (hn : i < nL) (hl : (i, Value.ref x) :: lst.filter (fun q => !(q.1 == i) && !(q.1 + 1 == i && q.2.category == 2)) = lst') (hd : decode cc pc = .ok (.astore i, 2)) (kk : K p l e R s m args below meth c nL w k n Q S (pc + 2) lst' st) : K p l e R s m args below meth c nL w k n Q S pc lst (.ref x :: st) := fun H locs ls h1 h2 h3 => lv_astore (lv' := lst') B.1.1 B.1.2.1 hd h3 hn hl (fun ls' h3' => kk H locs ls' h1 h2 h3')
theorem k_iinc (B : Bd p s m args meth c cc nL Ts own w ret nm) (j : Nat) {i : Nat} {z : Int} {x v : Int32} {lst' : List (Nat × Value)} (hk : lst[j]? = some (i, .int x)) (hv : x + Int32.ofInt z = v) (hn : i < nL) (hl : (i, Value.int v) :: lst.filter (fun q => !(q.1 == i) && !(q.1 + 1 == i && q.2.category == 2)) = lst') (hd : decode cc pc = .ok (.iinc i z, 3)) (kk : K p l e R s m args below meth c nL w k n Q S (pc + 3) lst' st) : K p l e R s m args below meth c nL w k n Q S pc lst st := fun H locs ls h1 h2 h3 => lv_iinc (k := j) (lv' := lst') B.1.1 B.1.2.1 hd h3 hk hv hn hl (fun ls' h3' => kk H locs ls' h1 h2 h3')
theorem k_sub (ks : List Nat) {lst' : List (Nat × Value)} (hl : lv_pick lst ks = lst') (kk : K p l e R s m args below meth c nL w k n Q S pc lst' st) : K p l e R s m args below meth c nL w k n Q S pc lst st := fun H locs ls h1 h2 h3 => kk H locs ls h1 h2 (lv_sub h3 ks hl)
theorem k_eq {S' : St} {pc' : Nat} {lst' : List (Nat × Value)} {st' : List Value} (hS : S = S') (hpc : pc = pc') (hl : lst = lst') (hs : st = st') (kk : K p l e R s m args below meth c nL w k n Q S' pc' lst' st') : K p l e R s m args below meth c nL w k n Q S pc lst st := by subst hS; subst hpc; subst hl; subst hs; exact kk
theorem k_if_eq (B : Bd p s m args meth c cc nL Ts own w ret nm) {x : Int32} {off : Int} {tgt : Nat} (hd : decode cc pc = .ok (.ifCond .eq off, 3)) (ht : (pc : Int) + off = (tgt : Int)) (kt : x = 0 → K p l e R s m args below meth c nL w k n Q S tgt lst st) (kf : ¬ x = 0 → K p l e R s m args below meth c nL w k n Q S (pc + 3) lst st) : K p l e R s m args below meth c nL w k n Q S pc lst (.int x :: st) := fun H locs ls h1 h2 h3 => lv_if_eq B.1.1 B.1.2.1 hd ht (fun z => kt z H locs ls h1 h2 h3) (fun z => kf z H locs ls h1 h2 h3)
theorem k_icmp_eq (B : Bd p s m args meth c cc nL Ts own w ret nm) {x y : Int32} {off : Int} {tgt : Nat} (hd : decode cc pc = .ok (.if_icmp .eq off, 3)) (ht : (pc : Int) + off = (tgt : Int)) (kt : x = y → K p l e R s m args below meth c nL w k n Q S tgt lst st) (kf : ¬ x = y → K p l e R s m args below meth c nL w k n Q S (pc + 3) lst st) : K p l e R s m args below meth c nL w k n Q S pc lst (.int y :: .int x :: st) := fun H locs ls h1 h2 h3 => lv_icmp_eq B.1.1 B.1.2.1 hd ht (fun z => kt z H locs ls h1 h2 h3) (fun z => kf z H locs ls h1 h2 h3)
theorem k_if_ne (B : Bd p s m args meth c cc nL Ts own w ret nm) {x : Int32} {off : Int} {tgt : Nat} (hd : decode cc pc = .ok (.ifCond .ne off, 3)) (ht : (pc : Int) + off = (tgt : Int)) (kt : ¬ x = 0 → K p l e R s m args below meth c nL w k n Q S tgt lst st) (kf : x = 0 → K p l e R s m args below meth c nL w k n Q S (pc + 3) lst st) : K p l e R s m args below meth c nL w k n Q S pc lst (.int x :: st) := fun H locs ls h1 h2 h3 => lv_if_ne B.1.1 B.1.2.1 hd ht (fun z => kt z H locs ls h1 h2 h3) (fun z => kf z H locs ls h1 h2 h3)
theorem k_icmp_ne (B : Bd p s m args meth c cc nL Ts own w ret nm) {x y : Int32} {off : Int} {tgt : Nat} (hd : decode cc pc = .ok (.if_icmp .ne off, 3)) (ht : (pc : Int) + off = (tgt : Int)) (kt : ¬ x = y → K p l e R s m args below meth c nL w k n Q S tgt lst st) (kf : x = y → K p l e R s m args below meth c nL w k n Q S (pc + 3) lst st) : K p l e R s m args below meth c nL w k n Q S pc lst (.int y :: .int x :: st) := fun H locs ls h1 h2 h3 => lv_icmp_ne B.1.1 B.1.2.1 hd ht (fun z => kt z H locs ls h1 h2 h3) (fun z => kf z H locs ls h1 h2 h3)
theorem k_if_lt (B : Bd p s m args meth c cc nL Ts own w ret nm) {x : Int32} {off : Int} {tgt : Nat} (hd : decode cc pc = .ok (.ifCond .lt off, 3)) (ht : (pc : Int) + off = (tgt : Int)) (kt : x < 0 → K p l e R s m args below meth c nL w k n Q S tgt lst st) (kf : ¬ x < 0 → K p l e R s m args below meth c nL w k n Q S (pc + 3) lst st) : K p l e R s m args below meth c nL w k n Q S pc lst (.int x :: st) := fun H locs ls h1 h2 h3 => lv_if_lt B.1.1 B.1.2.1 hd ht (fun z => kt z H locs ls h1 h2 h3) (fun z => kf z H locs ls h1 h2 h3)
theorem k_icmp_lt (B : Bd p s m args meth c cc nL Ts own w ret nm) {x y : Int32} {off : Int} {tgt : Nat} (hd : decode cc pc = .ok (.if_icmp .lt off, 3)) (ht : (pc : Int) + off = (tgt : Int)) (kt : x < y → K p l e R s m args below meth c nL w k n Q S tgt lst st) (kf : ¬ x < y → K p l e R s m args below meth c nL w k n Q S (pc + 3) lst st) : K p l e R s m args below meth c nL w k n Q S pc lst (.int y :: .int x :: st) := fun H locs ls h1 h2 h3 => lv_icmp_lt B.1.1 B.1.2.1 hd ht (fun z => kt z H locs ls h1 h2 h3) (fun z => kf z H locs ls h1 h2 h3)
theorem k_if_ge (B : Bd p s m args meth c cc nL Ts own w ret nm) {x : Int32} {off : Int} {tgt : Nat} (hd : decode cc pc = .ok (.ifCond .ge off, 3)) (ht : (pc : Int) + off = (tgt : Int)) (kt : 0 ≤ x → K p l e R s m args below meth c nL w k n Q S tgt lst st) (kf : ¬ 0 ≤ x → K p l e R s m args below meth c nL w k n Q S (pc + 3) lst st) : K p l e R s m args below meth c nL w k n Q S pc lst (.int x :: st) := fun H locs ls h1 h2 h3 => lv_if_ge B.1.1 B.1.2.1 hd ht (fun z => kt z H locs ls h1 h2 h3) (fun z => kf z H locs ls h1 h2 h3)
theorem k_icmp_ge (B : Bd p s m args meth c cc nL Ts own w ret nm) {x y : Int32} {off : Int} {tgt : Nat} (hd : decode cc pc = .ok (.if_icmp .ge off, 3)) (ht : (pc : Int) + off = (tgt : Int)) (kt : y ≤ x → K p l e R s m args below meth c nL w k n Q S tgt lst st) (kf : ¬ y ≤ x → K p l e R s m args below meth c nL w k n Q S (pc + 3) lst st) : K p l e R s m args below meth c nL w k n Q S pc lst (.int y :: .int x :: st) := fun H locs ls h1 h2 h3 => lv_icmp_ge B.1.1 B.1.2.1 hd ht (fun z => kt z H locs ls h1 h2 h3) (fun z => kf z H locs ls h1 h2 h3)
theorem k_if_gt (B : Bd p s m args meth c cc nL Ts own w ret nm) {x : Int32} {off : Int} {tgt : Nat} (hd : decode cc pc = .ok (.ifCond .gt off, 3)) (ht : (pc : Int) + off = (tgt : Int)) (kt : 0 < x → K p l e R s m args below meth c nL w k n Q S tgt lst st) (kf : ¬ 0 < x → K p l e R s m args below meth c nL w k n Q S (pc + 3) lst st) : K p l e R s m args below meth c nL w k n Q S pc lst (.int x :: st) := fun H locs ls h1 h2 h3 => lv_if_gt B.1.1 B.1.2.1 hd ht (fun z => kt z H locs ls h1 h2 h3) (fun z => kf z H locs ls h1 h2 h3)
theorem k_icmp_gt (B : Bd p s m args meth c cc nL Ts own w ret nm) {x y : Int32} {off : Int} {tgt : Nat} (hd : decode cc pc = .ok (.if_icmp .gt off, 3)) (ht : (pc : Int) + off = (tgt : Int)) (kt : y < x → K p l e R s m args below meth c nL w k n Q S tgt lst st) (kf : ¬ y < x → K p l e R s m args below meth c nL w k n Q S (pc + 3) lst st) : K p l e R s m args below meth c nL w k n Q S pc lst (.int y :: .int x :: st) := fun H locs ls h1 h2 h3 => lv_icmp_gt B.1.1 B.1.2.1 hd ht (fun z => kt z H locs ls h1 h2 h3) (fun z => kf z H locs ls h1 h2 h3)
theorem k_if_le (B : Bd p s m args meth c cc nL Ts own w ret nm) {x : Int32} {off : Int} {tgt : Nat} (hd : decode cc pc = .ok (.ifCond .le off, 3)) (ht : (pc : Int) + off = (tgt : Int)) (kt : x ≤ 0 → K p l e R s m args below meth c nL w k n Q S tgt lst st) (kf : ¬ x ≤ 0 → K p l e R s m args below meth c nL w k n Q S (pc + 3) lst st) : K p l e R s m args below meth c nL w k n Q S pc lst (.int x :: st) := fun H locs ls h1 h2 h3 => lv_if_le B.1.1 B.1.2.1 hd ht (fun z => kt z H locs ls h1 h2 h3) (fun z => kf z H locs ls h1 h2 h3)
theorem k_icmp_le (B : Bd p s m args meth c cc nL Ts own w ret nm) {x y : Int32} {off : Int} {tgt : Nat} (hd : decode cc pc = .ok (.if_icmp .le off, 3)) (ht : (pc : Int) + off = (tgt : Int)) (kt : x ≤ y → K p l e R s m args below meth c nL w k n Q S tgt lst st) (kf : ¬ x ≤ y → K p l e R s m args below meth c nL w k n Q S (pc + 3) lst st) : K p l e R s m args below meth c nL w k n Q S pc lst (.int y :: .int x :: st) := fun H locs ls h1 h2 h3 => lv_icmp_le B.1.1 B.1.2.1 hd ht (fun z => kt z H locs ls h1 h2 h3) (fun z => kf z H locs ls h1 h2 h3)
theorem k_acmp_eq (B : Bd p s m args meth c cc nL Ts own w ret nm) {rx ry : Option Nat} {off : Int} {tgt : Nat} (hd : decode cc pc = .ok (.if_acmp .eq off, 3)) (ht : (pc : Int) + off = (tgt : Int)) (kt : rx = ry → K p l e R s m args below meth c nL w k n Q S tgt lst st) (kf : ¬ rx = ry → K p l e R s m args below meth c nL w k n Q S (pc + 3) lst st) : K p l e R s m args below meth c nL w k n Q S pc lst (va_rf ry :: va_rf rx :: st) := fun H locs ls h1 h2 h3 => lv_acmp_eq B.1.1 B.1.2.1 hd ht (fun z => kt z H locs ls h1 h2 h3) (fun z => kf z H locs ls h1 h2 h3)
theorem k_acmp_ne (B : Bd p s m args meth c cc nL Ts own w ret nm) {rx ry : Option Nat} {off : Int} {tgt : Nat} (hd : decode cc pc = .ok (.if_acmp .ne off, 3)) (ht : (pc : Int) + off = (tgt : Int)) (kt : ¬ rx = ry → K p l e R s m args below meth c nL w k n Q S tgt lst st) (kf : rx = ry → K p l e R s m args below meth c nL w k n Q S (pc + 3) lst st) : K p l e R s m args below meth c nL w k n Q S pc lst (va_rf ry :: va_rf rx :: st) := fun H locs ls h1 h2 h3 => lv_acmp_ne B.1.1 B.1.2.1 hd ht (fun z => kt z H locs ls h1 h2 h3) (fun z => kf z H locs ls h1 h2 h3)
theorem k_ifnonnull (B : Bd p s m args meth c cc nL Ts own w ret nm) {r : Option Nat} {off : Int} {tgt : Nat} (hd : decode cc pc = .ok (.ifnonnull off, 3)) (ht : (pc : Int) + off = (tgt : Int)) (kt : ∀ x, r = some x → K p l e R s m args below meth c nL w k n Q S tgt lst st) (kf : r = none → K p l e R s m args below meth c nL w k n Q S (pc + 3) lst st) : K p l e R s m args below meth c nL w k n Q S pc lst (va_rf r :: st) := fun H locs ls h1 h2 h3 => by
  cases r with
  | none => exact lv_ifnonnullN B.1.1 B.1.2.1 hd (kf rfl H locs ls h1 h2 h3)
  | some x => exact lv_ifnonnull B.1.1 B.1.2.1 hd ht (kt x rfl H locs ls h1 h2 h3)
theorem k_ifnull (B : Bd p s m args meth c cc nL Ts own w ret nm) {r : Option Nat} {off : Int} {tgt : Nat} (hd : decode cc pc = .ok (.ifnull off, 3)) (ht : (pc : Int) + off = (tgt : Int)) (kt : r = none → K p l e R s m args below meth c nL w k n Q S tgt lst st) (kf : ∀ x, r = some x → K p l e R s m args below meth c nL w k n Q S (pc + 3) lst st) : K p l e R s m args below meth c nL w k n Q S pc lst (va_rf r :: st) := fun H locs ls h1 h2 h3 => by
  cases r with
  | none => exact lv_ifnullN B.1.1 B.1.2.1 hd ht (kt rfl H locs ls h1 h2 h3)
  | some x => exact lv_ifnull B.1.1 B.1.2.1 hd (kf x rfl H locs ls h1 h2 h3)
theorem k_goto (B : Bd p s m args meth c cc nL Ts own w ret nm) {off : Int} {tgt : Nat} (hd : decode cc pc = .ok (.goto off, 3)) (ht : (pc : Int) + off = (tgt : Int)) (kk : K p l e R s m args below meth c nL w k n Q S tgt lst st) : K p l e R s m args below meth c nL w k n Q S pc lst st := fun H locs ls h1 h2 h3 => lv_goto B.1.1 B.1.2.1 hd ht (kk H locs ls h1 h2 h3)
theorem k_tabIn (B : Bd p s m args meth c cc nL Ts own w ret nm) {x : Int32} {dflt lo hi : Int} {offs : Array Int} {len : Nat} {off : Int} {tgt : Nat} (hd : decode cc pc = .ok (.tableswitch dflt lo hi offs, len)) (h1 : ¬ x.toInt < lo) (h2 : ¬ hi < x.toInt) (ho : offs[(x.toInt - lo).toNat]? = some off) (ht : (pc : Int) + off = (tgt : Int)) (kk : K p l e R s m args below meth c nL w k n Q S tgt lst st) : K p l e R s m args below meth c nL w k n Q S pc lst (.int x :: st) := fun H locs ls g1 g2 g3 => lv_tableIn B.1.1 B.1.2.1 hd h1 h2 ho ht (kk H locs ls g1 g2 g3)
theorem k_tabOut (B : Bd p s m args meth c cc nL Ts own w ret nm) {x : Int32} {dflt lo hi : Int} {offs : Array Int} {len : Nat} {tgt : Nat} (hd : decode cc pc = .ok (.tableswitch dflt lo hi offs, len)) (h : x.toInt < lo ∨ hi < x.toInt) (ht : (pc : Int) + dflt = (tgt : Int)) (kk : K p l e R s m args below meth c nL w k n Q S tgt lst st) : K p l e R s m args below meth c nL w k n Q S pc lst (.int x :: st) := fun H locs ls g1 g2 g3 => lv_tableOut B.1.1 B.1.2.1 hd h ht (kk H locs ls g1 g2 g3)
theorem k_getI (B : Bd p s m args meth c cc nL Ts own w ret nm) (ci j : Nat) {C : String} {T : u_T} {N idx a f : Nat} {v : Int32} (hc : vwCl[ci]? = some (C, T, N)) (hj : j < N) (hz : nf ci = N) (h15 : ci < 15) (hf : f = 64 * ci + j) (hr : isR ci j = false) (hin : ∀ w ∈ u_ws C T N, w ∈ Ts) (hl : Cond.fieldLink own idx (T j).1 (T j).2.1 (T j).2.2.1 ∈ Ts) (hd : decode cc pc = .ok (.getfield idx, 3)) (hk : kd S a = ci + 1) (hv : gI S f a = v) (kk : K p l e R s m args below meth c nL w k n Q S (pc + 3) lst (.int v :: st)) : K p l e R s m args below meth c nL w k n Q S pc lst (.ref a :: st) := fun H locs ls h1 h2 h3 => by
  obtain ⟨L, hL, hP, hD⟩ := h1
  obtain ⟨q0, hq⟩ := va_pl_get (X := wX w) (f := cellOf w S) (hL a (by omega))
  have he := hq
  rw [cellOf_obj hk h15] at he
  refine va_get (D := wD w) (cl := vwCl) B.1.1 B.1.2.1 B.1.2.2.2.2 hin B.1.2.2.2.1 B.2.1 hP q0 he hc j hj (B.1.2.2.2.2 _ hl) (fun _ h9 => h9) (v := .int v) ?_ hd (kk H locs ls ⟨L, hL, hP, hD⟩ h2 h3)
  rw [List.getElem?_map, List.getElem?_range (by omega)]
  simp only [Option.map_some, fv, hr, ← hf, hv]
  rfl
theorem k_getP (B : Bd p s m args meth c cc nL Ts own w ret nm) (ci j : Nat) {C : String} {T : u_T} {N idx a f : Nat} {r : Option Nat} (hc : vwCl[ci]? = some (C, T, N)) (hj : j < N) (hz : nf ci = N) (h15 : ci < 15) (hf : f = 64 * ci + j) (hr : isR ci j = true) (hin : ∀ w ∈ u_ws C T N, w ∈ Ts) (hl : Cond.fieldLink own idx (T j).1 (T j).2.1 (T j).2.2.1 ∈ Ts) (hd : decode cc pc = .ok (.getfield idx, 3)) (hk : kd S a = ci + 1) (hv : gP S f a = r) (kk : K p l e R s m args below meth c nL w k n Q S (pc + 3) lst (va_rf r :: st)) : K p l e R s m args below meth c nL w k n Q S pc lst (.ref a :: st) := fun H locs ls h1 h2 h3 => by
  obtain ⟨L, hL, hP, hD⟩ := h1
  obtain ⟨q0, hq⟩ := va_pl_get (X := wX w) (f := cellOf w S) (hL a (by omega))
  have he := hq
  rw [cellOf_obj hk h15] at he
  refine va_get (D := wD w) (cl := vwCl) B.1.1 B.1.2.1 B.1.2.2.2.2 hin B.1.2.2.2.1 B.2.1 hP q0 he hc j hj (B.1.2.2.2.2 _ hl) (fun _ h9 => h9) (v := va_rf r) ?_ hd (kk H locs ls ⟨L, hL, hP, hD⟩ h2 h3)
  rw [List.getElem?_map, List.getElem?_range (by omega)]
  simp only [Option.map_some, fv, hr, ← hf, hv]
  rfl
theorem k_getIN (B : Bd p s m args meth c cc nL Ts own w ret nm) (ci j : Nat) {C : String} {T : u_T} {N idx a f : Nat} {v : Int32} (hc : vwCl[ci]? = some (C, T, N)) (hj : j < N) (hz : nf ci = N) (h15 : ci < 15) (hf : f = 64 * ci + j) (hr : isR ci j = false) (hin : ∀ w ∈ u_ws C T N, w ∈ Ts) (host : String) (hl : va_Nw (.fieldLinkNest own idx (T j).1 (T j).2.1 (T j).2.2.1 host) s) (hd : decode cc pc = .ok (.getfield idx, 3)) (hk : kd S a = ci + 1) (hv : gI S f a = v) (kk : K p l e R s m args below meth c nL w k n Q S (pc + 3) lst (.int v :: st)) : K p l e R s m args below meth c nL w k n Q S pc lst (.ref a :: st) := fun H locs ls h1 h2 h3 => by
  obtain ⟨L, hL, hP, hD⟩ := h1
  obtain ⟨q0, hq⟩ := va_pl_get (X := wX w) (f := cellOf w S) (hL a (by omega))
  have he := hq
  rw [cellOf_obj hk h15] at he
  refine va_getN (D := wD w) (cl := vwCl) B.1.1 B.1.2.1 B.1.2.2.2.2 hin B.1.2.2.2.1 B.2.1 hP q0 he hc j hj (va_Nw.use rfl hl) (fun _ h9 => h9) (v := .int v) ?_ hd (kk H locs ls ⟨L, hL, hP, hD⟩ h2 h3)
  rw [List.getElem?_map, List.getElem?_range (by omega)]
  simp only [Option.map_some, fv, hr, ← hf, hv]
  rfl
theorem k_getPN (B : Bd p s m args meth c cc nL Ts own w ret nm) (ci j : Nat) {C : String} {T : u_T} {N idx a f : Nat} {r : Option Nat} (hc : vwCl[ci]? = some (C, T, N)) (hj : j < N) (hz : nf ci = N) (h15 : ci < 15) (hf : f = 64 * ci + j) (hr : isR ci j = true) (hin : ∀ w ∈ u_ws C T N, w ∈ Ts) (host : String) (hl : va_Nw (.fieldLinkNest own idx (T j).1 (T j).2.1 (T j).2.2.1 host) s) (hd : decode cc pc = .ok (.getfield idx, 3)) (hk : kd S a = ci + 1) (hv : gP S f a = r) (kk : K p l e R s m args below meth c nL w k n Q S (pc + 3) lst (va_rf r :: st)) : K p l e R s m args below meth c nL w k n Q S pc lst (.ref a :: st) := fun H locs ls h1 h2 h3 => by
  obtain ⟨L, hL, hP, hD⟩ := h1
  obtain ⟨q0, hq⟩ := va_pl_get (X := wX w) (f := cellOf w S) (hL a (by omega))
  have he := hq
  rw [cellOf_obj hk h15] at he
  refine va_getN (D := wD w) (cl := vwCl) B.1.1 B.1.2.1 B.1.2.2.2.2 hin B.1.2.2.2.1 B.2.1 hP q0 he hc j hj (va_Nw.use rfl hl) (fun _ h9 => h9) (v := va_rf r) ?_ hd (kk H locs ls ⟨L, hL, hP, hD⟩ h2 h3)
  rw [List.getElem?_map, List.getElem?_range (by omega)]
  simp only [Option.map_some, fv, hr, ← hf, hv]
  rfl
theorem k_putI (B : Bd p s m args meth c cc nL Ts own w ret nm) (ci j : Nat) {C : String} {T : u_T} {N idx a f : Nat} {v : Int32} (hc : vwCl[ci]? = some (C, T, N)) (hj : j < N) (hz : nf ci = N) (h15 : ci < 15) (hf : f = 64 * ci + j) (hr : isR ci j = false) (hin : ∀ w ∈ u_ws C T N, w ∈ Ts) (hl : Cond.fieldLink own idx (T j).1 (T j).2.1 (T j).2.2.1 ∈ Ts) (ty0 : Nat → FieldType) (hty : ∀ k, k < N → parseFieldDescriptor (T k).2.2.1 = some (ty0 k)) (hnm : ∀ a, a < N → ∀ b, b < N → a ≠ b → (T a).2.1 ≠ (T b).2.1) (hfin : (T j).2.2.2 = false) (hde : parseFieldDescriptor (T j).2.2.1 = some .int) (hd : decode cc pc = .ok (.putfield idx, 3)) (hk : kd S a = ci + 1) (kk : K p l e R s m args below meth c nL w k n Q (sI S f a v) (pc + 3) lst st) : K p l e R s m args below meth c nL w k n Q S pc lst (.int v :: .ref a :: st) := fun H locs ls h1 h2 h3 => by
  obtain ⟨L, hL, hP, hD⟩ := h1
  have haL := hL a (by omega)
  obtain ⟨q0, hq⟩ := va_pl_get (X := wX w) (f := cellOf w S) haL
  have he := hq
  rw [cellOf_obj hk h15] at he
  refine va_put (D := wD w) (cl := vwCl) (v := .int v) B.1.1 B.1.2.1 B.1.2.2.2.2 hin ty0 hty hnm B.1.2.2.2.1 B.2.1 hP hD h2 q0 he hc j hj (B.1.2.2.2.2 _ hl) (fun _ h9 => h9) hfin  hde rfl rfl (by simpa [hz] using hj) hd (fun H1 locs1 hP1 hD1 hS1 => ?_)
  have e : (wX w ++ va_pl L (cellOf w S)).set q0 (a, .inr (ci, ((List.range (nf ci)).map (fv S ci a)).set j (.int v))) = wX w ++ va_pl L (cellOf w (sI S f a v)) := by
    rw [va_pl_set hD haL hq]
    exact congrArg (fun l => wX w ++ l) (va_pl_congr (up_sI hk h15 hf hr))
  rw [e] at hP1 hD1
  exact kk H1 locs1 ls ⟨L, fun b hb => hL b (by rwa [kd_sI] at hb), hP1, hD1⟩ hS1 h3
theorem k_putP (B : Bd p s m args meth c cc nL Ts own w ret nm) (ci j : Nat) {C : String} {T : u_T} {N idx a f : Nat} {v : Option Nat} {ty : FieldType} (hc : vwCl[ci]? = some (C, T, N)) (hj : j < N) (hz : nf ci = N) (h15 : ci < 15) (hf : f = 64 * ci + j) (hr : isR ci j = true) (hin : ∀ w ∈ u_ws C T N, w ∈ Ts) (hl : Cond.fieldLink own idx (T j).1 (T j).2.1 (T j).2.2.1 ∈ Ts) (ty0 : Nat → FieldType) (hty : ∀ k, k < N → parseFieldDescriptor (T k).2.2.1 = some (ty0 k)) (hnm : ∀ a, a < N → ∀ b, b < N → a ≠ b → (T a).2.1 ≠ (T b).2.1) (hfin : (T j).2.2.2 = false) (hde : parseFieldDescriptor (T j).2.2.1 = some ty) (hna : narrow ty (va_rf v) = va_rf v) (hfi : fits ty (va_rf v) = true) (hd : decode cc pc = .ok (.putfield idx, 3)) (hk : kd S a = ci + 1) (kk : K p l e R s m args below meth c nL w k n Q (sP S f a v) (pc + 3) lst st) : K p l e R s m args below meth c nL w k n Q S pc lst (va_rf v :: .ref a :: st) := fun H locs ls h1 h2 h3 => by
  obtain ⟨L, hL, hP, hD⟩ := h1
  have haL := hL a (by omega)
  obtain ⟨q0, hq⟩ := va_pl_get (X := wX w) (f := cellOf w S) haL
  have he := hq
  rw [cellOf_obj hk h15] at he
  refine va_put (D := wD w) (cl := vwCl) (v := va_rf v) B.1.1 B.1.2.1 B.1.2.2.2.2 hin ty0 hty hnm B.1.2.2.2.1 B.2.1 hP hD h2 q0 he hc j hj (B.1.2.2.2.2 _ hl) (fun _ h9 => h9) hfin  hde hna hfi (by simpa [hz] using hj) hd (fun H1 locs1 hP1 hD1 hS1 => ?_)
  have e : (wX w ++ va_pl L (cellOf w S)).set q0 (a, .inr (ci, ((List.range (nf ci)).map (fv S ci a)).set j (va_rf v))) = wX w ++ va_pl L (cellOf w (sP S f a v)) := by
    rw [va_pl_set hD haL hq]
    exact congrArg (fun l => wX w ++ l) (va_pl_congr (up_sP hk h15 hf hr))
  rw [e] at hP1 hD1
  exact kk H1 locs1 ls ⟨L, fun b hb => hL b (by rwa [kd_sP] at hb), hP1, hD1⟩ hS1 h3
theorem k_putIF (B : Bd p s m args meth c cc nL Ts own w ret nm) (ci j : Nat) {C : String} {T : u_T} {N idx a f : Nat} {v : Int32} (hc : vwCl[ci]? = some (C, T, N)) (hj : j < N) (hz : nf ci = N) (h15 : ci < 15) (hf : f = 64 * ci + j) (hr : isR ci j = false) (hin : ∀ w ∈ u_ws C T N, w ∈ Ts) (hl : Cond.fieldLink own idx (T j).1 (T j).2.1 (T j).2.2.1 ∈ Ts) (ty0 : Nat → FieldType) (hty : ∀ k, k < N → parseFieldDescriptor (T k).2.2.1 = some (ty0 k)) (hnm : ∀ a, a < N → ∀ b, b < N → a ≠ b → (T a).2.1 ≠ (T b).2.1) (hfin : (T j).2.2.2 = true) (hin2 : nm = "<init>") (hdecl : (T j).1 = own) (hde : parseFieldDescriptor (T j).2.2.1 = some .int) (hd : decode cc pc = .ok (.putfield idx, 3)) (hk : kd S a = ci + 1) (kk : K p l e R s m args below meth c nL w k n Q (sI S f a v) (pc + 3) lst st) : K p l e R s m args below meth c nL w k n Q S pc lst (.int v :: .ref a :: st) := fun H locs ls h1 h2 h3 => by
  obtain ⟨L, hL, hP, hD⟩ := h1
  have haL := hL a (by omega)
  obtain ⟨q0, hq⟩ := va_pl_get (X := wX w) (f := cellOf w S) haL
  have he := hq
  rw [cellOf_obj hk h15] at he
  refine va_putF (D := wD w) (cl := vwCl) (v := .int v) B.1.1 B.1.2.1 B.1.2.2.2.2 hin ty0 hty hnm B.1.2.2.2.1 B.2.1 hP hD h2 q0 he hc j hj (B.1.2.2.2.2 _ hl) (fun _ h9 => h9) hfin (B.2.2.2.2.2.2.trans hin2) hdecl hde rfl rfl (by simpa [hz] using hj) hd (fun H1 locs1 hP1 hD1 hS1 => ?_)
  have e : (wX w ++ va_pl L (cellOf w S)).set q0 (a, .inr (ci, ((List.range (nf ci)).map (fv S ci a)).set j (.int v))) = wX w ++ va_pl L (cellOf w (sI S f a v)) := by
    rw [va_pl_set hD haL hq]
    exact congrArg (fun l => wX w ++ l) (va_pl_congr (up_sI hk h15 hf hr))
  rw [e] at hP1 hD1
  exact kk H1 locs1 ls ⟨L, fun b hb => hL b (by rwa [kd_sI] at hb), hP1, hD1⟩ hS1 h3
theorem k_putPF (B : Bd p s m args meth c cc nL Ts own w ret nm) (ci j : Nat) {C : String} {T : u_T} {N idx a f : Nat} {v : Option Nat} {ty : FieldType} (hc : vwCl[ci]? = some (C, T, N)) (hj : j < N) (hz : nf ci = N) (h15 : ci < 15) (hf : f = 64 * ci + j) (hr : isR ci j = true) (hin : ∀ w ∈ u_ws C T N, w ∈ Ts) (hl : Cond.fieldLink own idx (T j).1 (T j).2.1 (T j).2.2.1 ∈ Ts) (ty0 : Nat → FieldType) (hty : ∀ k, k < N → parseFieldDescriptor (T k).2.2.1 = some (ty0 k)) (hnm : ∀ a, a < N → ∀ b, b < N → a ≠ b → (T a).2.1 ≠ (T b).2.1) (hfin : (T j).2.2.2 = true) (hin2 : nm = "<init>") (hdecl : (T j).1 = own) (hde : parseFieldDescriptor (T j).2.2.1 = some ty) (hna : narrow ty (va_rf v) = va_rf v) (hfi : fits ty (va_rf v) = true) (hd : decode cc pc = .ok (.putfield idx, 3)) (hk : kd S a = ci + 1) (kk : K p l e R s m args below meth c nL w k n Q (sP S f a v) (pc + 3) lst st) : K p l e R s m args below meth c nL w k n Q S pc lst (va_rf v :: .ref a :: st) := fun H locs ls h1 h2 h3 => by
  obtain ⟨L, hL, hP, hD⟩ := h1
  have haL := hL a (by omega)
  obtain ⟨q0, hq⟩ := va_pl_get (X := wX w) (f := cellOf w S) haL
  have he := hq
  rw [cellOf_obj hk h15] at he
  refine va_putF (D := wD w) (cl := vwCl) (v := va_rf v) B.1.1 B.1.2.1 B.1.2.2.2.2 hin ty0 hty hnm B.1.2.2.2.1 B.2.1 hP hD h2 q0 he hc j hj (B.1.2.2.2.2 _ hl) (fun _ h9 => h9) hfin (B.2.2.2.2.2.2.trans hin2) hdecl hde hna hfi (by simpa [hz] using hj) hd (fun H1 locs1 hP1 hD1 hS1 => ?_)
  have e : (wX w ++ va_pl L (cellOf w S)).set q0 (a, .inr (ci, ((List.range (nf ci)).map (fv S ci a)).set j (va_rf v))) = wX w ++ va_pl L (cellOf w (sP S f a v)) := by
    rw [va_pl_set hD haL hq]
    exact congrArg (fun l => wX w ++ l) (va_pl_congr (up_sP hk h15 hf hr))
  rw [e] at hP1 hD1
  exact kk H1 locs1 ls ⟨L, fun b hb => hL b (by rwa [kd_sP] at hb), hP1, hD1⟩ hS1 h3
theorem k_iald (B : Bd p s m args meth c cc nL Ts own w ret nm) {a : Nat} {i v : Int32} (hd : decode cc pc = .ok (.iaload, 1)) (hk : kd S a = 21) (hin : vp_in i (ln S a)) (hv : rI S a i.toNatClampNeg = v) (kk : K p l e R s m args below meth c nL w k n Q S (pc + 1) lst (.int v :: st)) : K p l e R s m args below meth c nL w k n Q S pc lst (.int i :: .ref a :: st) := fun H locs ls h1 h2 h3 => by
  obtain ⟨L, hL, hP, hD⟩ := h1
  obtain ⟨q0, hq⟩ := va_pl_get (X := wX w) (f := cellOf w S) (hL a (by omega))
  have he := hq
  rw [cellOf_21 hk] at he
  exact va_iald (D := wD w) (cl := vwCl) B.1.1 B.1.2.1 B.2.1 hP q0 0 he rfl hin hd (by rw [hv]; exact kk H locs ls ⟨L, hL, hP, hD⟩ h2 h3)
theorem k_aald (B : Bd p s m args meth c cc nL Ts own w ret nm) {a : Nat} {i : Int32} {v : Option Nat} (hd : decode cc pc = .ok (.aaload, 1)) (hk : kd S a = 22) (hin : vp_in i (ln S a)) (hv : rP S a i.toNatClampNeg = v) (kk : K p l e R s m args below meth c nL w k n Q S (pc + 1) lst (va_rf v :: st)) : K p l e R s m args below meth c nL w k n Q S pc lst (.int i :: .ref a :: st) := fun H locs ls h1 h2 h3 => by
  obtain ⟨L, hL, hP, hD⟩ := h1
  obtain ⟨q0, hq⟩ := va_pl_get (X := wX w) (f := cellOf w S) (hL a (by omega))
  have he := hq
  rw [cellOf_22 hk] at he
  exact va_aldq (D := wD w) (cl := vwCl) B.1.1 B.1.2.1 B.2.1 hP q0 1 he rfl hin hd (by rw [hv]; exact kk H locs ls ⟨L, hL, hP, hD⟩ h2 h3)
theorem k_oald (B : Bd p s m args meth c cc nL Ts own w ret nm) {a : Nat} {i : Int32} {v : Option Nat} (hd : decode cc pc = .ok (.aaload, 1)) (hk : kd S a = 23) (hin : vp_in i (ln S a)) (hv : rP S a i.toNatClampNeg = v) (kk : K p l e R s m args below meth c nL w k n Q S (pc + 1) lst (va_rf v :: st)) : K p l e R s m args below meth c nL w k n Q S pc lst (.int i :: .ref a :: st) := fun H locs ls h1 h2 h3 => by
  obtain ⟨L, hL, hP, hD⟩ := h1
  obtain ⟨q0, hq⟩ := va_pl_get (X := wX w) (f := cellOf w S) (hL a (by omega))
  have he := hq
  rw [cellOf_23 hk] at he
  exact va_aldq (D := wD w) (cl := vwCl) B.1.1 B.1.2.1 B.2.1 hP q0 2 he rfl hin hd (by rw [hv]; exact kk H locs ls ⟨L, hL, hP, hD⟩ h2 h3)
theorem k_ilen (B : Bd p s m args meth c cc nL Ts own w ret nm) {a : Nat} {v : Int32} (hd : decode cc pc = .ok (.arraylength, 1)) (hk : kd S a = 21) (hv : nI (ln S a) = v) (kk : K p l e R s m args below meth c nL w k n Q S (pc + 1) lst (.int v :: st)) : K p l e R s m args below meth c nL w k n Q S pc lst (.ref a :: st) := fun H locs ls h1 h2 h3 => by
  obtain ⟨L, hL, hP, hD⟩ := h1
  obtain ⟨q0, hq⟩ := va_pl_get (X := wX w) (f := cellOf w S) (hL a (by omega))
  have he := hq
  rw [cellOf_21 hk] at he
  exact va_alen (D := wD w) (cl := vwCl) B.1.1 B.1.2.1 B.2.1 hP q0 0 he rfl hv hd (kk H locs ls ⟨L, hL, hP, hD⟩ h2 h3)
theorem k_alen (B : Bd p s m args meth c cc nL Ts own w ret nm) {a : Nat} {v : Int32} (hd : decode cc pc = .ok (.arraylength, 1)) (hk : kd S a = 22) (hv : nI (ln S a) = v) (kk : K p l e R s m args below meth c nL w k n Q S (pc + 1) lst (.int v :: st)) : K p l e R s m args below meth c nL w k n Q S pc lst (.ref a :: st) := fun H locs ls h1 h2 h3 => by
  obtain ⟨L, hL, hP, hD⟩ := h1
  obtain ⟨q0, hq⟩ := va_pl_get (X := wX w) (f := cellOf w S) (hL a (by omega))
  have he := hq
  rw [cellOf_22 hk] at he
  exact va_alen (D := wD w) (cl := vwCl) B.1.1 B.1.2.1 B.2.1 hP q0 1 he rfl hv hd (kk H locs ls ⟨L, hL, hP, hD⟩ h2 h3)
theorem k_olen (B : Bd p s m args meth c cc nL Ts own w ret nm) {a : Nat} {v : Int32} (hd : decode cc pc = .ok (.arraylength, 1)) (hk : kd S a = 23) (hv : nI (ln S a) = v) (kk : K p l e R s m args below meth c nL w k n Q S (pc + 1) lst (.int v :: st)) : K p l e R s m args below meth c nL w k n Q S pc lst (.ref a :: st) := fun H locs ls h1 h2 h3 => by
  obtain ⟨L, hL, hP, hD⟩ := h1
  obtain ⟨q0, hq⟩ := va_pl_get (X := wX w) (f := cellOf w S) (hL a (by omega))
  have he := hq
  rw [cellOf_23 hk] at he
  exact va_alen (D := wD w) (cl := vwCl) B.1.1 B.1.2.1 B.2.1 hP q0 2 he rfl hv hd (kk H locs ls ⟨L, hL, hP, hD⟩ h2 h3)
theorem sRI_sRI (S : St) (a : Nat) (g h : Nat → Int32) : sRI (sRI S a g) a h = sRI S a h := by
  unfold sRI
  simp only
  congr 5
  funext a'
  by_cases z : a' = a <;> simp [z]
theorem sRP_sRP (S : St) (a : Nat) (g h : Nat → Option Nat) : sRP (sRP S a g) a h = sRP S a h := by
  unfold sRP
  simp only
  congr 5
  funext a'
  by_cases z : a' = a <;> simp [z]
theorem upd_eq_up (f : Nat → Int32) (i : Nat) (x : Int32) : upd f i x = va_up f i x := by
  funext j; simp [upd, va_up]
theorem k_iast (B : Bd p s m args meth c cc nL Ts own w ret nm) {a : Nat} {i x : Int32} {g : Nat → Int32} {S' : St} (hd : decode cc pc = .ok (.iastore, 1)) (hk : kd S a = 21) (hin : vp_in i (ln S a)) (hg : rI S a = g) (hS9 : sRI S a (va_up g i.toNatClampNeg x) = S') (kk : K p l e R s m args below meth c nL w k n Q S' (pc + 1) lst st) : K p l e R s m args below meth c nL w k n Q S pc lst (.int x :: .int i :: .ref a :: st) := fun H locs ls h1 h2 h3 => by
  subst hg
  subst hS9
  obtain ⟨L, hL, hP, hD⟩ := h1
  have haL := hL a (by omega)
  obtain ⟨q0, hq⟩ := va_pl_get (X := wX w) (f := cellOf w S) haL
  have he := hq
  rw [cellOf_21 hk] at he
  refine va_iast (D := wD w) (cl := vwCl) B.1.1 B.1.2.1 B.2.1 hP hD h2 q0 0 he rfl hin hd (fun H1 locs1 hP1 hD1 hS1 => ?_)
  rw [upd_eq_up] at hP1 hD1
  have e : (wX w ++ va_pl L (cellOf w S)).set q0 (a, .inl (wI w, ln S a, .inl (va_up (rI S a) i.toNatClampNeg x))) = wX w ++ va_pl L (cellOf w (sRI S a (va_up (rI S a) i.toNatClampNeg x))) := by
    rw [va_pl_set hD haL hq]
    exact congrArg (fun l => wX w ++ l) (va_pl_congr (up_sRI hk))
  rw [e] at hP1 hD1
  exact kk H1 locs1 ls ⟨L, fun b hb => hL b (by rwa [kd_sRI] at hb), hP1, hD1⟩ hS1 h3
theorem k_aast (B : Bd p s m args meth c cc nL Ts own w ret nm) {a v : Nat} {i : Int32} {g : Nat → Option Nat} {S' : St} (hd : decode cc pc = .ok (.aastore, 1)) (hk : kd S a = 22) (hin : vp_in i (ln S a)) (hkv : kd S v = 5) (hg : rP S a = g) (hS9 : sRP S a (va_up g i.toNatClampNeg (some v)) = S') (kk : K p l e R s m args below meth c nL w k n Q S' (pc + 1) lst st) : K p l e R s m args below meth c nL w k n Q S pc lst (.ref v :: .int i :: .ref a :: st) := fun H locs ls h1 h2 h3 => by
  subst hg
  subst hS9
  obtain ⟨L, hL, hP, hD⟩ := h1
  have haL := hL a (by omega)
  have hvL := hL v (by omega)
  obtain ⟨q0, hq⟩ := va_pl_get (X := wX w) (f := cellOf w S) haL
  obtain ⟨q1, hq1⟩ := va_pl_get (X := wX w) (f := cellOf w S) hvL
  have he := hq
  rw [cellOf_22 hk] at he
  rw [cellOf_obj (ci := 4) hkv (by omega)] at hq1
  refine va_astq (D := wD w) (cl := vwCl) (r := (RX3, TX3, 14)) B.1.1 B.1.2.1 B.2.1 hP hD h2 q0 1 q1 4 he rfl hq1 rfl hin hd (fun H1 locs1 hP1 hD1 hS1 => ?_)
  have e : (wX w ++ va_pl L (cellOf w S)).set q0 (a, .inl (wP w, ln S a, .inr (.inr (.inr (.inr (va_up (rP S a) i.toNatClampNeg (some v))))))) = wX w ++ va_pl L (cellOf w (sRP S a (va_up (rP S a) i.toNatClampNeg (some v)))) := by
    rw [va_pl_set hD haL hq]
    exact congrArg (fun l => wX w ++ l) (va_pl_congr (up_sRP hk))
  rw [e] at hP1 hD1
  exact kk H1 locs1 ls ⟨L, fun b hb => hL b (by rwa [kd_sRP] at hb), hP1, hD1⟩ hS1 h3
theorem k_new (B : Bd p s m args meth c cc nL Ts own w ret nm) (ci : Nat) {C : String} {T : u_T} {N idx : Nat} (hc : vwCl[ci]? = some (C, T, N)) (hz : nf ci = N) (h15 : ci < 15) (ty : Nat → FieldType) (hty : ∀ k, k < N → parseFieldDescriptor (T k).2.2.1 = some (ty k)) (hdf : ∀ j, j < N → defaultValue (ty j) = if isR ci j = true then .null else .int 0) (hin : ∀ w ∈ u_ws C T N, w ∈ Ts) (hl : Cond.classLink own idx C ∈ Ts) (hi : Cond.instantiable C N ∈ Ts) (hni : Cond.initialized C ∈ Ts) (hcells : k + 1 ≤ R.cells) (hslots : n + N ≤ R.slots) (hd : decode cc pc = .ok (.new idx, 3)) (kk : ∀ q : Nat, kd S q = 0 → K p l e R s m args below meth c nL w (k + 1) (n + N) Q (nw S q (ci + 1) 0) (pc + 3) lst (.ref q :: st)) : K p l e R s m args below meth c nL w k n Q S pc lst st := fun H locs ls h1 h2 h3 => by
  obtain ⟨L, hL, hP, hD⟩ := h1
  have hfs : ∀ j, j < N → defaultValue (ty j) = vp_V ((List.range N).map (fun j => if isR ci j = true then Value.null else Value.int 0)) j := by
    intro j hj
    rw [hdf j hj]
    simp [vp_V, hj]
  refine va_new (D := wD w) (cl := vwCl) (ci := ci) B.1.1 B.1.2.1 B.1.2.2.2.2 hin ty hty B.1.2.2.2.1 (B.1.2.2.2.2 _ hl) (B.1.2.2.2.2 _ hi) (B.1.2.2.2.2 _ hni) B.2.1 hP hD h2 B.2.2.1 hc hfs hcells hslots hd (fun q H1 hP1 hD1 hS1 => ?_)
  have hqL : q ∉ L := by
    intro hq
    obtain ⟨q0, hq0⟩ := va_pl_get (X := wX w) (f := cellOf w S) hq
    have hl0 := (List.getElem?_eq_some_iff.mp hq0).1
    have := hD1.1 q0 (wX w ++ va_pl L (cellOf w S)).length (q, cellOf w S q) (q, .inr (ci, (List.range N).map (fun j => if isR ci j = true then Value.null else Value.int 0))) (by rw [List.getElem?_append_left hl0]; exact hq0) (by rw [List.getElem?_append_right (Nat.le_refl _), Nat.sub_self]; rfl) rfl
    omega
  have hq0 : kd S q = 0 := by
    by_cases z : kd S q = 0
    · exact z
    · exact absurd (hL q z) hqL
  have hx : cellOf w (nw S q (ci + 1) 0) q = .inr (ci, (List.range N).map (fun j => if isR ci j = true then Value.null else Value.int 0)) := by
    rw [cellOf_obj (ci := ci) (by rw [kd_nw, if_pos rfl]) h15, hz]
    congr 2
    apply List.map_congr_left
    intro j _
    unfold fv
    rw [gP_nw, gI_nw, if_pos rfl, if_pos rfl]
    rfl
  have e : (wX w ++ va_pl L (cellOf w S)) ++ [(q, .inr (ci, (List.range N).map (fun j => if isR ci j = true then Value.null else Value.int 0)))] = wX w ++ va_pl (L ++ [q]) (cellOf w (nw S q (ci + 1) 0)) := by
    rw [List.append_assoc, va_pl_push hqL]
    exact congrArg (fun l => wX w ++ l) (va_pl_congr (up_nw hx))
  rw [e] at hP1 hD1
  refine kk q hq0 H1 locs ls ⟨L ++ [q], fun b hb => ?_, hP1, hD1⟩ hS1 h3
  rw [kd_nw] at hb
  by_cases hbq : b = q
  · exact List.mem_append_right _ (by simp [hbq])
  · rw [if_neg hbq] at hb
    exact List.mem_append_left _ (hL b hb)
end BASE
