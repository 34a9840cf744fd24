/-! PURE: reading what was written -/
theorem gFF (S : xs_T) (i k : Nat) (v : Int32) (i' k' : Nat) : xF (sF S i k v) i' k' = if i' = i ∧ k' = k then v else xF S i' k' := by
  show va_up S.1 i (va_up (S.1 i) k v) i' k' = _
  by_cases h : i' = i
  · subst h
    rw [va_up_self]
    by_cases h2 : k' = k
    · subst h2; rw [va_up_self, if_pos ⟨rfl, rfl⟩]
    · rw [va_up_ne _ _ h2, if_neg (fun q => h2 q.2)]; rfl
  · rw [va_up_ne _ _ h, if_neg (fun q => h q.1)]; rfl
theorem gII (S : xs_T) (i k : Nat) (v : Int32) (i' k' : Nat) : xI (sI S i k v) i' k' = if i' = i ∧ k' = k then v else xI S i' k' := by
  show va_up S.2.1 i (va_up (S.2.1 i) k v) i' k' = _
  by_cases h : i' = i
  · subst h
    rw [va_up_self]
    by_cases h2 : k' = k
    · subst h2; rw [va_up_self, if_pos ⟨rfl, rfl⟩]
    · rw [va_up_ne _ _ h2, if_neg (fun q => h2 q.2)]; rfl
  · rw [va_up_ne _ _ h, if_neg (fun q => h q.1)]; rfl
theorem gLL (S : xs_T) (i k : Nat) (v : Int64) (i' k' : Nat) : xL (sL S i k v) i' k' = if i' = i ∧ k' = k then v else xL S i' k' := by
  show va_up S.2.2.1 i (va_up (S.2.2.1 i) k v) i' k' = _
  by_cases h : i' = i
  · subst h
    rw [va_up_self]
    by_cases h2 : k' = k
    · subst h2; rw [va_up_self, if_pos ⟨rfl, rfl⟩]
    · rw [va_up_ne _ _ h2, if_neg (fun q => h2 q.2)]; rfl
  · rw [va_up_ne _ _ h, if_neg (fun q => h q.1)]; rfl
theorem gLt (S : xs_T) (i : Nat) (f : Nat → Int64) (i' k' : Nat) : xL (tL S i f) i' k' = if i' = i then f k' else xL S i' k' := by
  show va_up S.2.2.1 i f i' k' = _
  by_cases h : i' = i
  · subst h; rw [va_up_self, if_pos rfl]
  · rw [va_up_ne _ _ h, if_neg h]; rfl
theorem gQQ (S : xs_T) (i k : Nat) (v : Option Nat) (i' k' : Nat) : xQ (sQ S i k v) i' k' = if i' = i ∧ k' = k then v else xQ S i' k' := by
  show va_up S.2.2.2.1 i (va_up (S.2.2.2.1 i) k v) i' k' = _
  by_cases h : i' = i
  · subst h
    rw [va_up_self]
    by_cases h2 : k' = k
    · subst h2; rw [va_up_self, if_pos ⟨rfl, rfl⟩]
    · rw [va_up_ne _ _ h2, if_neg (fun q => h2 q.2)]; rfl
  · rw [va_up_ne _ _ h, if_neg (fun q => h q.1)]; rfl
theorem gNN (S : xs_T) (i v i' : Nat) : xN (sN S i v) i' = if i' = i then v else xN S i' := by
  show va_up S.2.2.2.2 i v i' = _
  by_cases h : i' = i
  · subst h; rw [va_up_self, if_pos rfl]
  · rw [va_up_ne _ _ h, if_neg h]; rfl
theorem gFI (S : xs_T) (i k : Nat) (v : Int32) : xF (sI S i k v) = xF S := rfl
theorem gFL (S : xs_T) (i k : Nat) (v : Int64) : xF (sL S i k v) = xF S := rfl
theorem gFt (S : xs_T) (i : Nat) (f : Nat → Int64) : xF (tL S i f) = xF S := rfl
theorem gFQ (S : xs_T) (i k : Nat) (v : Option Nat) : xF (sQ S i k v) = xF S := rfl
theorem gFN (S : xs_T) (i v : Nat) : xF (sN S i v) = xF S := rfl
theorem gIF (S : xs_T) (i k : Nat) (v : Int32) : xI (sF S i k v) = xI S := rfl
theorem gIL (S : xs_T) (i k : Nat) (v : Int64) : xI (sL S i k v) = xI S := rfl
theorem gIt (S : xs_T) (i : Nat) (f : Nat → Int64) : xI (tL S i f) = xI S := rfl
theorem gIQ (S : xs_T) (i k : Nat) (v : Option Nat) : xI (sQ S i k v) = xI S := rfl
theorem gIN (S : xs_T) (i v : Nat) : xI (sN S i v) = xI S := rfl
theorem gLF (S : xs_T) (i k : Nat) (v : Int32) : xL (sF S i k v) = xL S := rfl
theorem gLI (S : xs_T) (i k : Nat) (v : Int32) : xL (sI S i k v) = xL S := rfl
theorem gLQ (S : xs_T) (i k : Nat) (v : Option Nat) : xL (sQ S i k v) = xL S := rfl
theorem gLN (S : xs_T) (i v : Nat) : xL (sN S i v) = xL S := rfl
theorem gQF (S : xs_T) (i k : Nat) (v : Int32) : xQ (sF S i k v) = xQ S := rfl
theorem gQI (S : xs_T) (i k : Nat) (v : Int32) : xQ (sI S i k v) = xQ S := rfl
theorem gQL (S : xs_T) (i k : Nat) (v : Int64) : xQ (sL S i k v) = xQ S := rfl
theorem gQt (S : xs_T) (i : Nat) (f : Nat → Int64) : xQ (tL S i f) = xQ S := rfl
theorem gQN (S : xs_T) (i v : Nat) : xQ (sN S i v) = xQ S := rfl
theorem gNF (S : xs_T) (i k : Nat) (v : Int32) : xN (sF S i k v) = xN S := rfl
theorem gNI (S : xs_T) (i k : Nat) (v : Int32) : xN (sI S i k v) = xN S := rfl
theorem gNL (S : xs_T) (i k : Nat) (v : Int64) : xN (sL S i k v) = xN S := rfl
theorem gNt (S : xs_T) (i : Nat) (f : Nat → Int64) : xN (tL S i f) = xN S := rfl
theorem gNQ (S : xs_T) (i k : Nat) (v : Option Nat) : xN (sQ S i k v) = xN S := rfl
/-! THE ABSTRACT STATE is a store, too:
 nA: 0 rows, 1 figures, 2 cranks, 3 cells, 4 orders, 6 kept, 7 begun; xN: u (a row, 64..): its kind; u + 120: its length; 304 + f: the sort of figure f + 1; 5000 + j: the row of the book's page j
 xQ 37 k: what spindle k holds (a row's number, a figure's, a crank's); xI 38 k: marks; 42 codes, 43 as, 44 bs, 45 cs, 46 how often gone again
 xL (u + 120): the row's cells; xL (1000 + j): the cells of page j; xF 0 24 refused, 25 met, 26 begun in the run, 27 ender -/
def nA (A : xs_T) (k : Nat) : Nat := (xQ A 0 k).getD 0
def sA (A : xs_T) (k v : Nat) : xs_T := sQ A 0 k (some v)
def oW (A : xs_T) (u : Nat) : Prop := 64 ≤ u ∧ u < 64 + nA A 0
def hT (A : xs_T) (q : Option Nat) : Prop := ∀ u, q = some u → (64 ≤ u ∧ u < 64 + nA A 0) ∨ (304 ≤ u ∧ u < 304 + nA A 1) ∨ (704 ≤ u ∧ u < 704 + nA A 2)
/-- an order as told -/
def sp9 (x : Int32) : Prop := 0 ≤ x.toInt ∧ x.toInt ≤ 9
def ordOK (c a b d : Int32) : Prop :=
  (c.toInt = 13 ∧ (0 ≤ a.toInt ∧ a.toInt ≤ 5) ∧ (0 ≤ d.toInt ∧ d.toInt ≤ 60)) ∨ (c.toInt = 14 ∧ (1 ≤ b.toInt ∧ b.toInt ≤ 60) ∧ (0 ≤ d.toInt ∧ d.toInt ≤ 20)) ∨
  ((0 ≤ c.toInt ∧ c.toInt ≤ 12) ∧ (0 ≤ a.toInt ∧ a.toInt ≤ 9) ∧ (¬ (c.toInt = 1 ∨ c.toInt = 6 ∨ c.toInt = 7 ∨ c.toInt = 8 ∨ c.toInt = 11 ∨ c.toInt = 12) ∨ (0 ≤ b.toInt ∧ b.toInt ≤ 9)) ∧ (¬ c.toInt = 5 ∨ (0 ≤ b.toInt ∧ b.toInt ≤ 11)) ∧ (¬ c.toInt = 9 ∨ (0 ≤ b.toInt ∧ b.toInt ≤ 5)))
/-- a cell of figures is one's number -/
def figC (A : xs_T) (x : Int64) : Prop := ∃ f : Nat, f ≤ nA A 1 ∧ x = lN f
def WF (A : xs_T) : Prop :=
  (nA A 0 ≤ 120 ∧ nA A 1 ≤ 400 ∧ nA A 3 ≤ 3000 ∧ nA A 4 ≤ 60 ∧ nA A 6 ≤ 20 ∧ nA A 7 ≤ 4000 ∧ nA A 2 ≤ nA A 7) ∧
  (∀ u, oW A u → xN A u ≤ 11 ∧ xN A (u + 120) ≤ 64) ∧ (∀ f, f < nA A 1 → 1 ≤ xN A (304 + f) ∧ xN A (304 + f) ≤ 4) ∧ (∀ k, k < 10 → hT A (xQ A 37 k)) ∧
  (∀ u, oW A u → 8 ≤ xN A u → ∀ i, i < xN A (u + 120) → figC A (xL A (u + 120) i)) ∧
  (∀ j, j < nA A 6 → oW A (xN A (5000 + j)) ∧ (8 ≤ xN A (xN A (5000 + j)) → ∀ i, i < xN A (xN A (5000 + j) + 120) → figC A (xL A (1000 + j) i))) ∧
  (∀ k, k < nA A 4 → ordOK (xI A 42 k) (xI A 43 k) (xI A 44 k) (xI A 45 k))
/-- the reference's part of S holds A; fr: where a row's cells begin -/
def hM (h w : Int32) (q : Option Nat) : Prop := match q with
  | none => h = 0 ∧ w = 0
  | some u => (u < 184 ∧ h = 1 ∧ w = nI (u - 64)) ∨ (304 ≤ u ∧ u < 704 ∧ h = 3 ∧ w = nI (u - 303)) ∨ (704 ≤ u ∧ h = 2 ∧ w = nI (u - 703))
def MAs (A S : xs_T) : Prop := xF S 0 0 = nI (nA A 0) ∧ xF S 0 4 = nI (nA A 3) ∧ xF S 0 6 = nI (nA A 1) ∧ xF S 0 8 = nI (nA A 2) ∧ xF S 0 12 = nI (nA A 4) ∧ xF S 0 18 = nI (nA A 6) ∧ xF S 0 23 = nI (nA A 7) ∧ xF S 0 24 = xF A 0 24 ∧ xF S 0 25 = xF A 0 25 ∧ xF S 0 26 = xF A 0 26 ∧ xF S 0 27 = xF A 0 27
def MAt (A S : xs_T) : Prop := ∀ k, k < 60 → xI S 13 k = xI A 42 k ∧ xI S 14 k = xI A 43 k ∧ xI S 15 k = xI A 44 k ∧ xI S 16 k = xI A 45 k ∧ xI S 17 k = xI A 46 k
def MAh (A S : xs_T) : Prop := ∀ k, k < 10 → hM (xI S 9 k) (xI S 10 k) (xQ A 37 k) ∧ xI S 11 k = xI A 38 k
def MAg (A S : xs_T) : Prop := ∀ f, f < nA A 1 → xI S 7 (f + 1) = nI (xN A (304 + f))
def MAr (fr : Nat → Nat) (A S : xs_T) : Prop := (∀ u, oW A u → xI S 1 (u - 64) = nI (xN A u) ∧ xI S 2 (u - 64) = nI (xN A (u + 120)) ∧ xI S 3 (u - 64) = nI (fr u) ∧ fr u + xN A (u + 120) ≤ nA A 3 ∧ ∀ i, i < xN A (u + 120) → xL S 5 (fr u + i) = xL A (u + 120) i) ∧ (∀ u v, oW A u → oW A v → u < v → fr u + xN A (u + 120) ≤ fr v) ∧ ∀ p, nA A 3 ≤ p → xL S 5 p = 0
def MAb (A S : xs_T) : Prop := ∀ j, j < nA A 6 → xI S 19 j = nI (xN A (5000 + j) - 64) ∧ ∀ i, i < xN A (xN A (5000 + j) + 120) → xL S 20 (64 * j + i) = xL A (1000 + j) i
def MA (fr : Nat → Nat) (A S : xs_T) : Prop := MAs A S ∧ MAt A S ∧ MAh A S ∧ MAg A S ∧ MAr fr A S ∧ MAb A S
/-- the class's part of S holds A -/
def CAs (A S : xs_T) : Prop := xF S 32 4 = nI (nA A 7) ∧ xF S 32 5 = xF A 0 24 ∧ xF S 32 6 = xF A 0 25 ∧ xF S 32 7 = xF A 0 26 ∧ xF S 32 8 = xF A 0 27 ∧ xF S 34 5 = nI (nA A 4) ∧ xF S 40 1 = nI (nA A 1) ∧ xF S 40 2 = nI (nA A 0) ∧ xF S 40 3 = nI (nA A 3) ∧ xN S 0 = nA A 0 ∧ xN S 1 = nA A 1 ∧ xN S 2 = nA A 2 ∧ xN S 5 = 0
def CAt (A S : xs_T) : Prop := ∀ k, k < 60 → xI S 42 k = xI A 42 k ∧ xI S 43 k = xI A 43 k ∧ xI S 44 k = xI A 44 k ∧ xI S 45 k = xI A 45 k ∧ xI S 46 k = xI A 46 k
def CAh (A S : xs_T) : Prop := ∀ k, k < 10 → xQ S 37 k = xQ A 37 k ∧ xI S 38 k = xI A 38 k
def CAg (A S : xs_T) : Prop := ∀ f, f < nA A 1 → xF S (304 + f) 0 = nI (xN A (304 + f)) ∧ xF S (304 + f) 1 = nI (f + 1) ∧ xQ S 41 f = some (304 + f)
def CAr (A S : xs_T) : Prop := ∀ u, oW A u → xF S u 0 = nI (xN A u) ∧ xN S (u + 120) = xN A (u + 120) ∧ ∀ i, i < xN A (u + 120) → xL S (u + 120) i = xL A (u + 120) i
def CAq (A S : xs_T) : Prop := ∀ i k, hT A (xQ S i k)
def rg (nx kp j : Nat) : Nat := (nx + 20 - kp + j) % 20
def CAb (nx : Nat) (A S : xs_T) : Prop := nx < 20 ∧ xF S 35 2 = nI (nA A 6) ∧ xF S 35 3 = nI nx ∧ ∀ j, j < nA A 6 → xQ S 47 (rg nx (nA A 6) j) = some (xN A (5000 + j)) ∧ ∀ i, i < xN A (xN A (5000 + j) + 120) → xL S 48 (64 * rg nx (nA A 6) j + i) = xL A (1000 + j) i
def CA (nx : Nat) (A S : xs_T) : Prop := CAs A S ∧ CAt A S ∧ CAh A S ∧ CAg A S ∧ CAr A S ∧ CAq A S ∧ CAb nx A S
/-- the other system's part stays -/
def mf0 (S S' : xs_T) : Prop := ∀ i, i < 32 → xF S' i = xF S i ∧ xI S' i = xI S i ∧ xL S' i = xL S i
/-- .. and the class's row ahead, the reference's row ahead -/
def mfr (S S' : xs_T) : Prop := ∀ i, (i < 32 ∨ i = 36) → xF S' i = xF S i ∧ xI S' i = xI S i ∧ xL S' i = xL S i
def cf0 (S S' : xs_T) : Prop := xQ S' = xQ S ∧ xN S' = xN S ∧ ∀ i, 32 ≤ i → xF S' i = xF S i ∧ xI S' i = xI S i ∧ xL S' i = xL S i
def cfr (S S' : xs_T) : Prop := xQ S' = xQ S ∧ xN S' = xN S ∧ ∀ i, (32 ≤ i ∨ i = 21) → xF S' i = xF S i ∧ xI S' i = xI S i ∧ xL S' i = xL S i
theorem mfr.z {S S' : xs_T} (h : mfr S S') : mf0 S S' := fun i hi => h i (Or.inl hi)
theorem cfr.z {S S' : xs_T} (h : cfr S S') : cf0 S S' := ⟨h.1, h.2.1, fun i hi => h.2.2 i (Or.inl hi)⟩
theorem mf0.trans {S T U : xs_T} (h : mf0 S T) (g : mf0 T U) : mf0 S U := fun i hi => ⟨(g i hi).1.trans (h i hi).1, (g i hi).2.1.trans (h i hi).2.1, (g i hi).2.2.trans (h i hi).2.2⟩
theorem cf0.trans {S T U : xs_T} (h : cf0 S T) (g : cf0 T U) : cf0 S U := ⟨g.1.trans h.1, g.2.1.trans h.2.1, fun i hi => ⟨(g.2.2 i hi).1.trans (h.2.2 i hi).1, (g.2.2 i hi).2.1.trans (h.2.2 i hi).2.1, (g.2.2 i hi).2.2.trans (h.2.2 i hi).2.2⟩⟩
theorem mfr.refl {S : xs_T} : mfr S S := fun _ _ => ⟨rfl, rfl, rfl⟩
theorem mfr.trans {S T U : xs_T} (h : mfr S T) (g : mfr T U) : mfr S U := fun i hi => ⟨(g i hi).1.trans (h i hi).1, (g i hi).2.1.trans (h i hi).2.1, (g i hi).2.2.trans (h i hi).2.2⟩
theorem cfr.refl {S : xs_T} : cfr S S := ⟨rfl, rfl, fun _ _ => ⟨rfl, rfl, rfl⟩⟩
theorem cfr.trans {S T U : xs_T} (h : cfr S T) (g : cfr T U) : cfr S U := ⟨g.1.trans h.1, g.2.1.trans h.2.1, fun i hi => ⟨(g.2.2 i hi).1.trans (h.2.2 i hi).1, (g.2.2 i hi).2.1.trans (h.2.2 i hi).2.1, (g.2.2 i hi).2.2.trans (h.2.2 i hi).2.2⟩⟩
theorem mfr.F {S : xs_T} {i k : Nat} {v : Int32} (h : 32 ≤ i ∧ i ≠ 36) : mfr S (sF S i k v) := fun j hj => ⟨va_up_ne _ _ (by omega), rfl, rfl⟩
theorem mfr.I {S : xs_T} {i k : Nat} {v : Int32} (h : 32 ≤ i ∧ i ≠ 36) : mfr S (sI S i k v) := fun j hj => ⟨rfl, va_up_ne _ _ (by omega), rfl⟩
theorem mfr.L {S : xs_T} {i k : Nat} {v : Int64} (h : 32 ≤ i ∧ i ≠ 36) : mfr S (sL S i k v) := fun j hj => ⟨rfl, rfl, va_up_ne _ _ (by omega)⟩
theorem mfr.T {S : xs_T} {i : Nat} {f : Nat → Int64} (h : 32 ≤ i ∧ i ≠ 36) : mfr S (tL S i f) := fun j hj => ⟨rfl, rfl, va_up_ne _ _ (by omega)⟩
theorem mfr.Q {S : xs_T} {i k : Nat} {v : Option Nat} : mfr S (sQ S i k v) := fun j hj => ⟨rfl, rfl, rfl⟩
theorem cfr.F {S : xs_T} {i k : Nat} {v : Int32} (h : i < 32 ∧ i ≠ 21) : cfr S (sF S i k v) := ⟨rfl, rfl, fun j hj => ⟨va_up_ne _ _ (by omega), rfl, rfl⟩⟩
theorem cfr.I {S : xs_T} {i k : Nat} {v : Int32} (h : i < 32 ∧ i ≠ 21) : cfr S (sI S i k v) := ⟨rfl, rfl, fun j hj => ⟨rfl, va_up_ne _ _ (by omega), rfl⟩⟩
theorem cfr.L {S : xs_T} {i k : Nat} {v : Int64} (h : i < 32 ∧ i ≠ 21) : cfr S (sL S i k v) := ⟨rfl, rfl, fun j hj => ⟨rfl, rfl, va_up_ne _ _ (by omega)⟩⟩
theorem cfr.T {S : xs_T} {i : Nat} {f : Nat → Int64} (h : i < 32 ∧ i ≠ 21) : cfr S (tL S i f) := ⟨rfl, rfl, fun j hj => ⟨rfl, rfl, va_up_ne _ _ (by omega)⟩⟩
/-- a part reads only its own ids -/
theorem MA.fr {fr : Nat → Nat} {A S S' : xs_T} (h : MA fr A S) (g : mf0 S S') : MA fr A S' := by
  have e1 : ∀ i, i < 32 → xF S' i = xF S i := fun i hi => (g i hi).1
  have e2 : ∀ i, i < 32 → xI S' i = xI S i := fun i hi => (g i hi).2.1
  have e3 : ∀ i, i < 32 → xL S' i = xL S i := fun i hi => (g i hi).2.2
  unfold MA MAs MAt MAh MAg MAr MAb at *
  rw [e1 0 (by decide), e2 13 (by decide), e2 14 (by decide), e2 15 (by decide), e2 16 (by decide), e2 17 (by decide), e2 9 (by decide), e2 10 (by decide), e2 11 (by decide), e2 7 (by decide), e2 1 (by decide), e2 2 (by decide), e2 3 (by decide), e3 5 (by decide), e2 19 (by decide), e3 20 (by decide)]
  exact h
theorem CA.fr {nx : Nat} {A S S' : xs_T} (h : CA nx A S) (g : cf0 S S') : CA nx A S' := by
  have e1 : ∀ i, 32 ≤ i → xF S' i = xF S i := fun i hi => (g.2.2 i hi).1
  have e2 : ∀ i, 32 ≤ i → xI S' i = xI S i := fun i hi => (g.2.2 i hi).2.1
  have e3 : ∀ i, 32 ≤ i → xL S' i = xL S i := fun i hi => (g.2.2 i hi).2.2
  obtain ⟨h1, h2, h3, h4, h5, h6, h7⟩ := h
  refine ⟨?_, ?_, ?_, ?_, ?_, ?_, ?_⟩
  · unfold CAs at *; rw [e1 32 (by decide), e1 34 (by decide), e1 40 (by decide), g.2.1]; exact h1
  · unfold CAt at *; rw [e2 42 (by decide), e2 43 (by decide), e2 44 (by decide), e2 45 (by decide), e2 46 (by decide)]; exact h2
  · unfold CAh at *; rw [g.1, e2 38 (by decide)]; exact h3
  · intro f hf; rw [e1 (304 + f) (by omega), g.1]; exact h4 f hf
  · intro u hu; rw [e1 u (by have := hu.1; omega), g.2.1, e3 (u + 120) (by omega)]; exact h5 u hu
  · unfold CAq at *; rw [g.1]; exact h6
  · unfold CAb at *; rw [e1 35 (by decide), g.1, e3 48 (by decide)]; exact h7
/-! what a write leaves as it is -/
theorem CAr.F {A S : xs_T} {i k : Nat} {v : Int32} (h : CAr A S) (hi : i < 64) : CAr A (sF S i k v) := fun u hu => by
  have h1 := hu.1
  rw [gFF, if_neg (by omega)]
  exact h u hu
theorem CAg.F {A S : xs_T} {i k : Nat} {v : Int32} (h : CAg A S) (hi : i < 64) : CAg A (sF S i k v) := fun f hf => by
  rw [gFF, if_neg (by omega), gFF, if_neg (by omega)]
  exact h f hf
theorem CAr.T {A S : xs_T} {i : Nat} {g : Nat → Int64} (h : CAr A S) (hi : i < 64) : CAr A (tL S i g) := fun u hu => by
  have h1 := hu.1
  refine ⟨(h u hu).1, (h u hu).2.1, fun j hj => ?_⟩
  rw [gLt, if_neg (by omega)]
  exact (h u hu).2.2 j hj
theorem CAr.L {A S : xs_T} {i k : Nat} {v : Int64} (h : CAr A S) (hi : i < 64) : CAr A (sL S i k v) := fun u hu => by
  have h1 := hu.1
  refine ⟨(h u hu).1, (h u hu).2.1, fun j hj => ?_⟩
  rw [gLL, if_neg (by omega)]
  exact (h u hu).2.2 j hj
