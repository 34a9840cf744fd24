/-! the book -/
def dif : Nat → (Nat → Int64) → (Nat → Int64) → Bool
  | 0, _, _ => false
  | n + 1, f, g => dif n f g || (f n != g n)
theorem dif_no {f g : Nat → Int64} : ∀ {n : Nat}, (∀ i, i < n → f i = g i) → dif n f g = false
  | 0, _ => rfl
  | n + 1, h => by
    unfold dif
    rw [dif_no (fun i hi => h i (by omega)), h n (by omega)]
    simp
theorem dif_yes {f g : Nat → Int64} : ∀ {n i : Nat}, i < n → ¬ f i = g i → dif n f g = true
  | 0, i, hi, _ => by omega
  | n + 1, i, hi, h => by
    unfold dif
    by_cases e : i = n
    · subst e; simp [h]
    · rw [dif_yes (n := n) (i := i) (by omega) h]; rfl
def fSh (A : xs_T) : xs_T := (A.1, A.2.1, fun i => if 1000 ≤ i ∧ i < 1019 then xL A (i + 1) else xL A i, A.2.2.2.1, fun i => if 5000 ≤ i ∧ i < 5019 then xN A (i + 1) else xN A i)
def fSh9 (A : xs_T) : xs_T := sA (fSh A) 6 19
theorem fSh_N (A : xs_T) (i : Nat) : xN (fSh9 A) i = if 5000 ≤ i ∧ i < 5019 then xN A (i + 1) else xN A i := rfl
theorem fSh_L (A : xs_T) (i : Nat) : xL (fSh9 A) i = if 1000 ≤ i ∧ i < 1019 then xL A (i + 1) else xL A i := rfl
def fPut (A : xs_T) (u : Nat) (g : Nat → Int64) : xs_T := sA (tL (sN A (5000 + nA A 6) u) (1000 + nA A 6) g) 6 (nA A 6 + 1)
theorem fPut_N (A : xs_T) (u : Nat) (g : Nat → Int64) (i : Nat) : xN (fPut A u g) i = if i = 5000 + nA A 6 then u else xN A i := gNN A (5000 + nA A 6) u i
theorem fPut_L (A : xs_T) (u : Nat) (g : Nat → Int64) (i j : Nat) : xL (fPut A u g) i j = if i = 1000 + nA A 6 then g j else xL A i j := gLt (sN A (5000 + nA A 6) u) (1000 + nA A 6) g i j
def fWrite (A : xs_T) (u : Nat) (g : Nat → Int64) : xs_T := if nA A 6 = 20 then fPut (fSh9 A) u g else fPut A u g
theorem WF.sh {A : xs_T} (h : WF A) (hk : nA A 6 = 20) : WF (fSh9 A) := by
  obtain ⟨g1, g2, g3, g4, g5, g6, g7⟩ := h
  have h0 := g1.1
  refine ⟨⟨g1.1, g1.2.1, g1.2.2.1, g1.2.2.2.1, by show 19 ≤ 20; decide, g1.2.2.2.2.2⟩, fun u hu => ?_, fun f hf => ?_, g4, fun u hu hk2 i hi => ?_, fun j hj => ?_, g7⟩
  · have hu2 : u < 64 + nA A 0 := hu.2
    rw [fSh_N, if_neg (by omega), fSh_N, if_neg (by omega)]
    exact g2 u hu
  · have hf2 : f < nA A 1 := hf
    have := g1.2.1
    rw [fSh_N, if_neg (by omega)]
    exact g3 f hf
  · have hu2 : u < 64 + nA A 0 := hu.2
    rw [fSh_N, if_neg (by omega)] at hk2 hi
    rw [fSh_L, if_neg (by omega)]
    exact g5 u hu hk2 i hi
  · have hj2 : j < 19 := hj
    have e : xN (fSh9 A) (5000 + j) = xN A (5000 + (j + 1)) := by rw [fSh_N, if_pos (by omega)]; rfl
    have o := (g6 (j + 1) (by omega)).1
    have o2 := o.2
    rw [e]
    refine ⟨o, fun hk2 i hi => ?_⟩
    rw [fSh_N, if_neg (by omega)] at hk2 hi
    rw [fSh_L, if_pos (by omega)]
    exact (g6 (j + 1) (by omega)).2 hk2 i hi
theorem WF.put {A : xs_T} {u : Nat} {g : Nat → Int64} (h : WF A) (hk : nA A 6 < 20) (hu : oW A u) (hg : 8 ≤ xN A u → ∀ i, i < xN A (u + 120) → figC A (g i)) : WF (fPut A u g) := by
  obtain ⟨g1, g2, g3, g4, g5, g6, g7⟩ := h
  have h0 := g1.1
  refine ⟨⟨g1.1, g1.2.1, g1.2.2.1, g1.2.2.2.1, hk, g1.2.2.2.2.2⟩, fun v hv => ?_, fun f hf => ?_, g4, fun v hv hk2 i hi => ?_, fun j hj => ?_, g7⟩
  · have hu2 : v < 64 + nA A 0 := hv.2
    rw [fPut_N, if_neg (by omega), fPut_N, if_neg (by omega)]
    exact g2 v hv
  · have hf2 : f < nA A 1 := hf
    have := g1.2.1
    rw [fPut_N, if_neg (by omega)]
    exact g3 f hf
  · have hu2 : v < 64 + nA A 0 := hv.2
    rw [fPut_N, if_neg (by omega)] at hk2 hi
    show figC A (xL (fPut A u g) (v + 120) i)
    rw [fPut_L, if_neg (by omega)]
    exact g5 v hv hk2 i hi
  · have hj2 : j < nA A 6 + 1 := hj
    by_cases e : j = nA A 6
    · subst e
      have e : xN (fPut A u g) (5000 + nA A 6) = u := by rw [fPut_N, if_pos rfl]
      have o2 := hu.2
      rw [e]
      refine ⟨hu, fun hk2 i hi => ?_⟩
      rw [fPut_N, if_neg (by omega)] at hk2 hi
      show figC A (xL (fPut A u g) (1000 + nA A 6) i)
      rw [fPut_L, if_pos rfl]
      exact hg hk2 i hi
    · have e2 : xN (fPut A u g) (5000 + j) = xN A (5000 + j) := by rw [fPut_N, if_neg (by omega)]
      have o := (g6 j (by omega)).1
      have o2 := o.2
      rw [e2]
      refine ⟨o, fun hk2 i hi => ?_⟩
      rw [fPut_N, if_neg (by omega)] at hk2 hi
      show figC A (xL (fPut A u g) (1000 + j) i)
      rw [fPut_L, if_neg (by omega)]
      exact (g6 j (by omega)).2 hk2 i hi
theorem WF.write {A : xs_T} {u : Nat} {g : Nat → Int64} (h : WF A) (hu : oW A u) (hg : 8 ≤ xN A u → ∀ i, i < xN A (u + 120) → figC A (g i)) : WF (fWrite A u g) := by
  unfold fWrite
  have h0 := h.1.1
  have hu2 := hu.2
  by_cases e : nA A 6 = 20
  · rw [if_pos e]
    refine WF.put (h.sh e) (by show 19 < 20; decide) hu (fun hk i hi => ?_)
    rw [fSh_N, if_neg (by omega)] at hk hi
    exact hg hk i hi
  · rw [if_neg e]
    have := h.1.2.2.2.2.1
    exact WF.put h (by omega) hu hg
/-- what the class's write leaves -/
def cWr (S : xs_T) (nx u n kp : Nat) : xs_T := sF (sF (tL (sQ S 47 nx (some u)) 48 (va_cpy (xL S 36) (xL S 48) 0 (nx * 64) n)) 35 3 (nI ((nx + 1) % 20))) 35 2 (nI kp)
theorem CA.wr {nx : Nat} {A A' S : xs_T} {u l kp : Nat} (h : CA nx A S) (hu : oW A u) (hF : xF A' = xF A) (hI : xI A' = xI A) (hQ : ∀ k, k ≠ 6 → xQ A' 0 k = xQ A 0 k) (hQ37 : xQ A' 37 = xQ A 37) (hN : ∀ i, i < 1000 → xN A' i = xN A i) (hL : ∀ i, i < 1000 → xL A' i = xL A i) (h0 : nA A 0 ≤ 120) (h1 : nA A 1 ≤ 400) (hkp : nA A' 6 = kp)
    (hb : ∀ j, j < kp → xQ (cWr S nx u l kp) 47 (rg ((nx + 1) % 20) kp j) = some (xN A' (5000 + j)) ∧ ∀ i, i < xN A' (xN A' (5000 + j) + 120) → xL (cWr S nx u l kp) 48 (64 * rg ((nx + 1) % 20) kp j + i) = xL A' (1000 + j) i) : CA ((nx + 1) % 20) A' (cWr S nx u l kp) := by
  obtain ⟨c1, c2, c3, c4, c5, c6, c7⟩ := h
  have n : ∀ k, k ≠ 6 → nA A' k = nA A k := fun k hk => by unfold nA; rw [hQ k hk]
  have oWe : ∀ v, oW A' v → oW A v := fun v hv => ⟨hv.1, by rw [← n 0 (by decide)]; exact hv.2⟩
  have hTe : ∀ q, hT A q → hT A' q := fun q hq v hv => by
    rw [n 0 (by decide), n 1 (by decide), n 2 (by decide)]; exact hq v hv
  refine ⟨?_, ?_, ?_, fun f hf => ?_, fun v hv => ?_, fun i k => ?_, Nat.mod_lt _ (by decide), by rw [hkp]; rfl, rfl, by rw [hkp]; exact hb⟩
  · unfold CAs
    rw [n 7 (by decide), n 4 (by decide), n 1 (by decide), n 0 (by decide), n 3 (by decide), n 2 (by decide), hF]
    exact c1
  · unfold CAt
    rw [hI]
    exact c2
  · unfold CAh
    rw [hI, hQ37]
    exact c3
  · rw [n 1 (by decide)] at hf
    rw [hN _ (by omega)]
    have e1 : ∀ k, xF (cWr S nx u l kp) (304 + f) k = xF S (304 + f) k := fun k => by
      unfold cWr
      rw [gFF, if_neg (by omega), gFF, if_neg (by omega)]; rfl
    rw [e1, e1]
    exact c4 f hf
  · have o := oWe v hv
    have o1 := o.1
    have o2 := o.2
    have e1 : ∀ k, xF (cWr S nx u l kp) v k = xF S v k := fun k => by
      unfold cWr
      rw [gFF, if_neg (by omega), gFF, if_neg (by omega)]; rfl
    have e2 : xL (cWr S nx u l kp) (v + 120) = xL S (v + 120) := by
      funext j
      unfold cWr
      show xL (tL (sQ S 47 nx (some u)) 48 _) (v + 120) j = _
      rw [gLt, if_neg (by omega)]; rfl
    rw [e1, e2, hN _ (by omega), hN _ (by omega), hL _ (by omega)]
    exact c5 v o
  · show hT A' (xQ (sQ S 47 nx (some u)) i k)
    rw [gQQ]
    by_cases e : i = 47 ∧ k = nx
    · rw [if_pos e]
      refine hTe _ (fun v hv => Or.inl ?_)
      have := Option.some.inj hv
      subst this
      exact hu
    · rw [if_neg e]; exact hTe _ (c6 i k)
