/-! rows made -/
def fNew (A : xs_T) (k n : Nat) : xs_T := tL (sN (sN (sA (sA A 0 (nA A 0 + 1)) 3 (nA A 3 + n)) (64 + nA A 0) k) (184 + nA A 0) n) (184 + nA A 0) (fun _ => 0)
theorem fNew_N (A : xs_T) (k n i : Nat) : xN (fNew A k n) i = if i = 184 + nA A 0 then n else if i = 64 + nA A 0 then k else xN A i := by
  show xN (sN (sN (sA (sA A 0 (nA A 0 + 1)) 3 (nA A 3 + n)) (64 + nA A 0) k) (184 + nA A 0) n) i = _
  rw [gNN, gNN]
  rfl
theorem fNew_L (A : xs_T) (k n i j : Nat) : xL (fNew A k n) i j = if i = 184 + nA A 0 then 0 else xL A i j := by
  unfold fNew
  rw [gLt]
  rfl
theorem fNew_o {A : xs_T} {k n u : Nat} : oW (fNew A k n) u ↔ oW A u ∨ u = 64 + nA A 0 := by
  show (64 ≤ u ∧ u < 64 + (nA A 0 + 1)) ↔ (64 ≤ u ∧ u < 64 + nA A 0) ∨ u = 64 + nA A 0
  omega
theorem fNew_T {A : xs_T} {k n : Nat} {q : Option Nat} (h : hT A q) : hT (fNew A k n) q := fun u hu => by
  rcases h u hu with z | z | z
  · exact Or.inl ⟨z.1, by show u < 64 + (nA A 0 + 1); omega⟩
  · exact Or.inr (Or.inl z)
  · exact Or.inr (Or.inr z)
theorem WF.new {A : xs_T} {k n : Nat} (h : WF A) (h0 : nA A 0 < 120) (h3 : nA A 3 + n ≤ 3000) (hn : n ≤ 64) (hk : k ≤ 11) : WF (fNew A k n) := by
  obtain ⟨g1, g2, g3, g4, g5, g6, g7⟩ := h
  refine ⟨⟨h0, g1.2.1, h3, g1.2.2.2⟩, fun u hu => ?_, fun f hf => ?_, fun j hj => fNew_T (g4 j hj), fun u hu hk2 i hi => ?_, fun j hj => ?_, g7⟩
  · rcases fNew_o.mp hu with z | z
    · have z1 := z.1; have z2 := z.2
      rw [fNew_N, if_neg (by omega), if_neg (by omega), fNew_N, if_neg (by omega), if_neg (by omega)]
      exact g2 u z
    · subst z
      rw [fNew_N, if_neg (by omega), if_pos rfl, fNew_N, if_pos (by omega)]
      exact ⟨hk, hn⟩
  · rw [fNew_N, if_neg (by omega), if_neg (by omega)]
    exact g3 f hf
  · show figC A (xL (fNew A k n) (u + 120) i)
    rw [fNew_L]
    rcases fNew_o.mp hu with z | z
    · have z1 := z.1; have z2 := z.2
      rw [fNew_N, if_neg (by omega), if_neg (by omega)] at hk2 hi
      rw [if_neg (by omega)]
      exact g5 u z hk2 i hi
    · subst z
      rw [if_pos (by omega)]
      exact figC0
  · have z := (g6 j hj).1
    have z1 := z.1; have z2 := z.2
    have e : xN (fNew A k n) (5000 + j) = xN A (5000 + j) := by rw [fNew_N, if_neg (by omega), if_neg (by omega)]
    rw [e]
    refine ⟨fNew_o.mpr (Or.inl z), fun hk2 i hi => ?_⟩
    rw [fNew_N, if_neg (by omega), if_neg (by omega)] at hk2 hi
    show figC A (xL (fNew A k n) (1000 + j) i)
    rw [fNew_L, if_neg (by omega)]
    exact (g6 j hj).2 hk2 i hi
def cNew (S : xs_T) (r c k n : Nat) : xs_T := mkE (mkL (sF (mkH (sF (sF S 40 2 (nI (r + 1))) 40 3 (nI (c + n)))) (64 + r) 0 (nI k)) n)
theorem cNew_F {S : xs_T} {r c k n i j : Nat} (hr : xN S 0 = r) (h1 : i ≠ 64 + r) (h2 : ¬ (i = 40 ∧ (j = 2 ∨ j = 3))) : xF (cNew S r c k n) i j = xF S i j := by
  show xF (sF (mkH (sF (sF S 40 2 (nI (r + 1))) 40 3 (nI (c + n)))) (64 + r) 0 (nI k)) i j = _
  rw [gFF, if_neg (fun z => h1 z.1)]
  show va_up (xF (sF (sF S 40 2 (nI (r + 1))) 40 3 (nI (c + n)))) (64 + xN S 0) (fun _ => 0) i j = _
  rw [va_up_ne _ _ (by omega), gFF, if_neg (by omega), gFF, if_neg (by omega)]
theorem cNew_N {S : xs_T} {r c k n i : Nat} (hr : xN S 0 = r) (h0 : i ≠ 0) (h5 : i ≠ 5) : xN (cNew S r c k n) i = if i = 184 + r then n else xN S i := by
  show va_up (va_up (va_up (va_up (va_up (xN S) 5 1) (184 + xN S 0) n) 5 2) 0 _) 5 0 i = _
  rw [va_up_ne _ _ h5, va_up_ne _ _ h0, va_up_ne _ _ h5, hr]
  by_cases e : i = 184 + r
  · rw [if_pos e, e, va_up_self]
  · rw [if_neg e, va_up_ne _ _ e, va_up_ne _ _ h5]
theorem cNew_N0 {S : xs_T} {r c k n : Nat} (hr : xN S 0 = r) : xN (cNew S r c k n) 0 = r + 1 := by
  show va_up (va_up (va_up (xN S) 5 1) (184 + xN S 0) n) 5 2 0 + 1 = r + 1
  rw [va_up_ne _ _ (by decide), va_up_ne _ _ (by omega), va_up_ne _ _ (by decide), hr]
theorem cNew_L {S : xs_T} {r c k n i : Nat} (hr : xN S 0 = r) : xL (cNew S r c k n) i = if i = 184 + r then (fun _ => 0) else xL S i := by
  show va_up (xL S) (184 + xN S 0) (fun _ => 0) i = _
  rw [hr]
  by_cases e : i = 184 + r
  · rw [if_pos e, e, va_up_self]
  · rw [if_neg e, va_up_ne _ _ e]
theorem CA.new {nx : Nat} {A S : xs_T} {k n : Nat} (h : CA nx A S) (hw : WF A) (h0 : nA A 0 < 120) : CA nx (fNew A k n) (cNew S (nA A 0) (nA A 3) k n) := by
  obtain ⟨c1, c2, c3, c4, c5, c6, c7⟩ := h
  obtain ⟨g1, g2, g3, g4, g5, g6, g7⟩ := hw
  obtain ⟨d1, d2, d3, d4, d5, d6, d7, d8, d9, d10, d11, d12, d13⟩ := c1
  refine ⟨⟨?_, ?_, ?_, ?_, ?_, ?_, ?_, ?_, ?_, ?_, ?_, ?_, ?_⟩, c2, c3, fun f hf => ?_, fun u hu => ?_, fun i j => fNew_T (c6 i j), c7.1, ?_, ?_, fun j hj => ?_⟩
  · rw [cNew_F d10 (by omega) (by omega)]; exact d1
  · rw [cNew_F d10 (by omega) (by omega)]; exact d2
  · rw [cNew_F d10 (by omega) (by omega)]; exact d3
  · rw [cNew_F d10 (by omega) (by omega)]; exact d4
  · rw [cNew_F d10 (by omega) (by omega)]; exact d5
  · rw [cNew_F d10 (by omega) (by omega)]; exact d6
  · rw [cNew_F d10 (by omega) (by omega)]; exact d7
  · show xF (sF (mkH (sF (sF S 40 2 (nI (nA A 0 + 1))) 40 3 (nI (nA A 3 + n)))) (64 + nA A 0) 0 (nI k)) 40 2 = _
    rw [gFF, if_neg (by omega)]
    show va_up (xF (sF (sF S 40 2 (nI (nA A 0 + 1))) 40 3 (nI (nA A 3 + n)))) (64 + xN S 0) (fun _ => 0) 40 2 = _
    rw [va_up_ne _ _ (by omega)]
    rfl
  · show xF (sF (mkH (sF (sF S 40 2 (nI (nA A 0 + 1))) 40 3 (nI (nA A 3 + n)))) (64 + nA A 0) 0 (nI k)) 40 3 = _
    rw [gFF, if_neg (by omega)]
    show va_up (xF (sF (sF S 40 2 (nI (nA A 0 + 1))) 40 3 (nI (nA A 3 + n)))) (64 + xN S 0) (fun _ => 0) 40 3 = _
    rw [va_up_ne _ _ (by omega)]
    rfl
  · rw [cNew_N0 d10]; rfl
  · rw [cNew_N d10 (by omega) (by omega), if_neg (by omega)]; exact d11
  · rw [cNew_N d10 (by omega) (by omega), if_neg (by omega)]; exact d12
  · rfl
  · rw [cNew_F d10 (by omega) (by omega), cNew_F d10 (by omega) (by omega), fNew_N, if_neg (by omega), if_neg (by omega)]
    exact c4 f hf
  · rcases fNew_o.mp hu with z | z
    · have z1 := z.1; have z2 := z.2
      have e : xN (fNew A k n) (u + 120) = xN A (u + 120) := by rw [fNew_N, if_neg (by omega), if_neg (by omega)]
      rw [cNew_F d10 (by omega) (by omega), e, cNew_N d10 (by omega) (by omega), if_neg (by omega), cNew_L d10, if_neg (by omega), fNew_N, if_neg (by omega), if_neg (by omega)]
      refine ⟨(c5 u z).1, (c5 u z).2.1, fun i hi => ?_⟩
      rw [fNew_L, if_neg (by omega)]
      exact (c5 u z).2.2 i hi
    · subst z
      refine ⟨?_, ?_, fun i hi => ?_⟩
      · rw [fNew_N, if_neg (by omega), if_pos rfl]
        show xF (sF (mkH (sF (sF S 40 2 (nI (nA A 0 + 1))) 40 3 (nI (nA A 3 + n)))) (64 + nA A 0) 0 (nI k)) (64 + nA A 0) 0 = _
        rw [gFF, if_pos ⟨rfl, rfl⟩]
      · rw [fNew_N, if_pos (by omega), cNew_N d10 (by omega) (by omega), if_pos (by omega)]
      · rw [fNew_L, if_pos (by omega), cNew_L d10, if_pos (by omega)]
  · rw [cNew_F d10 (by omega) (by omega)]; exact c7.2.1
  · rw [cNew_F d10 (by omega) (by omega)]; exact c7.2.2.1
  · have z := (g6 j hj).1
    have z1 := z.1; have z2 := z.2
    have e : xN (fNew A k n) (5000 + j) = xN A (5000 + j) := by rw [fNew_N, if_neg (by omega), if_neg (by omega)]
    rw [e, fNew_N, if_neg (by omega), if_neg (by omega)]
    refine ⟨(c7.2.2.2 j hj).1, fun i hi => ?_⟩
    rw [fNew_L, if_neg (by omega), cNew_L d10, if_neg (by omega)]
    exact (c7.2.2.2 j hj).2 i hi
theorem mfr_new {S : xs_T} {r c k n : Nat} (hr : xN S 0 = r) : mfr S (cNew S r c k n) := fun i hi => ⟨funext (fun j => cNew_F hr (by omega) (by omega)), rfl, by rw [cNew_L hr, if_neg (by omega)]⟩
theorem c_makeRow {nx : Nat} {A S : xs_T} {k n : Nat} {K : Option Nat → xs_T → Prop} (h : CA nx A S) (hw : WF A) (h0 : nA A 0 < 120) (hn : n ≤ 64) (hK : K (some (64 + nA A 0)) (cNew S (nA A 0) (nA A 3) k n)) : v_X6_makeRow (nI k) (nI n) S K := by
  unfold v_X6_makeRow
  obtain ⟨d1, d2, d3, d4, d5, d6, d7, d8, d9, d10, d11, d12, d13⟩ := h.1
  rintro _ rfl _ rfl
  have e3 : xF (sF S 40 2 (xF S 40 2 + 1)) 40 3 = xF S 40 3 := rfl
  rw [e3, d8, d9, nI_1, nI_add]
  have hq := h.2.2.2.2.2.1
  have hb := hw.1.1
  have hf := hw.1.2.1
  refine ⟨by show xN S 0 < 120; omega, fun i j z => ?_, ?_⟩
  · have z : xQ S i j = some (64 + xN S 0) := z
    rcases hq i j _ z with y | y | y <;> omega
  rintro _ _ rfl rfl
  unfold v_X5_init
  have e0 : xN (sF (sF S 40 2 (nI (nA A 0 + 1))) 40 3 (nI (nA A 3 + n))) 0 = nA A 0 := d10
  rw [e0]
  have e0' : xN (mkH (sF (sF S 40 2 (nI (nA A 0 + 1))) 40 3 (nI (nA A 3 + n)))) 0 = nA A 0 := d10
  rw [e0']
  refine ⟨rfl, rfl, h0, fun i j z => ?_, n, rfl, hn, hK⟩
  have z : xQ S i j = some (184 + nA A 0) := z
  rcases hq i j _ z with y | y | y <;> omega
def frN (fr : Nat → Nat) (r c : Nat) (u : Nat) : Nat := if u = 64 + r then c else fr u
theorem MA.new {fr : Nat → Nat} {A S : xs_T} {k n : Nat} (h : MA fr A S) (hw : WF A) (h0 : nA A 0 < 120) : MA (frN fr (nA A 0) (nA A 3)) (fNew A k n) (sF (sF (sI (sI (sI S 1 (nA A 0) (nI k)) 2 (nA A 0) (nI n)) 3 (nA A 0) (nI (nA A 3))) 0 4 (nI (nA A 3 + n))) 0 0 (nI (nA A 0 + 1))) := by
  obtain ⟨c1, c2, c3, c4, c5, c6⟩ := h
  obtain ⟨d1, d2, d3⟩ := c1
  refine ⟨⟨rfl, rfl, d3⟩, c2, c3, fun f hf => ?_, ⟨fun u hu => ?_, fun u v hu hv huv => ?_, fun p hp => ?_⟩, fun j hj => ?_⟩
  · rw [fNew_N, if_neg (by omega), if_neg (by omega)]
    exact c4 f hf
  · have i1 : ∀ j, xI (sF (sF (sI (sI (sI S 1 (nA A 0) (nI k)) 2 (nA A 0) (nI n)) 3 (nA A 0) (nI (nA A 3))) 0 4 (nI (nA A 3 + n))) 0 0 (nI (nA A 0 + 1))) 1 j = if j = nA A 0 then nI k else xI S 1 j := fun j => by simp [gII, gIF]
    have i2 : ∀ j, xI (sF (sF (sI (sI (sI S 1 (nA A 0) (nI k)) 2 (nA A 0) (nI n)) 3 (nA A 0) (nI (nA A 3))) 0 4 (nI (nA A 3 + n))) 0 0 (nI (nA A 0 + 1))) 2 j = if j = nA A 0 then nI n else xI S 2 j := fun j => by simp [gII, gIF]
    have i3 : ∀ j, xI (sF (sF (sI (sI (sI S 1 (nA A 0) (nI k)) 2 (nA A 0) (nI n)) 3 (nA A 0) (nI (nA A 3))) 0 4 (nI (nA A 3 + n))) 0 0 (nI (nA A 0 + 1))) 3 j = if j = nA A 0 then nI (nA A 3) else xI S 3 j := fun j => by simp [gII, gIF]
    rw [i1, i2, i3]
    show _ ∧ _ ∧ _ ∧ frN fr (nA A 0) (nA A 3) u + xN (fNew A k n) (u + 120) ≤ nA A 3 + n ∧ ∀ i, i < xN (fNew A k n) (u + 120) → xL S 5 (frN fr (nA A 0) (nA A 3) u + i) = xL (fNew A k n) (u + 120) i
    rcases fNew_o.mp hu with z | z
    · have z1 := z.1; have z2 := z.2
      obtain ⟨r1, r2, r3, r4, r5⟩ := c5.1 u z
      have e : xN (fNew A k n) (u + 120) = xN A (u + 120) := by rw [fNew_N, if_neg (by omega), if_neg (by omega)]
      have e2 : frN fr (nA A 0) (nA A 3) u = fr u := if_neg (by omega)
      rw [e, e2, if_neg (by omega), if_neg (by omega), if_neg (by omega), fNew_N, if_neg (by omega), if_neg (by omega)]
      refine ⟨r1, r2, r3, by omega, fun i hi => ?_⟩
      rw [fNew_L, if_neg (by omega)]
      exact r5 i hi
    · subst z
      have e : xN (fNew A k n) (64 + nA A 0 + 120) = n := by rw [fNew_N, if_pos (by omega)]
      have e2 : frN fr (nA A 0) (nA A 3) (64 + nA A 0) = nA A 3 := if_pos rfl
      rw [e, e2, if_pos (by omega), if_pos (by omega), if_pos (by omega), fNew_N, if_neg (by omega), if_pos rfl]
      refine ⟨rfl, rfl, rfl, by omega, fun i hi => ?_⟩
      rw [fNew_L, if_pos (by omega)]
      exact c5.2.2 _ (by omega)
  · have hu2 := hu.2
    rcases fNew_o.mp hu with z | z
    · have z1 := z.1; have z2 := z.2
      have e : xN (fNew A k n) (u + 120) = xN A (u + 120) := by rw [fNew_N, if_neg (by omega), if_neg (by omega)]
      have e2 : frN fr (nA A 0) (nA A 3) u = fr u := if_neg (by omega)
      rw [e, e2]
      rcases fNew_o.mp hv with y | y
      · have y2 := y.2
        have e3 : frN fr (nA A 0) (nA A 3) v = fr v := if_neg (by omega)
        rw [e3]
        exact c5.2.1 u v z y huv
      · have e3 : frN fr (nA A 0) (nA A 3) v = nA A 3 := if_pos y
        rw [e3]
        exact (c5.1 u z).2.2.2.1
    · have hv2 : v < 64 + (nA A 0 + 1) := hv.2
      omega
  · have hp : nA A 3 + n ≤ p := hp
    exact c5.2.2 p (by omega)
  · have z := (hw.2.2.2.2.2.1 j hj).1
    have z1 := z.1; have z2 := z.2
    have e : xN (fNew A k n) (5000 + j) = xN A (5000 + j) := by rw [fNew_N, if_neg (by omega), if_neg (by omega)]
    rw [e, fNew_N, if_neg (by omega), if_neg (by omega)]
    refine ⟨(c6 j hj).1, fun i hi => ?_⟩
    rw [fNew_L, if_neg (by omega)]
    exact (c6 j hj).2 i hi
theorem m_make {fr : Nat → Nat} {A S : xs_T} {k n : Nat} {K : Int32 → xs_T → Prop} (h : MA fr A S) (hw : WF A) (h0 : nA A 0 < 120) (hK : ∀ S', MA (frN fr (nA A 0) (nA A 3)) (fNew A k n) S' → cfr S S' → xL S' = xL S → K (nI (nA A 0)) S') : v_X10_make (nI k) (nI n) S K := by
  unfold v_X10_make
  have d1 : xF S 0 0 = nI (nA A 0) := h.1.1
  have d2 : xF S 0 4 = nI (nA A 3) := h.1.2.1
  refine ⟨_, d1, h0, ?_⟩
  rintro _ rfl
  refine ⟨_, d1, h0, ?_⟩
  rintro _ rfl
  refine ⟨_, d1, h0, ?_⟩
  rintro _ rfl _ rfl _ rfl
  have hN := h.new (k := k) (n := n) hw h0
  rw [gFI, gFI, d2]
  have e1 : ∀ T : xs_T, xF T = xF S → xF (sF T 0 4 (xF T 0 4 + nI n)) 0 0 + 1 = nI (nA A 0 + 1) := fun T hT => by
    show xF T 0 0 + 1 = _
    rw [hT, d1, nI_1]
  have e2 : ∀ T : xs_T, xF T = xF S → xF T 0 4 + nI n = nI (nA A 3 + n) := fun T hT => by rw [hT, d2, nI_add]
  rw [e1 (sI (sI (sI S 1 (nA A 0) (nI k)) 2 (nA A 0) (nI n)) 3 (nA A 0) (nI (nA A 3))) rfl, e2 (sI (sI (sI S 1 (nA A 0) (nI k)) 2 (nA A 0) (nI n)) 3 (nA A 0) (nI (nA A 3))) rfl]
  have e3 : ∀ T : xs_T, xF (sF T 0 0 (nI (nA A 0 + 1))) 0 0 - 1 = nI (nA A 0) := fun T => nI_pred _
  rw [e3]
  exact hK _ hN (((((cfr.I (by decide)).trans (cfr.I (by decide))).trans (cfr.I (by decide))).trans (cfr.F (by decide))).trans (cfr.F (by decide))) rfl
abbrev room (A : xs_T) (n : Nat) : Prop := nA A 0 < 120 ∧ n ≤ 64 ∧ nA A 3 + n ≤ 3000
theorem c_room {nx : Nat} {A S : xs_T} {n : Nat} {P Q : xs_T → Prop} (h : CA nx A S) (hw : WF A) (hn : n < 2 ^ 31) (h1 : room A n → Q S) (h0 : ¬ room A n → P S) : v_X6_hasRoomForRow (nI n) S (fun r S => (¬ r = 0 → Q S) ∧ (r = 0 → P S)) := by
  unfold v_X6_hasRoomForRow
  obtain ⟨d1, d2, d3, d4, d5, d6, d7, d8, d9, -⟩ := h.1
  have b0 := hw.1.1
  have b3 := hw.1.2.2.1
  rw [d8, d9, nI_add]
  have i1 : 120 ≤ nI (nA A 0) ↔ 120 ≤ nA A 0 := nI_leI (a := 120) (by decide) (by omega)
  have i2 : 64 < nI n ↔ 64 < n := nI_ltI (a := 64) (by decide) (by omega)
  have i3 : n ≤ 64 → (3000 < nI (nA A 3 + n) ↔ 3000 < nA A 3 + n) := fun z => nI_ltI (a := 3000) (by decide) (by omega)
  refine ⟨fun q => ⟨fun z => absurd rfl z, fun _ => h0 (by rw [i1] at q; omega)⟩, fun q => ⟨fun q2 => ⟨fun z => absurd rfl z, fun _ => h0 (by rw [i2] at q2; omega)⟩, fun q2 => ?_⟩⟩
  rw [i1] at q
  rw [i2] at q2
  refine ⟨fun q3 => ⟨fun z => absurd rfl z, fun _ => h0 (by rw [i3 (by omega)] at q3; omega)⟩, fun q3 => ⟨fun _ => h1 (by rw [i3 (by omega)] at q3; omega), fun z => absurd z (by decide)⟩⟩
theorem m_room {fr : Nat → Nat} {A S : xs_T} {n : Nat} {P Q : xs_T → Prop} (h : MA fr A S) (hw : WF A) (hn : n < 2 ^ 31) (h1 : room A n → Q S) (h0 : ¬ room A n → P S) : v_X10_roomFor (nI n) S (fun r S => (¬ r = 0 → Q S) ∧ (r = 0 → P S)) := by
  unfold v_X10_roomFor
  have d8 : xF S 0 0 = nI (nA A 0) := h.1.1
  have d9 : xF S 0 4 = nI (nA A 3) := h.1.2.1
  have b0 := hw.1.1
  have b3 := hw.1.2.2.1
  rw [d8, d9, nI_add]
  have i1 : 120 ≤ nI (nA A 0) ↔ 120 ≤ nA A 0 := nI_leI (a := 120) (by decide) (by omega)
  have i2 : 64 < nI n ↔ 64 < n := nI_ltI (a := 64) (by decide) (by omega)
  have i3 : n ≤ 64 → (3000 < nI (nA A 3 + n) ↔ 3000 < nA A 3 + n) := fun z => nI_ltI (a := 3000) (by decide) (by omega)
  refine ⟨fun q => ⟨fun z => absurd rfl z, fun _ => h0 (by rw [i1] at q; omega)⟩, fun q => ⟨fun q2 => ⟨fun z => absurd rfl z, fun _ => h0 (by rw [i2] at q2; omega)⟩, fun q2 => ?_⟩⟩
  rw [i1] at q
  rw [i2] at q2
  refine ⟨fun q3 => ⟨fun z => absurd rfl z, fun _ => h0 (by rw [i3 (by omega)] at q3; omega)⟩, fun q3 => ⟨fun _ => h1 (by rw [i3 (by omega)] at q3; omega), fun z => absurd z (by decide)⟩⟩
theorem hT_new {A : xs_T} {k n : Nat} : hT (fNew A k n) (some (64 + nA A 0)) := fun u hu => by
  have := Option.some.inj hu
  exact Or.inl ⟨by omega, by show u < 64 + (nA A 0 + 1); omega⟩
def fMake (A : xs_T) (a k : Nat) (c : Int32) : Int32 × xs_T := if c.toInt < 0 then (5, A) else if room A c.toInt.toNat then (0, sQ (fNew A k c.toInt.toNat) 37 a (some (64 + nA A 0))) else (4, A)
theorem WF.make {A : xs_T} {a k : Nat} {c : Int32} (h : WF A) (hk : k ≤ 11) : WF (fMake A a k c).2 := by
  unfold fMake
  by_cases e : c.toInt < 0
  · rw [if_pos e]; exact h
  rw [if_neg e]
  by_cases e2 : room A c.toInt.toNat
  · rw [if_pos e2]; exact WF.hold (WF.new h e2.1 e2.2.2 e2.2.1 hk) hT_new
  · rw [if_neg e2]; exact h
theorem c_make {nx : Nat} {A S : xs_T} {a k : Nat} {c : Int32} {K : Int32 → xs_T → Prop} (h : CA nx A S) (hw : WF A) (ha : a < 10) (hk : k ≤ 11) (hK : CK nx S K (fMake A a k c)) : v_X0_make (nI a) (nI k) c S K := by
  unfold v_X0_make
  unfold fMake at hK
  have d10 := h.1.2.2.2.2.2.2.2.2.2.1
  refine ⟨fun q => ?_, fun q => ?_⟩
  · rw [Int32.le_iff_toInt_le, ti_0] at q
    rw [if_neg (by omega)] at hK
    obtain ⟨n, hn, rfl⟩ := i_nat q
    rw [nI_toInt hn, Int.toNat_natCast] at hK
    refine c_room h hw hn (fun z => ?_) (fun z => by rw [if_neg z] at hK; exact hK S h mfr.refl)
    rw [if_pos z] at hK
    have hC := h.new (k := k) (n := n) hw z.1
    refine c_makeRow h hw z.1 z.2.1 ⟨CA_oT hC (WF.new hw z.1 z.2.2 z.2.1 hk) hT_new, a, rfl, ha, ?_⟩
    rintro _ rfl
    exact hK _ (hC.hold hT_new) ((mfr_new d10).trans mfr.Q)
  · rw [Int32.le_iff_toInt_le, ti_0] at q
    rw [if_pos (by omega)] at hK
    exact hK S h mfr.refl
theorem m_makeOn {fr : Nat → Nat} {A S : xs_T} {a k : Nat} {c : Int32} {K : Int32 → xs_T → Prop} (h : MA fr A S) (hw : WF A) (ha : a < 10) (hK : MK S K (fMake A a k c)) : v_X10_makeOn (nI a) (nI k) c S K := by
  unfold v_X10_makeOn
  unfold fMake at hK
  refine ⟨fun q => ?_, fun q => ?_⟩
  · rw [Int32.le_iff_toInt_le, ti_0] at q
    rw [if_neg (by omega)] at hK
    obtain ⟨n, hn, rfl⟩ := i_nat q
    rw [nI_toInt hn, Int.toNat_natCast] at hK
    refine m_room h hw hn (fun z => ?_) (fun z => by rw [if_neg z] at hK; exact hK fr S h cfr.refl)
    rw [if_pos z] at hK
    refine m_make h hw z.1 (fun S' hM hc hl => m_hold ha (hK _ _ (hM.hold (Or.inl ⟨by omega, rfl, ?_⟩)) (hc.trans cfr_hold)))
    rw [show 64 + nA A 0 - 64 = nA A 0 by omega]
  · rw [Int32.le_iff_toInt_le, ti_0] at q
    rw [if_pos (by omega)] at hK
    exact hK fr S h cfr.refl
def fTw (A : xs_T) (v : Nat) : xs_T := fW (fNew A (xN A v) (xN A (v + 120))) (64 + nA A 0) 0 (xN A (v + 120)) (fun i => xL A (v + 120) i)
def fTwin (A : xs_T) (a b : Nat) : Int32 × xs_T := onRow A b (fun v => if room A (xN A (v + 120)) then (0, sQ (fTw A v) 37 a (some (64 + nA A 0))) else (4, A))
theorem hT_tw {A : xs_T} {v : Nat} : hT (fTw A v) (some (64 + nA A 0)) := hT_new (A := A) (k := xN A v) (n := xN A (v + 120))
theorem WF.tw {A : xs_T} {v : Nat} (h : WF A) (hv : oW A v) (e2 : room A (xN A (v + 120))) : WF (fTw A v) := by
  refine WF.fW (WF.new h e2.1 e2.2.2 e2.2.1 (h.2.1 v hv).1) (fNew_o.mpr (Or.inr rfl)) (fun hk i hi _ => ?_)
  rw [fNew_N, if_neg (by omega), if_pos rfl] at hk
  exact h.2.2.2.2.1 v hv hk i hi
theorem WF.twin {A : xs_T} {a b : Nat} (h : WF A) (hb : b < 10) : WF (fTwin A a b).2 := h.onRow hb (fun v hv => by
  show WF (if room A (xN A (v + 120)) then _ else _ : Int32 × xs_T).2
  by_cases e2 : room A (xN A (v + 120))
  · rw [if_pos e2]; exact WF.hold (WF.tw h hv e2) hT_tw
  · rw [if_neg e2]; exact h)
theorem c_twin {nx : Nat} {A S : xs_T} {a b : Nat} {K : Int32 → xs_T → Prop} (h : CA nx A S) (hw : WF A) (ha : a < 10) (hb : b < 10) (hK : CK nx S K (fTwin A a b)) : v_X0_twin (nI a) (nI b) S K := by
  unfold v_X0_twin
  have d10 := h.1.2.2.2.2.2.2.2.2.2.1
  refine ⟨b, rfl, hb, c_onRow h hw hb hK (fun v hv hr hK => ?_)⟩
  replace hK : CK nx S K (if room A (xN A (v + 120)) then _ else _) := hK
  have hb2 := hw.2.1 v hv
  rw [c_len h hv]
  refine c_room h hw (by omega) (fun z => ?_) (fun z => by rw [if_neg z] at hK; exact hK S h mfr.refl)
  rw [if_pos z] at hK
  rw [c_kind h hv, c_len h hv]
  have hC := h.new (k := xN A v) (n := xN A (v + 120)) hw z.1
  have hW := WF.new (k := xN A v) (n := xN A (v + 120)) hw z.1 z.2.2 z.2.1 hb2.1
  have hu : oW (fNew A (xN A v) (xN A (v + 120))) (64 + nA A 0) := fNew_o.mpr (Or.inr rfl)
  have hv1 : oW (fNew A (xN A v) (xN A (v + 120))) v := fNew_o.mpr (Or.inl hv)
  have v1 := hv.1
  have v2 := hv.2
  have ev : xN (fNew A (xN A v) (xN A (v + 120))) (v + 120) = xN A (v + 120) := by rw [fNew_N, if_neg (by omega), if_neg (by omega)]
  have eu : xN (fNew A (xN A v) (xN A (v + 120))) (64 + nA A 0 + 120) = xN A (v + 120) := by rw [fNew_N, if_pos (by omega)]
  have lv := c_len hC hv1
  have lu := c_len hC hu
  rw [ev] at lv
  rw [eu] at lu
  have haN : aN (cNew S (nA A 0) (nA A 3) (xN A v) (xN A (v + 120))) (64 + nA A 0 + 120) = xN A (v + 120) := by
    unfold aN
    rw [if_neg (by omega), lu]
  refine c_makeRow h hw z.1 z.2.1 ⟨64 + nA A 0, rfl, CA_oR hC hW hu, CA_oR hC hW hv1, Or.inr (Or.inr ⟨_, rfl, CA_oR hC hW hu⟩), 0, 0, xN A (v + 120), rfl, rfl, by rw [lv], by rw [lv]; omega, by rw [haN]; omega, ?_⟩
  rintro _ rfl
  refine ⟨a, rfl, ha, ?_⟩
  rintro _ rfl
  refine hK _ (CA.hold (hC.fW hW hu cw.refl.T (fun i hi => ?_)) hT_tw) (((mfr_new d10).trans (mfr.T (by omega))).trans mfr.Q)
  rw [eu] at hi
  rw [gLt, if_pos rfl, pk_cpy_in (by omega) (by omega), if_pos (by omega)]
  have := c_cells hC hv1 (i := i) (by rw [ev]; exact hi)
  rw [fNew_L, if_neg (by omega)] at this
  show xL (cNew S (nA A 0) (nA A 3) (xN A v) (xN A (v + 120))) (v + 120) (0 + (i - 0)) = xL A (v + 120) (i - 0)
  rw [show 0 + (i - 0) = i by omega, show i - 0 = i by omega]
  exact this
theorem m_twin59 {fr : Nat → Nat} {A A0 S0 : xs_T} {a u v n : Nat} {K : Int32 → xs_T → Prop} (h : MA fr A S0) (hw : WF A) (ha : a < 10) (hu : oW A u) (hv : oW A v) (huv : v < u) (hn : xN A (u + 120) = n) (hnv : xN A (v + 120) = n) (hg : ∀ i, i < n → xL A (v + 120) i = xL A0 (v + 120) i) (hK : ∀ S', MA fr (fW A u 0 n (fun i => xL A0 (v + 120) i)) S' → cfr S0 S' → v_X10_hold (nI a) 1 (nI (u - 64)) S' (fun S => K 0 S)) :
    ∀ (m i : Nat) (S : xs_T), i + m = n → mw S0 S → (∀ q, xL S 5 q = pw (xL S0 5) (fr u + 0) i (fun i => xL A0 (v + 120) i) q) → v_X10_twin_59 K (m + 1) (nI a) (nI (v - 64)) (nI (u - 64)) (nI i) S := by
  have hb := (hw.2.1 u hu).2
  have h0 := hw.1.1
  have hc := hw.1.2.2.1
  have hlt := hu.2
  have hlv := hv.2
  obtain ⟨r1, r2, r3, r4, r5⟩ := m_row h hu
  obtain ⟨s1, s2, s3, s4, s5⟩ := m_row h hv
  have hord := h.2.2.2.2.1.2.1 v u hv hu huv
  intro m
  induction m with
  | zero =>
    intro i S hi hm h5
    rw [v_X10_twin_59]
    refine ⟨v - 64, rfl, by omega, ?_⟩
    rw [hm.2.2.1, s2, hnv]
    have e : i = n := by omega
    subst e
    exact ⟨fun _ => hK S (h.pool hw hu hm (by omega) h5) hm.1, fun q => absurd (nI_le (Nat.le_refl i) (by omega)) q⟩
  | succ m ih =>
    intro i S hi hm h5
    rw [v_X10_twin_59]
    refine ⟨v - 64, rfl, by omega, ?_⟩
    rw [hm.2.2.1, s2, hnv]
    refine ⟨fun q => absurd q (nI_ge (by omega) (by omega)), fun _ => ⟨u - 64, rfl, by omega, v - 64, rfl, by omega, fr v + i, by rw [s3, nI_add], by omega, fr u + i, by rw [r3, nI_add], by omega, ?_⟩⟩
    rintro _ rfl
    rw [nI_1]
    refine ih (i + 1) _ (by omega) hm.L5 (pw_1 h5 (by omega) ?_)
    rw [h5]
    unfold pw
    rw [if_neg (by omega), s5 i (by omega)]
    exact hg i (by omega)
theorem m_twin {fr : Nat → Nat} {A S : xs_T} {a b : Nat} {K : Int32 → xs_T → Prop} (h : MA fr A S) (hw : WF A) (ha : a < 10) (hb : b < 10) (hK : MK S K (fTwin A a b)) : v_X10_twin (nI a) (nI b) S K := by
  unfold v_X10_twin
  have h0 := hw.1.1
  refine ⟨b, rfl, hb, m_onRow h hw hb hK (fun z => ⟨fun q => absurd q (by decide), fun _ => z⟩) (fun v hv hlt hr hK => ⟨fun _ => ⟨v - 64, rfl, by omega, ?_⟩, fun q => absurd (nI_pos' (by omega)) q⟩)⟩
  replace hK : MK S K (if room A (xN A (v + 120)) then _ else _) := hK
  have hb2 := hw.2.1 v hv
  obtain ⟨r1, r2, r3, r4, r5⟩ := m_row h hv
  rw [r2]
  refine m_room h hw (by omega) (fun z => ⟨v - 64, rfl, by omega, v - 64, rfl, by omega, ?_⟩) (fun z => by rw [if_neg z] at hK; exact hK fr S h cfr.refl)
  rw [if_pos z] at hK
  rw [r1, r2]
  have v1 := hv.1
  have v2 := hv.2
  refine m_make h hw z.1 (fun S' hM hc hl => ⟨xN A (v + 120) + 1, ?_⟩)
  have ev : xN (fNew A (xN A v) (xN A (v + 120))) (v + 120) = xN A (v + 120) := by rw [fNew_N, if_neg (by omega), if_neg (by omega)]
  have eu : xN (fNew A (xN A v) (xN A (v + 120))) (64 + nA A 0 + 120) = xN A (v + 120) := by rw [fNew_N, if_pos (by omega)]
  have hW := WF.new (k := xN A v) (n := xN A (v + 120)) hw z.1 z.2.2 z.2.1 hb2.1
  have key := m_twin59 (A0 := A) (K := K) hM hW ha (fNew_o.mpr (Or.inr rfl)) (fNew_o.mpr (Or.inl hv)) v2 eu ev (fun i hi => by rw [fNew_L, if_neg (by omega)]) (fun S'' hM2 hc2 => m_hold ha (hK _ _ (hM2.hold (Or.inl ⟨by omega, rfl, rfl⟩)) ((hc.trans hc2).trans cfr_hold))) (xN A (v + 120)) 0 S' (by omega) mw.refl (fun q => (pw_0 _ _ _ q).symm)
  rw [show 64 + nA A 0 - 64 = nA A 0 by omega] at key
  exact key
/-! one thing on two spindles -/
theorem WF.share {A : xs_T} {a b : Nat} (h : WF A) (hb : b < 10) : WF (sQ A 37 a (xQ A 37 b)) := WF.hold h (h.2.2.2.1 b hb)
