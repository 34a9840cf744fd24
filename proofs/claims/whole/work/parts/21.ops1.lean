/-! what orders do to the abstract state -/
theorem WF.row {A : xs_T} {u : Nat} {g : Nat → Int64} (h : WF A) (hu : oW A u) (hg : 8 ≤ xN A u → ∀ i, i < xN A (u + 120) → figC A (g i)) : WF (tL A (u + 120) g) := by
  obtain ⟨h1, h2, h3, h4, h5, h6, h7⟩ := h
  have hl : ∀ i j, xL (tL A (u + 120) g) i j = if i = u + 120 then g j else xL A i j := fun i j => gLt A (u + 120) g i j
  have h64 := hu.1
  have hlt := hu.2
  have hn := h1.1
  refine ⟨h1, h2, h3, h4, fun v hv hk i hi => ?_, fun j hj => ⟨(h6 j hj).1, fun hk i hi => ?_⟩, h7⟩
  · rw [hl]
    by_cases e : v = u
    · subst e
      rw [if_pos rfl]
      exact hg hk i hi
    · rw [if_neg (by omega)]
      exact h5 v hv hk i hi
  · rw [hl, if_neg (by omega)]
    exact (h6 j hj).2 hk i hi
theorem CA.row {nx : Nat} {A S : xs_T} {u : Nat} {g g' : Nat → Int64} (h : CA nx A S) (hw : WF A) (hu : oW A u) (hg : ∀ i, i < xN A (u + 120) → g' i = g i) : CA nx (tL A (u + 120) g) (tL S (u + 120) g') := by
  obtain ⟨c1, c2, c3, c4, c5, c6, c7⟩ := h
  have h64 := hu.1
  have hlt := hu.2
  have hn := hw.1.1
  refine ⟨c1, c2, c3, c4, fun v hv => ⟨(c5 v hv).1, (c5 v hv).2.1, fun i hi => ?_⟩, c6, c7.1, c7.2.1, c7.2.2.1, fun j hj => ⟨(c7.2.2.2 j hj).1, fun i hi => ?_⟩⟩
  · rw [gLt, gLt]
    by_cases e : v = u
    · subst e
      rw [if_pos rfl, if_pos rfl]
      exact hg i hi
    · rw [if_neg (by omega), if_neg (by omega)]
      exact (c5 v hv).2.2 i hi
  · rw [gLt, gLt, if_neg (by omega), if_neg (by omega)]
    exact (c7.2.2.2 j hj).2 i hi
/-- all of the reference but its cells and its rows between -/
def mfs (S S' : xs_T) : Prop := xF S' = xF S ∧ xI S' = xI S ∧ xL S' 20 = xL S 20
theorem MA.row {fr : Nat → Nat} {A S S' : xs_T} {u : Nat} {g : Nat → Int64} (h : MA fr A S) (hw : WF A) (hu : oW A u) (hm : mfs S S') (hg : ∀ i, i < xN A (u + 120) → xL S' 5 (fr u + i) = g i) (ho : ∀ p, p < fr u ∨ fr u + xN A (u + 120) ≤ p → xL S' 5 p = xL S 5 p) : MA fr (tL A (u + 120) g) S' := by
  obtain ⟨c1, c2, c3, c4, c5, c6⟩ := h
  obtain ⟨m1, m2, m3⟩ := hm
  have h64 := hu.1
  have hlt := hu.2
  have hn := hw.1.1
  refine ⟨?_, ?_, ?_, ?_, ⟨fun v hv => ?_, c5.2.1, fun p hp => ?_⟩, fun j hj => ?_⟩
  · unfold MAs at *; rw [m1]; exact c1
  · unfold MAt at *; rw [m2]; exact c2
  · unfold MAh at *; rw [m2]; exact c3
  · unfold MAg at *; rw [m2]; exact c4
  · rw [m2]
    obtain ⟨r1, r2, r3, r4, r5⟩ := c5.1 v hv
    refine ⟨r1, r2, r3, r4, fun i hi => ?_⟩
    have hi : i < xN A (v + 120) := hi
    rw [gLt]
    by_cases e : v = u
    · subst e
      rw [if_pos rfl]
      exact hg i hi
    · rw [if_neg (by omega), ← r5 i hi]
      refine ho _ ?_
      have h64v := hv.1
      rcases Nat.lt_or_gt_of_ne e with q | q
      · have := c5.2.1 v u hv hu q
        omega
      · have := c5.2.1 u v hu hv q
        omega
  · rw [ho p (Or.inr (Nat.le_trans (c5.1 u hu).2.2.2.1 hp))]
    exact c5.2.2 p hp
  · rw [m2, m3]
    refine ⟨(c6 j hj).1, fun i hi => ?_⟩
    rw [gLt, if_neg (by omega)]
    exact (c6 j hj).2 i hi
theorem WF.hold {A : xs_T} {k : Nat} {q : Option Nat} (h : WF A) (hq : hT A q) : WF (sQ A 37 k q) := by
  obtain ⟨h1, h2, h3, h4, h5, h6, h7⟩ := h
  refine ⟨h1, h2, h3, fun j hj => ?_, h5, h6, h7⟩
  rw [gQQ]
  by_cases e : j = k
  · rw [if_pos ⟨rfl, e⟩]; exact hq
  · rw [if_neg (fun z => e z.2)]; exact h4 j hj
theorem CA.hold {nx : Nat} {A S : xs_T} {k : Nat} {q : Option Nat} (h : CA nx A S) (hq : hT A q) : CA nx (sQ A 37 k q) (sQ S 37 k q) := by
  obtain ⟨c1, c2, c3, c4, c5, c6, c7⟩ := h
  refine ⟨c1, c2, fun j hj => ⟨?_, (c3 j hj).2⟩, c4, c5, fun i j => ?_, c7⟩
  · rw [gQQ, gQQ, (c3 j hj).1]
  · rw [gQQ]
    by_cases e : i = 37 ∧ j = k
    · rw [if_pos e]; exact hq
    · rw [if_neg e]; exact c6 i j
theorem MA.hold {fr : Nat → Nat} {A S : xs_T} {k : Nat} {q : Option Nat} {a b : Int32} (h : MA fr A S) (hq : hM a b q) : MA fr (sQ A 37 k q) (sI (sI S 9 k a) 10 k b) := by
  obtain ⟨c1, c2, c3, c4, c5, c6⟩ := h
  refine ⟨c1, c2, fun j hj => ⟨?_, (c3 j hj).2⟩, c4, c5, c6⟩
  have e1 : xI (sI (sI S 9 k a) 10 k b) 9 j = if j = k then a else xI S 9 j := by simp [gII]
  have e2 : xI (sI (sI S 9 k a) 10 k b) 10 j = if j = k then b else xI S 10 j := by simp [gII]
  rw [e1, e2, gQQ]
  by_cases e : j = k
  · rw [if_pos e, if_pos e, if_pos ⟨rfl, e⟩]; exact hq
  · rw [if_neg e, if_neg e, if_neg (fun z => e z.2)]; exact (c3 j hj).1
theorem m_hold {k : Nat} {a b : Int32} {S : xs_T} {K : xs_T → Prop} (hk : k < 10) (h : K (sI (sI S 9 k a) 10 k b)) : v_X10_hold (nI k) a b S K := by
  refine ⟨k, rfl, hk, ?_⟩
  rintro _ rfl
  refine ⟨k, rfl, hk, ?_⟩
  rintro _ rfl
  exact h
theorem cfr_hold {S : xs_T} {k : Nat} {a b : Int32} : cfr S (sI (sI S 9 k a) 10 k b) := (cfr.I (by decide)).trans (cfr.I (by decide))
theorem WF.mark {A : xs_T} {k : Nat} {c : Int32} (h : WF A) : WF (sI A 38 k c) := h
theorem CA.mark' {nx : Nat} {A S : xs_T} {k : Nat} {c : Int32} (h : CA nx A S) : CA nx (sI A 38 k c) (sI S 38 k c) := by
  obtain ⟨c1, c2, c3, c4, c5, c6, c7⟩ := h
  refine ⟨c1, c2, fun j hj => ⟨(c3 j hj).1, ?_⟩, c4, c5, c6, c7⟩
  rw [gII, gII, (c3 j hj).2]
theorem MA.mark' {fr : Nat → Nat} {A S : xs_T} {k : Nat} {c : Int32} (h : MA fr A S) : MA fr (sI A 38 k c) (sI S 11 k c) := by
  obtain ⟨c1, c2, c3, c4, c5, c6⟩ := h
  refine ⟨c1, c2, fun j hj => ⟨(c3 j hj).1, ?_⟩, c4, c5, c6⟩
  rw [gII, gII, (c3 j hj).2]
  simp
/-- swap -/
def fSwap (a b : Nat) (A : xs_T) : xs_T := sQ (sQ A 37 a (xQ A 37 b)) 37 b (xQ A 37 a)
theorem WF.swap {A : xs_T} {a b : Nat} (h : WF A) (ha : a < 10) (hb : b < 10) : WF (fSwap a b A) := WF.hold (WF.hold h (h.2.2.2.1 b hb)) (h.2.2.2.1 a ha)
theorem c_swap {nx : Nat} {A S : xs_T} {a b : Nat} {K : Int32 → xs_T → Prop} (h : CA nx A S) (hw : WF A) (ha : a < 10) (hb : b < 10) (hK : ∀ S', CA nx (fSwap a b A) S' → mfr S S' → K 0 S') : v_X0_swap (nI a) (nI b) S K := by
  unfold v_X0_swap
  refine ⟨a, rfl, ha, b, rfl, hb, CA_oT h hw (by rw [h.held hb]; exact hw.2.2.2.1 b hb), a, rfl, ha, ?_⟩
  rintro _ rfl
  have ho : oT S (xQ S 37 a) := CA_oT h hw (by rw [h.held ha]; exact hw.2.2.2.1 a ha)
  refine ⟨ho, b, rfl, hb, ?_⟩
  rintro _ rfl
  refine hK _ ?_ (mfr.Q.trans mfr.Q)
  rw [h.held ha, h.held hb]
  exact CA.hold (CA.hold h (hw.2.2.2.1 b hb)) (hw.2.2.2.1 a ha)
theorem m_swap {fr : Nat → Nat} {A S : xs_T} {a b : Nat} {K : xs_T → Prop} (h : MA fr A S) (ha : a < 10) (hb : b < 10) (hK : ∀ S', MA fr (fSwap a b A) S' → cfr S S' → K S') : v_X10_swap (nI a) (nI b) S K := by
  unfold v_X10_swap
  refine ⟨a, rfl, ha, a, rfl, ha, b, rfl, hb, b, rfl, hb, m_hold ha (m_hold hb (hK _ ?_ (cfr_hold.trans cfr_hold)))⟩
  exact MA.hold (MA.hold h (m_held h hb)) (m_held h ha)
