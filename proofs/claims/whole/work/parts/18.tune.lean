/-! the tune: order, cut -/
theorem nI_inj {a b : Nat} (ha : a < 2 ^ 31) (hb : b < 2 ^ 31) (h : nI a = nI b) : a = b := (nI_eq ha hb).mp h
theorem nI_lit0 : (0 : Int32) = nI 0 := rfl
def fOrd (x1 x2 x3 x4 : Int32) (A : xs_T) : xs_T := sA (sI (sI (sI (sI A 42 (nA A 4) x1) 43 (nA A 4) x2) 44 (nA A 4) x3) 45 (nA A 4) x4) 4 (nA A 4 + 1)
theorem I_Ord (x1 x2 x3 x4 : Int32) (A : xs_T) (k : Nat) : xI (fOrd x1 x2 x3 x4 A) 42 k = (if k = nA A 4 then x1 else xI A 42 k) ∧ xI (fOrd x1 x2 x3 x4 A) 43 k = (if k = nA A 4 then x2 else xI A 43 k) ∧ xI (fOrd x1 x2 x3 x4 A) 44 k = (if k = nA A 4 then x3 else xI A 44 k) ∧ xI (fOrd x1 x2 x3 x4 A) 45 k = (if k = nA A 4 then x4 else xI A 45 k) ∧ xI (fOrd x1 x2 x3 x4 A) 46 k = xI A 46 k := by
  unfold fOrd sA
  simp [gII, gIQ]
theorem WF_Ord {x1 x2 x3 x4 : Int32} {A : xs_T} (h : WF A) (ho : ordOK x1 x2 x3 x4) (hn : nA A 4 < 60) : WF (fOrd x1 x2 x3 x4 A) := by
  obtain ⟨h1, h2, h3, h4, h5, h6, h7⟩ := h
  refine ⟨⟨h1.1, h1.2.1, h1.2.2.1, hn, h1.2.2.2.2⟩, h2, h3, h4, h5, h6, fun k hk => ?_⟩
  obtain ⟨e1, e2, e3, e4, -⟩ := I_Ord x1 x2 x3 x4 A k
  rw [e1, e2, e3, e4]
  by_cases hkn : k = nA A 4
  · rw [if_pos hkn, if_pos hkn, if_pos hkn, if_pos hkn]; exact ho
  · rw [if_neg hkn, if_neg hkn, if_neg hkn, if_neg hkn]
    have : k < nA A 4 + 1 := hk
    exact h7 k (by omega)
theorem c_order {nx : Nat} {A S : xs_T} {x1 x2 x3 x4 : Int32} {K : Int32 → xs_T → Prop} (h : CA nx A S) (hw : WF A) (h1 : ordOK x1 x2 x3 x4 → nA A 4 < 60 → ∀ S', CA nx (fOrd x1 x2 x3 x4 A) S' → mfr S S' → K (nI (nA A 4)) S') (h0 : ¬ (ordOK x1 x2 x3 x4 ∧ nA A 4 < 60) → K (-1) S) : v_X9_order x1 x2 x3 x4 S K := by
  unfold v_X9_order
  have hn : nA A 4 ≤ 60 := hw.1.2.2.2.1
  have hl : xF S 34 5 = nI (nA A 4) := h.1.2.2.2.2.2.1
  have hc : xF S 34 5 < 60 ↔ nA A 4 < 60 := by rw [hl]; exact nI_ltI (by omega) (by decide)
  refine s_told (fun ho => ⟨fun q => absurd q (by decide), fun _ => ⟨fun q => ?_, fun q => h0 (fun z => q (hc.mpr z.2))⟩⟩) (fun ho => ⟨fun _ => h0 (fun z => ho z.1), fun q => absurd rfl q⟩)
  have hlt := hc.mp q
  unfold v_X8_append
  refine ⟨_, hl, hlt, ?_⟩
  rintro _ rfl
  refine ⟨_, hl, hlt, ?_⟩
  rintro _ rfl
  refine ⟨_, hl, hlt, ?_⟩
  rintro _ rfl
  refine ⟨_, hl, hlt, ?_⟩
  rintro _ rfl _ rfl
  rw [hl]
  refine h1 ho hlt _ ?_ (mfr.trans (mfr.trans (mfr.trans (mfr.trans (mfr.I (by decide)) (mfr.I (by decide))) (mfr.I (by decide))) (mfr.I (by decide))) (mfr.F (by decide)))
  obtain ⟨c1, c2, c3, c4, c5, c6, c7⟩ := h
  refine ⟨?_, fun k hk => ?_, c3, c4.F (by decide), c5.F (by decide), c6, c7⟩
  · obtain ⟨d1, d2, d3, d4, d5, d6, d7⟩ := c1
    refine ⟨d1, d2, d3, d4, d5, ?_, d7⟩
    show xF S 34 5 + 1 = nI (nA A 4 + 1)
    rw [hl, nI_1]
  · obtain ⟨e1, e2, e3, e4, e5⟩ := I_Ord x1 x2 x3 x4 A k
    obtain ⟨g1, g2, g3, g4, g5⟩ := c2 k hk
    rw [e1, e2, e3, e4, e5, ← g1, ← g2, ← g3, ← g4, ← g5]
    simp [gII, gIF]
theorem m_order {fr : Nat → Nat} {A S : xs_T} {x1 x2 x3 x4 : Int32} {K : Int32 → xs_T → Prop} (h : MA fr A S) (hw : WF A) (h1 : ordOK x1 x2 x3 x4 → nA A 4 < 60 → ∀ S', MA fr (fOrd x1 x2 x3 x4 A) S' → cfr S S' → K (nI (nA A 4)) S') (h0 : ¬ (ordOK x1 x2 x3 x4 ∧ nA A 4 < 60) → K (-1) S) : v_X10_order x1 x2 x3 x4 S K := by
  unfold v_X10_order
  have hn : nA A 4 ≤ 60 := hw.1.2.2.2.1
  have hl : xF S 0 12 = nI (nA A 4) := h.1.2.2.2.2.1
  have hc : xF S 0 12 = 60 ↔ nA A 4 = 60 := by rw [hl]; exact nI_eq (by omega) (by decide)
  refine ⟨fun q => h0 (fun z => by have := hc.mp q; omega), fun q => s_isOrder (fun ho => ⟨fun _ => ?_, fun z => absurd z (by decide)⟩) (fun ho => ⟨fun z => absurd rfl z, fun _ => h0 (fun z => ho z.1)⟩)⟩
  have hlt : nA A 4 < 60 := by
    have : ¬ nA A 4 = 60 := fun z => q (hc.mpr z)
    omega
  refine ⟨_, hl, hlt, ?_⟩
  rintro _ rfl
  refine ⟨_, hl, hlt, ?_⟩
  rintro _ rfl
  refine ⟨_, hl, hlt, ?_⟩
  rintro _ rfl
  refine ⟨_, hl, hlt, ?_⟩
  rintro _ rfl _ rfl
  have hr : xF S 0 12 + 1 - 1 = nI (nA A 4) := by rw [hl, nI_1, nI_pred]
  show K (xF S 0 12 + 1 - 1) _
  rw [hr]
  refine h1 ho hlt _ ?_ (cfr.trans (cfr.trans (cfr.trans (cfr.trans (cfr.I (by decide)) (cfr.I (by decide))) (cfr.I (by decide))) (cfr.I (by decide))) (cfr.F (by decide)))
  obtain ⟨c1, c2, c3, c4, c5, c6⟩ := h
  refine ⟨?_, fun k hk => ?_, c3, c4, c5, c6⟩
  · obtain ⟨d1, d2, d3, d4, d5, d6⟩ := c1
    refine ⟨d1, d2, d3, d4, ?_, d6⟩
    show xF S 0 12 + 1 = nI (nA A 4 + 1)
    rw [hl, nI_1]
  · obtain ⟨e1, e2, e3, e4, e5⟩ := I_Ord x1 x2 x3 x4 A k
    obtain ⟨g1, g2, g3, g4, g5⟩ := c2 k hk
    rw [e1, e2, e3, e4, e5, ← g1, ← g2, ← g3, ← g4, ← g5]
    simp [gII, gIF]
def fCut (n : Nat) (A : xs_T) : xs_T := sA A 4 n
theorem WF_Cut {A : xs_T} {n : Nat} (h : WF A) (hn : n ≤ nA A 4) : WF (fCut n A) := by
  obtain ⟨h1, h2, h3, h4, h5, h6, h7⟩ := h
  exact ⟨⟨h1.1, h1.2.1, h1.2.2.1, by show n ≤ 60; have := h1.2.2.2.1; omega, h1.2.2.2.2⟩, h2, h3, h4, h5, h6, fun k hk => h7 k (by have : k < n := hk; omega)⟩
/-- an int between 0 and a number -/
theorem i_nat {x : Int32} (h0 : 0 ≤ x.toInt) : ∃ n : Nat, n < 2 ^ 31 ∧ x = nI n := nI_of (fun q => by rw [Int32.lt_iff_toInt_lt, ti_0] at q; omega)
theorem c_cut {nx : Nat} {A S : xs_T} {x1 : Int32} {K : Int32 → xs_T → Prop} (h : CA nx A S) (hw : WF A) (h1 : ∀ n, x1 = nI n → n ≤ nA A 4 → ∀ S', CA nx (fCut n A) S' → mfr S S' → K 1 S') (h0 : ¬ (0 ≤ x1.toInt ∧ x1.toInt ≤ nA A 4) → K 0 S) : v_X9_cut x1 S K := by
  unfold v_X9_cut
  have hn : nA A 4 ≤ 60 := hw.1.2.2.2.1
  have hl : xF S 34 5 = nI (nA A 4) := h.1.2.2.2.2.2.1
  have ht : (nI (nA A 4)).toInt = nA A 4 := nI_toInt (by omega)
  rw [hl]
  simp only [Int32.lt_iff_toInt_lt, Int32.le_iff_toInt_le, ti_0, ht]
  refine ⟨fun q => h0 (by omega), fun q => ⟨fun z => ?_, fun z => h0 (by omega)⟩⟩
  rintro _ rfl
  obtain ⟨n, hn2, rfl⟩ := i_nat (x := x1) (by omega)
  rw [nI_toInt hn2] at z
  refine h1 n rfl (by omega) _ ?_ (mfr.F (by decide))
  obtain ⟨c1, c2, c3, c4, c5, c6, c7⟩ := h
  refine ⟨?_, c2, c3, c4.F (by decide), c5.F (by decide), c6, c7⟩
  obtain ⟨d1, d2, d3, d4, d5, d6, d7⟩ := c1
  exact ⟨d1, d2, d3, d4, d5, rfl, d7⟩
theorem m_cut {fr : Nat → Nat} {A S : xs_T} {x1 : Int32} {K : Int32 → xs_T → Prop} (h : MA fr A S) (hw : WF A) (h1 : ∀ n, x1 = nI n → n ≤ nA A 4 → ∀ S', MA fr (fCut n A) S' → cfr S S' → K 1 S') (h0 : ¬ (0 ≤ x1.toInt ∧ x1.toInt ≤ nA A 4) → K 0 S) : v_X10_cut x1 S K := by
  unfold v_X10_cut
  have hn : nA A 4 ≤ 60 := hw.1.2.2.2.1
  have hl : xF S 0 12 = nI (nA A 4) := h.1.2.2.2.2.1
  have ht : (nI (nA A 4)).toInt = nA A 4 := nI_toInt (by omega)
  rw [hl]
  refine s_in3 (fun z => ?_) (fun z => h0 (by rw [ti_0, ht] at z; exact z))
  rw [ti_0, ht] at z
  rintro _ rfl
  obtain ⟨n, hn2, rfl⟩ := i_nat (x := x1) (by omega)
  rw [nI_toInt hn2] at z
  refine h1 n rfl (by omega) _ ?_ (cfr.F (by decide))
  obtain ⟨c1, c2, c3, c4, c5, c6⟩ := h
  refine ⟨?_, c2, c3, c4, c5, c6⟩
  obtain ⟨d1, d2, d3, d4, d5, d6⟩ := c1
  exact ⟨d1, d2, d3, d4, rfl, d6⟩
