/-! reads: count, sort, cell, look -/
theorem CA_oR {nx : Nat} {A S : xs_T} {u : Nat} (h : CA nx A S) (hw : WF A) (hu : oW A u) : oR S u := by
  obtain ⟨h1, h2⟩ := hu
  have hn := h.1.2.2.2.2.2.2.2.2.2.1
  have hl := (h.2.2.2.2.1 u ⟨h1, h2⟩).2.1
  have h3 := hw.2.1 u ⟨h1, h2⟩
  have h4 := hw.1.1
  exact ⟨h1, by omega, by rw [hn]; exact h2, by rw [hl]; exact h3.2⟩
theorem CA_oW {nx : Nat} {A S : xs_T} {u : Nat} (h : CA nx A S) (hu : oR S u) : oW A u := by
  have hn := h.1.2.2.2.2.2.2.2.2.2.1
  exact ⟨hu.1, by rw [← hn]; exact hu.2.2.1⟩
theorem CA_oG {nx : Nat} {A S : xs_T} {u : Nat} (h : CA nx A S) (hw : WF A) (h1 : 304 ≤ u) (h2 : u < 304 + nA A 1) : oG S u := by
  have hn := h.1.2.2.2.2.2.2.2.2.2.2.1
  have h4 := hw.1.2.1
  exact ⟨h1, by omega, by rw [hn]; exact h2⟩
theorem CA_oG' {nx : Nat} {A S : xs_T} {u : Nat} (h : CA nx A S) (hu : oG S u) : 304 ≤ u ∧ u < 304 + nA A 1 := by
  have hn := h.1.2.2.2.2.2.2.2.2.2.2.1
  exact ⟨hu.1, by rw [← hn]; exact hu.2.2⟩
theorem CA_oT {nx : Nat} {A S : xs_T} {q : Option Nat} (h : CA nx A S) (hw : WF A) (hq : hT A q) : oT S q := by
  cases q with
  | none => exact Or.inl rfl
  | some u =>
    refine Or.inr ⟨u, rfl, ?_⟩
    rcases hq u rfl with h1 | h1 | h1
    · exact Or.inl (CA_oR h hw h1)
    · exact Or.inr (Or.inl (CA_oG h hw h1.1 h1.2))
    · have hn := h.1.2.2.2.2.2.2.2.2.2.2.2.1
      exact Or.inr (Or.inr ⟨h1.1, by rw [hn]; exact h1.2⟩)
theorem CA.held {nx : Nat} {A S : xs_T} (h : CA nx A S) {k : Nat} (hk : k < 10) : xQ S 37 k = xQ A 37 k := (h.2.2.1 k hk).1
theorem CA.mark {nx : Nat} {A S : xs_T} (h : CA nx A S) {k : Nat} (hk : k < 10) : xI S 38 k = xI A 38 k := (h.2.2.1 k hk).2
theorem i_sp {x : Int32} (h : 0 ≤ x.toInt ∧ x.toInt ≤ 9) : ∃ k : Nat, k < 10 ∧ x = nI k := by
  obtain ⟨n, h1, h2⟩ := i_nat h.1
  subst h2
  rw [nI_toInt h1] at h
  exact ⟨n, by omega, rfl⟩
def fCnt (x : Int32) (A : xs_T) : Int32 := if x = 0 then nI (nA A 4) else if x = 1 then nI (nA A 7) else if x = 2 then nI (nA A 0) else if x = 3 then nI (nA A 3) else if x = 4 then nI (nA A 1) else if x = 5 then nI (nA A 6) else if x = 6 then xF A 0 24 else if x = 7 then xF A 0 25 else if x = 8 then xF A 0 26 else if x = 9 then xF A 0 27 else -1
theorem c_count {nx : Nat} {A S : xs_T} {x : Int32} {K : Int32 → xs_T → Prop} (h : CA nx A S) (hK : K (fCnt x A) S) : v_X9_count x S K := by
  obtain ⟨⟨d1, d2, d3, d4, d5, d6, d7, d8, d9, -⟩, -, -, -, -, -, ⟨-, d10, -⟩⟩ := h
  unfold v_X9_count
  unfold fCnt at hK
  rw [d1, d2, d3, d4, d5, d6, d7, d8, d9, d10]
  refine ⟨?_, ?_, ?_, ?_, ?_, ?_, ?_, ?_, ?_, ?_, ?_⟩
  all_goals (intros; simp_all)
theorem m_count {fr : Nat → Nat} {A S : xs_T} {x : Int32} {K : Int32 → xs_T → Prop} (h : MA fr A S) (hK : K (fCnt x A) S) : v_X10_count x S K := by
  obtain ⟨⟨d1, d2, d3, d4, d5, d6, d7, d8, d9, d10, d11⟩, -⟩ := h
  unfold v_X10_count
  unfold fCnt at hK
  rw [d1, d2, d3, d5, d6, d7, d8, d9, d10, d11]
  refine ⟨?_, ?_, ?_, ?_, ?_, ?_, ?_, ?_, ?_, ?_, ?_⟩
  all_goals (intros; simp_all)
/-- figureOf: the figure's number, or none -/
def fFig (A : xs_T) (f : Nat) : Option Nat := if 1 ≤ f ∧ f ≤ nA A 1 then some (303 + f) else none
theorem l_ti (x : Int32) : x.toInt64.toInt = x.toInt := Int32.toInt_toInt64 x
theorem c_figOf {nx : Nat} {A S : xs_T} {x : Int64} {K : Option Nat → xs_T → Prop} (h : CA nx A S) (hw : WF A) (h1 : ∀ f : Nat, 1 ≤ f → f ≤ nA A 1 → x = lN f → K (some (303 + f)) S) (h0 : ¬ (1 ≤ x.toInt ∧ x.toInt ≤ nA A 1) → K none S) : v_X6_figureOf x S K := by
  unfold v_X6_figureOf
  have hn := hw.1.2.1
  have hf : xF S 40 1 = nI (nA A 1) := h.1.2.2.2.2.2.2.1
  have ht : (nI (nA A 1)).toInt64.toInt = nA A 1 := by rw [l_ti, nI_toInt (by omega)]
  have l1 : (1 : Int64).toInt = 1 := by decide
  rw [hf]
  simp only [Int64.lt_iff_toInt_lt, Int64.le_iff_toInt_le, l1, ht]
  refine ⟨fun q => h0 (by omega), fun q => ⟨fun z => ?_, fun z => h0 (by omega)⟩⟩
  obtain ⟨f, hf1, rfl⟩ := pk_lOf (x := x) (by rw [Int64.lt_iff_toInt_lt]; have : (0 : Int64).toInt = 0 := by decide
                                              omega)
  rw [pk_lT hf1] at q z
  have e : (lN f).toInt32 - 1 = nI (f - 1) := by
    rw [lN_i, show f = (f - 1) + 1 by omega, nI_pred]; rfl
  refine ⟨f - 1, e, by omega, ?_⟩
  have := h1 f (by omega) (by omega) rfl
  rw [((h.2.2.2.1) (f - 1) (by omega)).2.2, show 304 + (f - 1) = 303 + f by omega]
  exact this
def fSort (x : Int32) (A : xs_T) : Int32 := if 1 ≤ x.toInt ∧ x.toInt ≤ nA A 1 then nI (xN A (303 + x.toInt.toNat)) else -1
theorem c_sort {nx : Nat} {A S : xs_T} {x : Int32} {K : Int32 → xs_T → Prop} (h : CA nx A S) (hw : WF A) (hK : K (fSort x A) S) : v_X9_sort x S K := by
  unfold v_X9_sort
  unfold fSort at hK
  refine c_figOf h hw (fun f h1 h2 e => ⟨fun q => (by cases q), fun u q => ?_⟩) (fun q => ⟨fun _ => ?_, fun u z => (by cases z)⟩)
  · cases q
    have hn := hw.1.2.1
    have e2 : x.toInt = f := by rw [← l_ti, e, pk_lT (by omega)]
    rw [if_pos (by omega), e2] at hK
    refine ⟨CA_oG h hw (by omega) (by omega), ?_⟩
    have := (h.2.2.2.1 (f - 1) (by omega)).1
    rw [show 304 + (f - 1) = 303 + f by omega] at this
    rw [this]
    exact hK
  · rw [l_ti] at q
    rw [if_neg q] at hK
    exact hK
theorem m_sort {fr : Nat → Nat} {A S : xs_T} {x : Int32} {K : Int32 → xs_T → Prop} (h : MA fr A S) (hw : WF A) (hK : K (fSort x A) S) : v_X10_sort x S K := by
  unfold v_X10_sort
  unfold fSort at hK
  have hn := hw.1.2.1
  have hf : xF S 0 6 = nI (nA A 1) := h.1.2.2.1
  rw [hf]
  have ht : (nI (nA A 1)).toInt = nA A 1 := nI_toInt (by omega)
  refine s_in2 (fun q => ?_) (fun q => ?_)
  · rw [ti_1, ht] at q
    rw [if_pos q] at hK
    obtain ⟨f, h1, rfl⟩ := i_nat (x := x) (by omega)
    rw [nI_toInt h1] at q hK
    refine ⟨f, rfl, by omega, ?_⟩
    have := h.2.2.2.1 (f - 1) (by omega)
    rw [show f - 1 + 1 = f by omega, show 304 + (f - 1) = 303 + f by omega] at this
    rw [this]
    exact hK
  · rw [ti_1, ht] at q
    rw [if_neg q] at hK
    exact hK
