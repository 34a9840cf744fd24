/-- the row on a spindle -/
def fRow (A : xs_T) (k : Nat) : Option Nat := match xQ A 37 k with
  | some u => if u < 184 then some u else none
  | none => none
theorem fRow_s {A : xs_T} {k u : Nat} (hw : WF A) (hk : k < 10) (h : fRow A k = some u) : xQ A 37 k = some u ∧ oW A u := by
  unfold fRow at h
  cases hq : xQ A 37 k with
  | none => rw [hq] at h; cases h
  | some v =>
    rw [hq] at h
    have h2 : (if v < 184 then some v else none) = some u := h
    by_cases hv : v < 184
    · rw [if_pos hv] at h2
      have h4 : v = u := Option.some.inj h2
      subst h4
      refine ⟨rfl, ?_⟩
      rcases hw.2.2.2.1 k hk v hq with h3 | h3 | h3
      · exact h3
      · omega
      · omega
    · rw [if_neg hv] at h2; cases h2
theorem fRow_of {A : xs_T} {k u : Nat} (h : xQ A 37 k = some u) (hu : u < 184) : fRow A k = some u := by
  unfold fRow
  rw [h]
  show (if u < 184 then some u else none) = some u
  rw [if_pos hu]
theorem fRow_no {A : xs_T} {k u : Nat} (h : xQ A 37 k = some u) (hu : ¬ u < 184) : fRow A k = none := by
  unfold fRow
  rw [h]
  show (if u < 184 then some u else none) = none
  rw [if_neg hu]
theorem fRow_nn {A : xs_T} {k : Nat} (h : xQ A 37 k = none) : fRow A k = none := by
  unfold fRow
  rw [h]
/-- the class's test of a row -/
theorem c_isRow {nx : Nat} {A S : xs_T} {k : Nat} {P : Nat → Prop} {Q0 : Prop} (h : CA nx A S) (hw : WF A) (hk : k < 10) (h1 : ∀ u, fRow A k = some u → oW A u → P u) (h0 : fRow A k = none → Q0) : oT S (xQ S 37 k) ∧ ((∀ u : Nat, xQ S 37 k = some u → oR S u → P u) ∧ (¬ iR S (xQ S 37 k) → Q0)) := by
  rw [h.held hk]
  refine ⟨CA_oT h hw (hw.2.2.2.1 k hk), fun u hu ho => h1 u (fRow_of hu ho.2.1) (CA_oW h ho), fun hn => h0 ?_⟩
  cases hq : xQ A 37 k with
  | none => exact fRow_nn hq
  | some u =>
    refine fRow_no hq (fun hu => hn ⟨u, hq, ?_⟩)
    exact CA_oR h hw (fRow_s hw hk (fRow_of hq hu)).2
theorem m_held {fr : Nat → Nat} {A S : xs_T} (h : MA fr A S) {k : Nat} (hk : k < 10) : hM (xI S 9 k) (xI S 10 k) (xQ A 37 k) := (h.2.2.1 k hk).1
theorem m_mark {fr : Nat → Nat} {A S : xs_T} (h : MA fr A S) {k : Nat} (hk : k < 10) : xI S 11 k = xI A 38 k := (h.2.2.1 k hk).2
theorem hM_row {h w : Int32} {q : Option Nat} (g : hM h w q) : h = 1 ↔ ∃ u, q = some u ∧ u < 184 := by
  cases q with
  | none =>
    refine ⟨fun e => ?_, fun ⟨u, e, _⟩ => by cases e⟩
    rw [g.1] at e; exact absurd e (by decide)
  | some u =>
    rcases g with ⟨g1, g2, g3⟩ | ⟨g0, g1, g2, g3⟩ | ⟨g1, g2, g3⟩
    · exact ⟨fun _ => ⟨u, rfl, g1⟩, fun _ => g2⟩
    · exact ⟨fun e => by rw [g2] at e; exact absurd e (by decide), fun ⟨v, e, hv⟩ => by cases e; omega⟩
    · exact ⟨fun e => by rw [g2] at e; exact absurd e (by decide), fun ⟨v, e, hv⟩ => by cases e; omega⟩
theorem hM_none {h w : Int32} {q : Option Nat} (g : hM h w q) : h = 0 ↔ q = none := by
  cases q with
  | none => exact ⟨fun _ => rfl, fun _ => g.1⟩
  | some u =>
    rcases g with ⟨g1, g2, g3⟩ | ⟨g0, g1, g2, g3⟩ | ⟨g1, g2, g3⟩
    all_goals exact ⟨fun e => by rw [g2] at e; exact absurd e (by decide), fun e => by cases e⟩
theorem hM_rw {h w : Int32} {u : Nat} (g : hM h w (some u)) (hu : u < 184) : h = 1 ∧ w = nI (u - 64) := by
  rcases g with ⟨g1, g2, g3⟩ | ⟨g0, g1, g2, g3⟩ | ⟨g1, g2, g3⟩
  · exact ⟨g2, g3⟩
  · omega
  · omega
theorem hM_fg {h w : Int32} {u : Nat} (g : hM h w (some u)) (hu : 304 ≤ u) (hu2 : u < 704) : h = 3 ∧ w = nI (u - 303) := by
  rcases g with ⟨g1, g2, g3⟩ | ⟨g0, g1, g2, g3⟩ | ⟨g1, g2, g3⟩
  · omega
  · exact ⟨g2, g3⟩
  · omega
theorem hM_ck {h w : Int32} {u : Nat} (g : hM h w (some u)) (hu : 704 ≤ u) : h = 2 ∧ w = nI (u - 703) := by
  rcases g with ⟨g1, g2, g3⟩ | ⟨g0, g1, g2, g3⟩ | ⟨g1, g2, g3⟩
  · omega
  · omega
  · exact ⟨g2, g3⟩
theorem m_rowOn {fr : Nat → Nat} {A S : xs_T} {k : Nat} {K : Int32 → xs_T → Prop} (h : MA fr A S) (hw : WF A) (hk : k < 10) (h1 : ∀ u, fRow A k = some u → oW A u → K (nI (u - 64)) S) (h0 : fRow A k = none → K (-1) S) : v_X10_rowOn (nI k) S K := by
  unfold v_X10_rowOn
  have g := m_held h hk
  refine ⟨k, rfl, hk, fun q => h0 ?_, fun q => ⟨k, rfl, hk, ?_⟩⟩
  · cases hq : xQ A 37 k with
    | none => exact fRow_nn hq
    | some u => exact fRow_no hq (fun hu => q ((hM_row g).mpr ⟨u, hq, hu⟩))
  · obtain ⟨u, hu, hl⟩ := (hM_row g).mp q
    rw [hu] at g
    rw [(hM_rw g hl).2]
    exact h1 u (fRow_of hu hl) (fRow_s hw hk (fRow_of hu hl)).2
def fCell (x1 x2 : Int32) (A : xs_T) : Int64 := if 0 ≤ x1.toInt ∧ x1.toInt ≤ 9 then (match fRow A x1.toInt.toNat with
  | some u => if 0 ≤ x2.toInt ∧ x2.toInt < xN A (u + 120) then xL A (u + 120) x2.toInt.toNat else 0
  | none => 0) else 0
theorem c_hasPlace {nx : Nat} {A S : xs_T} {u : Nat} {x : Int32} {K : Int32 → xs_T → Prop} (h : CA nx A S) (hw : WF A) (hu : oW A u) (h1 : ∀ i : Nat, x = nI i → i < xN A (u + 120) → K 1 S) (h0 : ¬ (0 ≤ x.toInt ∧ x.toInt < xN A (u + 120)) → K 0 S) : v_X5_hasPlace u x S K := by
  unfold v_X5_hasPlace
  have hl := (h.2.2.2.2.1 u hu).2.1
  have hb := (hw.2.1 u hu).2
  rw [hl]
  have ht : (nI (xN A (u + 120))).toInt = xN A (u + 120) := nI_toInt (by omega)
  simp only [Int32.lt_iff_toInt_lt, Int32.le_iff_toInt_le, ti_0, ht]
  refine ⟨fun q => h0 (by omega), fun q => ⟨CA_oR h hw hu, fun z => h0 (by omega), fun z => ?_⟩⟩
  obtain ⟨i, hi, rfl⟩ := i_nat (x := x) (by omega)
  rw [nI_toInt hi] at z
  exact h1 i rfl (by omega)
theorem c_cell {nx : Nat} {A S : xs_T} {x1 x2 : Int32} {K : Int64 → xs_T → Prop} (h : CA nx A S) (hw : WF A) (hK : K (fCell x1 x2 A) S) : v_X9_cell x1 x2 S K := by
  unfold v_X9_cell
  unfold fCell at hK
  refine s_spin2 (fun hs => ?_) (fun hs => by rw [if_neg hs] at hK; exact hK)
  rw [if_pos hs] at hK
  obtain ⟨k, hk, rfl⟩ := i_sp hs
  rw [nI_toInt (by omega)] at hK
  have ek : (k : Int).toNat = k := Int.toNat_natCast k
  rw [ek] at hK
  refine ⟨k, rfl, hk, c_isRow h hw hk (fun u hr ho => ?_) (fun hr => by rw [hr] at hK; exact hK)⟩
  rw [hr] at hK
  refine c_hasPlace h hw ho (fun i e hi => ⟨fun q => absurd q (by decide), fun _ => ⟨i, e, ?_, ?_⟩⟩) (fun q => ⟨fun _ => ?_, fun z => absurd rfl z⟩)
  · rw [(h.2.2.2.2.1 u ho).2.1]; exact hi
  · subst e
    have hb := (hw.2.1 u ho).2
    rw [nI_toInt (by omega), Int.toNat_natCast] at hK
    have hK : K (if 0 ≤ (i : Int) ∧ (i : Int) < xN A (u + 120) then xL A (u + 120) i else 0) S := hK
    rw [if_pos (by omega)] at hK
    rw [(h.2.2.2.2.1 u ho).2.2 i hi]
    exact hK
  · have hK : K (if 0 ≤ x2.toInt ∧ x2.toInt < xN A (u + 120) then xL A (u + 120) x2.toInt.toNat else 0) S := hK
    rw [if_neg q] at hK
    exact hK
theorem m_row {fr : Nat → Nat} {A S : xs_T} (h : MA fr A S) {u : Nat} (hu : oW A u) : xI S 1 (u - 64) = nI (xN A u) ∧ xI S 2 (u - 64) = nI (xN A (u + 120)) ∧ xI S 3 (u - 64) = nI (fr u) ∧ fr u + xN A (u + 120) ≤ nA A 3 ∧ ∀ i, i < xN A (u + 120) → xL S 5 (fr u + i) = xL A (u + 120) i := h.2.2.2.2.1.1 u hu
theorem m_cell {fr : Nat → Nat} {A S : xs_T} {x1 x2 : Int32} {K : Int64 → xs_T → Prop} (h : MA fr A S) (hw : WF A) (hK : K (fCell x1 x2 A) S) : v_X10_cell x1 x2 S K := by
  unfold v_X10_cell
  unfold fCell at hK
  have m1 : (-1 : Int32) < 0 := by decide
  refine s_in2 (fun hs => ?_) (fun hs => ?_)
  · rw [ti_0, ti_9] at hs
    rw [if_pos hs] at hK
    obtain ⟨k, hk, rfl⟩ := i_sp hs
    rw [nI_toInt (by omega), Int.toNat_natCast] at hK
    refine m_rowOn h hw hk (fun u hr ho => ?_) (fun hr => ?_)
    · rw [hr] at hK
      have hb := hw.2.1 u ho
      have hn := hw.1.1
      have hc := hw.1.2.2.1
      obtain ⟨r1, r2, r3, r4, r5⟩ := m_row h ho
      have h64 := ho.1
      have hlt := ho.2
      unfold v_X10_cell_19
      refine ⟨fun q => absurd q (nI_pos (by omega)), fun _ => ⟨u - 64, rfl, by omega, ?_⟩⟩
      rw [r2]
      have hK : K (if 0 ≤ x2.toInt ∧ x2.toInt < xN A (u + 120) then xL A (u + 120) x2.toInt.toNat else 0) S := hK
      have e1 : (nI (xN A (u + 120)) - 1).toInt = xN A (u + 120) - 1 := by
        have := pk_sub_toInt (a := xN A (u + 120)) (b := 1) (by omega) (by decide)
        exact this
      refine s_in2 (fun q => ?_) (fun q => ?_)
      · rw [ti_0, e1] at q
        rw [if_pos (by omega)] at hK
        obtain ⟨i, hi, rfl⟩ := i_nat (x := x2) (by omega)
        rw [nI_toInt hi] at q
        rw [nI_toInt hi, Int.toNat_natCast] at hK
        refine ⟨u - 64, rfl, by omega, fr u + i, by rw [r3, nI_add], by omega, ?_⟩
        rw [r5 i (by omega)]
        exact hK
      · rw [ti_0, e1] at q
        rw [if_neg (by omega)] at hK
        exact hK
    · rw [hr] at hK
      exact ⟨fun _ => hK, fun q => absurd m1 q⟩
  · rw [ti_0, ti_9] at hs
    rw [if_neg hs] at hK
    exact ⟨fun _ => hK, fun q => absurd m1 q⟩
