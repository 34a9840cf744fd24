/-! begin -/
def fRisk (x1 x2 x3 : Int32) (A : xs_T) : Option Nat := if x1.toInt = 1 then fRow A x3.toInt.toNat else if x1.toInt = 2 ∨ x1.toInt = 3 ∨ x1.toInt = 4 ∨ x1.toInt = 10 ∨ x1.toInt = 11 then fRow A x2.toInt.toNat else none
def fBook (q : Option Nat) (A1 A2 : xs_T) : xs_T := match q with
  | none => A2
  | some u => if dif (xN A1 (u + 120)) (xL A1 (u + 120)) (xL A2 (u + 120)) = true then fWrite A2 u (xL A1 (u + 120)) else A2
def fRef (r : Int32) (A : xs_T) : xs_T := if r = 0 then A else sF A 0 24 (xF A 0 24 + 1)
def fBg (A : xs_T) : xs_T := sA A 7 (nA A 7 + 1)
def fBeg (x1 x2 x3 x4 : Int32) (A : xs_T) : Int32 × xs_T := ((fDo x1 x2 x3 x4 (fBg A)).1, fRef (fDo x1 x2 x3 x4 (fBg A)).1 (fBook (fRisk x1 x2 x3 (fBg A)) (fBg A) (fDo x1 x2 x3 x4 (fBg A)).2))
theorem WF.bg {A : xs_T} (h : WF A) (h7 : nA A 7 < 4000) : WF (fBg A) ∧ nA (fBg A) 2 < nA (fBg A) 7 := by
  obtain ⟨g1, g⟩ := h
  refine ⟨⟨⟨g1.1, g1.2.1, g1.2.2.1, g1.2.2.2.1, g1.2.2.2.2.1, h7, ?_⟩, g⟩, ?_⟩
  · show nA A 2 ≤ nA A 7 + 1
    have := g1.2.2.2.2.2.2
    omega
  · show nA A 2 < nA A 7 + 1
    have := g1.2.2.2.2.2.2
    omega
theorem CA.bg {nx : Nat} {A S : xs_T} (h : CA nx A S) : CA nx (fBg A) (sF S 32 4 (xF S 32 4 + 1)) := by
  obtain ⟨c1, c2, c3, c4, c5, c6, c7⟩ := h
  obtain ⟨d1, d2⟩ := c1
  refine ⟨⟨?_, d2⟩, c2, c3, c4.F (by decide), c5.F (by decide), c6, c7⟩
  show xF S 32 4 + 1 = nI (nA A 7 + 1)
  rw [d1, nI_1]
theorem MA.bg {fr : Nat → Nat} {A S : xs_T} (h : MA fr A S) : MA fr (fBg A) (sF S 0 23 (xF S 0 23 + 1)) := by
  obtain ⟨c1, c2, c3, c4, c5, c6⟩ := h
  obtain ⟨d1, d2, d3, d4, d5, d6, d7, d8⟩ := c1
  refine ⟨⟨d1, d2, d3, d4, d5, d6, ?_, d8⟩, c2, c3, c4, c5, c6⟩
  show xF S 0 23 + 1 = nI (nA A 7 + 1)
  rw [d7, nI_1]
theorem CA.t36 {nx : Nat} {A S : xs_T} {f : Nat → Int64} (h : CA nx A S) : CA nx A (tL S 36 f) := by
  obtain ⟨c1, c2, c3, c4, c5, c6, c7⟩ := h
  exact ⟨c1, c2, c3, c4, c5.T (by decide), c6, c7⟩
theorem CA.ref {nx : Nat} {A S : xs_T} {r : Int32} {K : Int32 → xs_T → Prop} (h : CA nx A S) (hK : ∀ S', CA nx (fRef r A) S' → mf0 S S' → K r S') : v_X9_begin_77 K r S := by
  unfold v_X9_begin_77
  unfold fRef at hK
  refine ⟨fun q => by rw [if_pos q] at hK; exact hK S h mfr.refl.z, fun q => ?_⟩
  rintro _ rfl
  rw [if_neg q] at hK
  refine hK _ ?_ (mfr.F (by decide)).z
  obtain ⟨c1, c2, c3, c4, c5, c6, c7⟩ := h
  obtain ⟨d1, d2, d3⟩ := c1
  refine ⟨⟨d1, ?_, d3⟩, c2, c3, c4.F (by decide), c5.F (by decide), c6, c7⟩
  show xF S 32 5 + 1 = xF A 0 24 + 1
  rw [d2]
theorem WF.ref {A : xs_T} {r : Int32} (h : WF A) : WF (fRef r A) := by
  unfold fRef
  split
  · exact h
  · exact h
theorem MA.ref {fr : Nat → Nat} {A S : xs_T} {r : Int32} {K : Int32 → xs_T → Prop} (h : MA fr A S) (hr : rOK r) (hK : ∀ S', MA fr (fRef r A) S' → cf0 S S' → K r S') : v_X10_begin_198 K r S := by
  unfold v_X10_begin_198
  unfold fRef at hK
  have e : r ≤ 0 ↔ r = 0 := by
    rw [Int32.le_iff_toInt_le, ← Int32.toInt_inj, ti_0]
    have := hr.1
    omega
  have key : ∀ v, MA fr (sF A 0 24 v) (sF S 0 24 v) := fun v => by
    obtain ⟨c1, c2, c3, c4, c5, c6⟩ := h
    obtain ⟨d1, d2, d3, d4, d5, d6, d7, d8, d9⟩ := c1
    exact ⟨⟨d1, d2, d3, d4, d5, d6, d7, rfl, d9⟩, c2, c3, c4, c5, c6⟩
  have d8 : xF S 0 24 = xF A 0 24 := h.1.2.2.2.2.2.2.2.1
  refine ⟨fun q => ?_, fun q => ?_⟩
  · rintro _ rfl
    rw [if_pos (e.mp q)] at hK
    refine hK _ ?_ (cfr.F (by decide)).z
    obtain ⟨c1, c2, c3, c4, c5, c6⟩ := h
    exact ⟨c1, c2, c3, c4, c5, c6⟩
  · rintro _ rfl
    rw [if_neg (fun z => q (e.mpr z))] at hK
    rw [d8]
    exact hK _ (key _) (cfr.F (by decide)).z
theorem c_risk {nx : Nat} {A S : xs_T} {x1 x2 x3 x4 : Int32} {R : Option Nat → xs_T → Prop} (h : CA nx A S) (hw : WF A) (ho : ordOK x1 x2 x3 x4) (hR : ∀ q, (∀ u, q = some u → oW A u) → (q = fRisk x1 x2 x3 A ∨ (fRisk x1 x2 x3 A = none ∧ ¬ (x1.toInt = 1 ∨ x1.toInt = 2 ∨ x1.toInt = 3 ∨ x1.toInt = 4 ∨ x1.toInt = 10 ∨ x1.toInt = 11))) → R q S) : v_X9_rowAtRisk x1 x2 x3 S R := by
  unfold v_X9_rowAtRisk v_X9_rowAtRisk_10
  have e : ∀ k : Nat, k < 20 → (x1 = nI k ↔ x1.toInt = k) := fun k hk => by rw [← Int32.toInt_inj, nI_toInt (by omega)]
  have e1 : x1 = 1 ↔ x1.toInt = 1 := e 1 (by decide)
  have e2 : x1 = 2 ↔ x1.toInt = 2 := e 2 (by decide)
  have e3 : x1 = 3 ↔ x1.toInt = 3 := e 3 (by decide)
  have e4 : x1 = 4 ↔ x1.toInt = 4 := e 4 (by decide)
  have e10 : x1 = 10 ↔ x1.toInt = 10 := e 10 (by decide)
  have e11 : x1 = 11 ↔ x1.toInt = 11 := e 11 (by decide)
  have i12 : 12 < x1 ↔ 12 < x1.toInt := by rw [Int32.lt_iff_toInt_lt, ti_12]
  unfold fRisk at hR
  unfold ordOK at ho
  rw [e1, i12]
  refine ⟨fun q => ⟨fun q2 => ?_, fun q2 => ?_⟩, fun q => ⟨fun q2 => absurd q2 (by omega), fun q2 => ?_⟩⟩
  · rw [if_neg q, if_neg (by omega)] at hR
    exact hR none (fun u hu => by cases hu) (Or.inl rfl)
  · obtain ⟨a, ha, rfl⟩ := i_sp (x := x2) (by omega)
    rw [sp_t (by omega)] at hR
    refine s_spin2 (fun _ => ⟨a, rfl, ha, c_isRow h hw ha (fun u hr ou => hR _ (fun v hv => ?_) ?_) (fun hr => hR _ (fun v hv => by cases hv) ?_)⟩) (fun z => absurd (show 0 ≤ (nI a).toInt ∧ (nI a).toInt ≤ 9 from (by rw [nI_toInt (by omega)]; omega)) z)
    · cases hv; exact ou
    · rw [if_neg q]
      by_cases z : x1.toInt = 2 ∨ x1.toInt = 3 ∨ x1.toInt = 4 ∨ x1.toInt = 10 ∨ x1.toInt = 11
      · rw [if_pos z]; exact Or.inl hr.symm
      · rw [if_neg z]; exact Or.inr ⟨rfl, by omega⟩
    · rw [if_neg q]
      by_cases z : x1.toInt = 2 ∨ x1.toInt = 3 ∨ x1.toInt = 4 ∨ x1.toInt = 10 ∨ x1.toInt = 11
      · rw [if_pos z]; exact Or.inl hr.symm
      · rw [if_neg z]; exact Or.inl rfl
  · obtain ⟨b, hb, rfl⟩ := i_sp (x := x3) (by omega)
    rw [if_pos q, sp_t (by omega)] at hR
    refine s_spin2 (fun _ => ⟨b, rfl, hb, c_isRow h hw hb (fun u hr ou => hR _ (fun v hv => ?_) (Or.inl hr.symm)) (fun hr => hR _ (fun v hv => by cases hv) (Or.inl hr.symm))⟩) (fun z => absurd (show 0 ≤ (nI b).toInt ∧ (nI b).toInt ≤ 9 from (by rw [nI_toInt (by omega)]; omega)) z)
    cases hv; exact ou
theorem c_begin {nx : Nat} {A S : xs_T} {x1 x2 x3 x4 : Int32} {K : Int32 → xs_T → Prop} (h : CA nx A S) (hw : WF A) (ho : ordOK x1 x2 x3 x4) (h7 : nA A 7 < 4000) (hK : ∀ nx' S', CA nx' (fBeg x1 x2 x3 x4 A).2 S' → mf0 S S' → K (fBeg x1 x2 x3 x4 A).1 S') : v_X9_begin x1 x2 x3 x4 S K := by
  unfold v_X9_begin
  rintro _ rfl
  have hC := h.bg
  obtain ⟨hW, hc⟩ := hw.bg h7
  have m1 : mf0 S (sF S 32 4 (xF S 32 4 + 1)) := (mfr.F (by decide)).z
  have hW2 := WF.does hW ho hc
  have hg : gd (fBg A) (fDo x1 x2 x3 x4 (fBg A)) := gd_doN hW.1.1 _ _ _ _
  have hkp : ¬ (x1.toInt = 1 ∨ x1.toInt = 2 ∨ x1.toInt = 3 ∨ x1.toInt = 4 ∨ x1.toInt = 10 ∨ x1.toInt = 11) → kp_ (fBg A) (fDo x1 x2 x3 x4 (fBg A)).2 := fun z => kp_doN (by unfold ordOK at ho; omega)
  unfold fBeg at hK
  generalize sF S 32 4 (xF S 32 4 + 1) = S1 at hC m1
  generalize fBg A = A1 at *
  refine c_risk hC hW ho (fun q hq hq2 => ⟨fun z => ?_, fun u z => ⟨?_, ?_⟩⟩)
  · subst z
    unfold v_X9_begin_33
    have er : fRisk x1 x2 x3 A1 = none := by
      rcases hq2 with y | y
      · exact y.symm
      · exact y.1
    rw [er] at hK
    refine ⟨Or.inl rfl, c_perform hC hW ho (fun S2 hC2 hm2 => ⟨fun _ => hC2.ref (fun S' hC3 hm3 => hK nx S' hC3 ((m1.trans hm2.z).trans hm3)), fun u y => (by cases y)⟩)⟩
  · exact CA_oR hC hW (hq u z)
  · have ou := hq u z
    refine c_copyTo hC hW ou (Or.inl rfl) (fun f hf => ?_)
    unfold v_X9_begin_33
    have hC' := hC.t36 (f := f)
    have m2 : mf0 S1 (tL S1 36 f) := fun i hi => ⟨rfl, rfl, va_up_ne _ _ (by omega)⟩
    refine ⟨CA_oT hC' hW (fun v hv => Or.inl (by cases hv; exact ou)), c_perform hC' hW ho (fun S2 hC2 hm2 => ⟨fun y => (by cases y), fun v y => ?_⟩)⟩
    cases y
    obtain ⟨o2, l2, -⟩ := hg.2.2.2.2.2 u ou
    have h36 : ∀ i, i < xN (fDo x1 x2 x3 x4 A1).2 (u + 120) → xL S2 36 i = xL A1 (u + 120) i := fun i hi => by
      rw [l2] at hi
      rw [(hm2 36 (Or.inr rfl)).2.2]
      show f i = _
      exact hf i hi
    refine ⟨CA_oR hC2 hW2 o2, c_dif hC2 hW2 o2 h36 ?_⟩
    have n10 : ¬ (1 : Int32) = 0 := by decide
    have mm : mf0 S S2 := (m1.trans m2).trans hm2.z
    rw [l2]
    by_cases e : dif (xN A1 (u + 120)) (xL A1 (u + 120)) (xL (fDo x1 x2 x3 x4 A1).2 (u + 120)) = true
    · rw [if_pos e]
      refine ⟨fun y => absurd y n10, fun _ => c_write hC2 hW2 o2 h36 (fun S3 hC3 hm3 => hC3.ref (fun S' hC4 hm4 => hK ((nx + 1) % 20) S' ?_ ((mm.trans hm3.z).trans hm4)))⟩
      have er : fRisk x1 x2 x3 A1 = some u := by
        rcases hq2 with y | y
        · rw [← y, z]
        · rw [dif_no (fun i _ => (congrFun (hkp y.2 u ou) i).symm)] at e
          cases e
      rw [er]
      have eb : fBook (some u) A1 (fDo x1 x2 x3 x4 A1).2 = fWrite (fDo x1 x2 x3 x4 A1).2 u (xL A1 (u + 120)) := if_pos e
      rw [eb]
      exact hC4
    · rw [if_neg e]
      refine ⟨fun _ => hC2.ref (fun S' hC4 hm4 => hK nx S' ?_ (mm.trans hm4)), fun y => absurd rfl y⟩
      have eb : fBook (fRisk x1 x2 x3 A1) A1 (fDo x1 x2 x3 x4 A1).2 = (fDo x1 x2 x3 x4 A1).2 := by
        rcases hq2 with y | y
        · rw [← y, z]; exact if_neg e
        · rw [y.1]; rfl
      rw [eb]
      exact hC4
theorem WF.beg {A : xs_T} {x1 x2 x3 x4 : Int32} (hw : WF A) (ho : ordOK x1 x2 x3 x4) (h7 : nA A 7 < 4000) : WF (fBeg x1 x2 x3 x4 A).2 := by
  obtain ⟨hW, hc⟩ := hw.bg h7
  have hW2 := WF.does hW ho hc
  have hg : gd (fBg A) (fDo x1 x2 x3 x4 (fBg A)) := gd_doN hW.1.1 _ _ _ _
  refine WF.ref ?_
  have hr : ∀ u, fRisk x1 x2 x3 (fBg A) = some u → oW (fBg A) u := fun u hu => by
    unfold fRisk at hu
    unfold ordOK at ho
    have e : ∀ k : Nat, k < 20 → (x1 = nI k ↔ x1.toInt = k) := fun k hk => by rw [← Int32.toInt_inj, nI_toInt (by omega)]
    have e1 : x1 = 1 ↔ x1.toInt = 1 := e 1 (by decide)
    have e2 : x1 = 2 ↔ x1.toInt = 2 := e 2 (by decide)
    have e3 : x1 = 3 ↔ x1.toInt = 3 := e 3 (by decide)
    have e4 : x1 = 4 ↔ x1.toInt = 4 := e 4 (by decide)
    have e10 : x1 = 10 ↔ x1.toInt = 10 := e 10 (by decide)
    have e11 : x1 = 11 ↔ x1.toInt = 11 := e 11 (by decide)
    by_cases z : x1.toInt = 1
    · rw [if_pos z] at hu
      exact (fRow_s hW (by omega) hu).2
    · rw [if_neg z] at hu
      by_cases y : x1.toInt = 2 ∨ x1.toInt = 3 ∨ x1.toInt = 4 ∨ x1.toInt = 10 ∨ x1.toInt = 11
      · rw [if_pos y] at hu
        exact (fRow_s hW (by omega) hu).2
      · rw [if_neg y] at hu; cases hu
  cases hq : fRisk x1 x2 x3 (fBg A) with
  | none => exact hW2
  | some u =>
    have ou := hr u hq
    obtain ⟨o2, l2, k2⟩ := hg.2.2.2.2.2 u ou
    show WF (if _ then _ else _)
    split
    · refine WF.write hW2 o2 (fun hk i hi => ?_)
      rw [k2] at hk
      rw [l2] at hi
      obtain ⟨f, f1, f2⟩ := hW.2.2.2.2.1 u ou hk i hi
      exact ⟨f, Nat.le_trans f1 hg.2.1.2, f2⟩
    · exact hW2
