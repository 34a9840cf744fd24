theorem sL_tT (S : xs_T) (i : Nat) (f : Nat → Int64) (j : Nat) (x : Int64) : sL (tL S i f) i j x = tL S i (va_up f j x) := by
  unfold sL tL
  show (S.1, S.2.1, va_up (va_up S.2.2.1 i f) i (va_up (va_up S.2.2.1 i f i) j x), S.2.2.2) = _
  rw [bx_uu, va_up_self]
theorem tL_idT (S : xs_T) (j : Nat) : tL S j (xL S j) = S := by
  unfold tL
  have : va_up S.2.2.1 j (xL S j) = S.2.2.1 := by
    funext i
    by_cases e : i = j
    · subst e; rw [va_up_self]; rfl
    · rw [va_up_ne _ _ e]
  rw [this]
theorem MA.t21 {fr : Nat → Nat} {A S : xs_T} {f : Nat → Int64} (h : MA fr A S) : MA fr A (tL S 21 f) := h
theorem m_b64 {fr : Nat → Nat} {A S : xs_T} {u : Nat} {x1 x2 x3 x4 : Int32} {K : Int32 → xs_T → Prop} (h : MA fr A S) (hw : WF A) (hu : oW A u)
    (hK : ∀ f, (∀ j, j < xN A (u + 120) → f j = xL A (u + 120) j) → v_X10_begin_109 K x1 x2 x3 x4 (nI (u - 64)) (tL S 21 f)) :
    ∀ (m i : Nat) (f : Nat → Int64), i + m = xN A (u + 120) → (∀ j, j < i → f j = xL A (u + 120) j) → v_X10_begin_64 K (m + 1) x1 x2 x3 x4 (nI (u - 64)) (nI i) (tL S 21 f) := by
  have hb := (hw.2.1 u hu).2
  have h0 := hw.1.1
  have hc := hw.1.2.2.1
  have hlt := hu.2
  obtain ⟨r1, r2, r3, r4, r5⟩ := m_row h hu
  have e2 : ∀ f, xI (tL S 21 f) 2 (u - 64) = nI (xN A (u + 120)) := fun f => r2
  have e3 : ∀ f, xI (tL S 21 f) 3 (u - 64) = nI (fr u) := fun f => r3
  intro m
  induction m with
  | zero =>
    intro i f hi hf
    rw [v_X10_begin_64]
    refine ⟨fun q => absurd q (nI_pos (by omega)), fun _ => ⟨u - 64, rfl, by omega, ?_⟩⟩
    rw [e2]
    exact ⟨fun _ => hK f (fun j hj => hf j (by omega)), fun q => absurd (nI_le (by omega) (by omega)) q⟩
  | succ m ih =>
    intro i f hi hf
    rw [v_X10_begin_64]
    refine ⟨fun q => absurd q (nI_pos (by omega)), fun _ => ⟨u - 64, rfl, by omega, ?_⟩⟩
    rw [e2]
    refine ⟨fun q => absurd q (nI_ge (by omega) (by omega)), fun _ => ⟨u - 64, rfl, by omega, fr u + i, by rw [e3, nI_add], by omega, i, rfl, by omega, ?_⟩⟩
    rintro _ rfl
    rw [nI_1, sL_tT]
    refine ih (i + 1) _ (by omega) (fun j hj => ?_)
    by_cases e : j = i
    · subst e
      rw [va_up_self]
      exact r5 j (by omega)
    · rw [va_up_ne _ _ e]
      exact hf j (by omega)
theorem m_b126 {fr : Nat → Nat} {A S : xs_T} {u : Nat} {g : Nat → Int64} {r : Int32} {K : Int32 → xs_T → Prop} (h : MA fr A S) (hw : WF A) (hu : oW A u) (hg : ∀ i, i < xN A (u + 120) → xL S 21 i = g i)
    (hK : v_X10_begin_187 K (nI (u - 64)) r (if dif (xN A (u + 120)) g (xL A (u + 120)) = true then 1 else 0) S) :
    ∀ (m i : Nat), i + m = xN A (u + 120) → v_X10_begin_126 K (m + 1) (nI (u - 64)) r (if dif i g (xL A (u + 120)) = true then 1 else 0) (nI i) S := by
  have hb := (hw.2.1 u hu).2
  have h0 := hw.1.1
  have hc := hw.1.2.2.1
  have hlt := hu.2
  obtain ⟨r1, r2, r3, r4, r5⟩ := m_row h hu
  have n10 : ¬ (1 : Int32) = 0 := by decide
  intro m
  induction m with
  | zero =>
    intro i hi
    rw [v_X10_begin_126]
    have e : i = xN A (u + 120) := by omega
    subst e
    refine ⟨fun q => absurd q (nI_pos (by omega)), fun _ => ⟨u - 64, rfl, by omega, ?_⟩⟩
    rw [r2]
    exact ⟨fun _ => hK, fun q => absurd (nI_le (Nat.le_refl _) (by omega)) q⟩
  | succ m ih =>
    intro i hi
    rw [v_X10_begin_126]
    refine ⟨fun q => absurd q (nI_pos (by omega)), fun _ => ⟨u - 64, rfl, by omega, ?_⟩⟩
    rw [r2]
    have key := ih (i + 1) (by omega)
    refine ⟨fun q => absurd q (nI_ge (by omega) (by omega)), fun _ => ⟨fun q => ?_, fun q => ⟨i, rfl, by omega, u - 64, rfl, by omega, fr u + i, by rw [r3, nI_add], by omega, ?_⟩⟩⟩
    · rw [nI_1]
      have ed : dif i g (xL A (u + 120)) = true := by
        by_cases z : dif i g (xL A (u + 120)) = true
        · exact z
        · rw [if_neg z] at q; exact absurd rfl q
      have e2 : dif (i + 1) g (xL A (u + 120)) = true := by unfold dif; rw [ed]; rfl
      rw [if_pos e2] at key
      exact key
    · rw [nI_1, hg i (by omega), r5 i (by omega)]
      have ed : dif i g (xL A (u + 120)) = false := by
        by_cases z : dif i g (xL A (u + 120)) = true
        · rw [if_pos z] at q; exact absurd q n10
        · exact Bool.eq_false_iff.mpr z
      refine ⟨fun z => ?_, fun z => ?_⟩
      · have e2 : dif (i + 1) g (xL A (u + 120)) = false := by unfold dif; rw [ed, z]; simp
        rw [e2, if_neg (by decide)] at key
        exact key
      · rw [dif_yes (i := i) (by omega) z, if_pos rfl] at key
        exact key
theorem m_begin {fr : Nat → Nat} {A S : xs_T} {x1 x2 x3 x4 : Int32} {K : Int32 → xs_T → Prop} (h : MA fr A S) (hw : WF A) (ho : ordOK x1 x2 x3 x4) (h12 : x1.toInt ≤ 12) (h7 : nA A 7 < 4000) (hK : ∀ fr' S', MA fr' (fBeg x1 x2 x3 x4 A).2 S' → cf0 S S' → K (fBeg x1 x2 x3 x4 A).1 S') : v_X10_begin x1 x2 x3 x4 S K := by
  unfold v_X10_begin
  rintro _ rfl
  have hM := h.bg
  obtain ⟨hW, hc⟩ := hw.bg h7
  have m1 : cf0 S (sF S 0 23 (xF S 0 23 + 1)) := (cfr.F (by decide)).z
  have hW2 := WF.does hW ho hc
  have hg : gd (fBg A) (fDo x1 x2 x3 x4 (fBg A)) := gd_doN hW.1.1 _ _ _ _
  unfold fBeg at hK
  generalize sF S 0 23 (xF S 0 23 + 1) = S1 at hM m1
  generalize fBg A = A1 at *
  have n10 : ¬ (1 : Int32) = 0 := by decide
  have hN : fRisk x1 x2 x3 A1 = none → ∃ n, v_X10_begin_64 K n x1 x2 x3 x4 (-1) 0 S1 := fun z => by
    refine ⟨1, ?_⟩
    rw [v_X10_begin_64]
    refine ⟨fun _ => ?_, fun q => absurd (by decide) q⟩
    unfold v_X10_begin_109
    refine m_does hM hW ho h12 (fun fr2 S2 hM2 hc2 => ⟨1, ?_⟩)
    rw [v_X10_begin_126]
    refine ⟨fun _ => ?_, fun q => absurd (by decide) q⟩
    unfold v_X10_begin_187
    refine ⟨fun _ => hM2.ref hg.1 (fun S' hM3 hc3 => hK fr2 S' ?_ ((m1.trans hc2.z).trans hc3)), fun q => absurd rfl q⟩
    rw [z]
    exact hM3
  have hS : ∀ u, fRisk x1 x2 x3 A1 = some u → oW A1 u → ∃ n, v_X10_begin_64 K n x1 x2 x3 x4 (nI (u - 64)) 0 S1 := fun u z ou => by
    have key := m_b64 (x1 := x1) (x2 := x2) (x3 := x3) (x4 := x4) (K := K) hM hW ou (fun f hf => ?_) (xN A1 (u + 120)) 0 (xL S1 21) (by omega) (fun j hj => absurd hj (Nat.not_lt_zero j))
    · rw [tL_idT] at key
      exact ⟨_, key⟩
    · unfold v_X10_begin_109
      have m2 : cf0 S1 (tL S1 21 f) := ⟨rfl, rfl, fun i hi => ⟨rfl, rfl, va_up_ne _ _ (by omega)⟩⟩
      refine m_does (hM.t21 (f := f)) hW ho h12 (fun fr2 S2 hM2 hc2 => ?_)
      obtain ⟨o2, l2, -⟩ := hg.2.2.2.2.2 u ou
      have h21 : ∀ i, i < xN (fDo x1 x2 x3 x4 A1).2 (u + 120) → xL S2 21 i = xL A1 (u + 120) i := fun i hi => by
        rw [l2] at hi
        rw [(hc2.2.2 21 (Or.inr rfl)).2.2]
        exact hf i hi
      have mm : cf0 S S2 := (m1.trans m2).trans hc2.z
      refine ⟨_, m_b126 (r := (fDo x1 x2 x3 x4 A1).1) (K := K) hM2 hW2 o2 h21 ?_ (xN (fDo x1 x2 x3 x4 A1).2 (u + 120)) 0 (by omega)⟩
      rw [l2]
      rw [z] at hK
      unfold v_X10_begin_187
      by_cases e : dif (xN A1 (u + 120)) (xL A1 (u + 120)) (xL (fDo x1 x2 x3 x4 A1).2 (u + 120)) = true
      · rw [if_pos e]
        have eb : fBook (some u) A1 (fDo x1 x2 x3 x4 A1).2 = fWrite (fDo x1 x2 x3 x4 A1).2 u (xL A1 (u + 120)) := if_pos e
        rw [eb] at hK
        exact ⟨fun y => absurd y n10, fun _ => m_write hM2 hW2 o2 h21 (fun S3 hM3 hc3 => hM3.ref hg.1 (fun S' hM4 hc4 => hK fr2 S' hM4 ((mm.trans hc3).trans hc4)))⟩
      · rw [if_neg e]
        have eb : fBook (some u) A1 (fDo x1 x2 x3 x4 A1).2 = (fDo x1 x2 x3 x4 A1).2 := if_neg e
        rw [eb] at hK
        exact ⟨fun _ => hM2.ref hg.1 (fun S' hM4 hc4 => hK fr2 S' hM4 (mm.trans hc4)), fun y => absurd rfl y⟩
  have e : ∀ k : Nat, k < 20 → (x1 = nI k ↔ x1.toInt = k) := fun k hk => by rw [← Int32.toInt_inj, nI_toInt (by omega)]
  have e1 : x1 = 1 ↔ x1.toInt = 1 := e 1 (by decide)
  have e2 : x1 = 2 ↔ x1.toInt = 2 := e 2 (by decide)
  have e3 : x1 = 3 ↔ x1.toInt = 3 := e 3 (by decide)
  have e4 : x1 = 4 ↔ x1.toInt = 4 := e 4 (by decide)
  have e10 : x1 = 10 ↔ x1.toInt = 10 := e 10 (by decide)
  have e11 : x1 = 11 ↔ x1.toInt = 11 := e 11 (by decide)
  have onA : (x1.toInt = 2 ∨ x1.toInt = 3 ∨ x1.toInt = 4 ∨ x1.toInt = 10 ∨ x1.toInt = 11) → v_X10_rowOn x2 S1 (fun r S => ∃ n, v_X10_begin_64 K n x1 x2 x3 x4 r 0 S) := fun z => by
    have hs : 0 ≤ x2.toInt ∧ x2.toInt ≤ 9 := by unfold ordOK at ho; omega
    have er : fRisk x1 x2 x3 A1 = fRow A1 x2.toInt.toNat := by unfold fRisk; rw [if_neg (by omega), if_pos z]
    rw [er] at hN hS
    obtain ⟨a, ha, rfl⟩ := i_sp hs
    rw [sp_t (by omega)] at hN hS
    exact m_rowOn hM hW ha (fun u hr ou => hS u hr ou) hN
  simp only [e1, e2, e3, e4, e10, e11]
  refine ⟨fun q1 => ⟨fun q2 => onA (by omega), fun q2 => ⟨fun q3 => onA (by omega), fun q3 => ⟨fun q4 => onA (by omega), fun q4 => ⟨fun q10 => onA (by omega), fun q10 => ⟨fun q11 => hN ?_, fun q11 => onA (by omega)⟩⟩⟩⟩⟩, fun q1 => ?_⟩
  · unfold fRisk
    rw [if_neg q1, if_neg (by omega)]
  · have hs : 0 ≤ x3.toInt ∧ x3.toInt ≤ 9 := by unfold ordOK at ho; omega
    have er : fRisk x1 x2 x3 A1 = fRow A1 x3.toInt.toNat := by unfold fRisk; rw [if_pos q1]
    rw [er] at hN hS
    obtain ⟨b, hb, rfl⟩ := i_sp hs
    rw [sp_t (by omega)] at hN hS
    exact m_rowOn hM hW hb (fun u hr ou => hS u hr ou) hN
theorem c_act {nx : Nat} {A S : xs_T} {x1 x2 x3 x4 : Int32} {K : Int32 → xs_T → Prop} (h : CA nx A S) (hw : WF A)
    (h1 : x1.toInt ≤ 12 → ordOK x1 x2 x3 x4 → nA A 7 < 4000 → ∀ nx' S', CA nx' (fBeg x1 x2 x3 x4 A).2 S' → mf0 S S' → K (fBeg x1 x2 x3 x4 A).1 S') (h6 : x1.toInt ≤ 12 → ordOK x1 x2 x3 x4 → nA A 7 = 4000 → K 6 S) (h0 : ¬ (x1.toInt ≤ 12 ∧ ordOK x1 x2 x3 x4) → K (-1) S) : v_X9_act x1 x2 x3 x4 S K := by
  unfold v_X9_act
  have i12 : 12 < x1 ↔ 12 < x1.toInt := by rw [Int32.lt_iff_toInt_lt, ti_12]
  have hb := hw.1.2.2.2.2.2.1
  have i4 : xF S 32 4 < 4000 ↔ nA A 7 < 4000 := by rw [h.1.1]; exact nI_ltI (b := 4000) (by omega) (by decide)
  rw [i12]
  refine ⟨fun q => h0 (by omega), fun q => s_told (fun ho => ⟨fun _ => ⟨fun z => c_begin h hw ho (i4.mp z) (h1 (by omega) ho (i4.mp z)), fun z => h6 (by omega) ho (by rw [i4] at z; omega)⟩, fun z => absurd z (by decide)⟩) (fun ho => ⟨fun z => absurd rfl z, fun _ => h0 (fun z => ho z.2)⟩)⟩
theorem m_act {fr : Nat → Nat} {A S : xs_T} {x1 x2 x3 x4 : Int32} {K : Int32 → xs_T → Prop} (h : MA fr A S) (hw : WF A)
    (h1 : x1.toInt ≤ 12 → ordOK x1 x2 x3 x4 → nA A 7 < 4000 → ∀ fr' S', MA fr' (fBeg x1 x2 x3 x4 A).2 S' → cf0 S S' → K (fBeg x1 x2 x3 x4 A).1 S') (h6 : x1.toInt ≤ 12 → ordOK x1 x2 x3 x4 → nA A 7 = 4000 → K 6 S) (h0 : ¬ (x1.toInt ≤ 12 ∧ ordOK x1 x2 x3 x4) → K (-1) S) : v_X10_act x1 x2 x3 x4 S K := by
  unfold v_X10_act
  have hb := hw.1.2.2.2.2.2.1
  have d7 : xF S 0 23 = nI (nA A 7) := h.1.2.2.2.2.2.2.1
  have i4 : xF S 0 23 = 4000 ↔ nA A 7 = 4000 := by rw [d7]; exact nI_eq (b := 4000) (by omega) (by decide)
  refine s_in2 (fun q => s_isOrder (fun ho => ⟨fun _ => ⟨fun z => ?_, fun z => ?_⟩, fun z => absurd z (by decide)⟩) (fun ho => ⟨fun z => absurd rfl z, fun _ => h0 (fun z => ho z.2)⟩)) (fun q => h0 (fun z => ?_))
  · rw [ti_0, ti_12] at q
    rw [i4] at z
    exact m_begin h hw ho q.2 (by omega) (h1 q.2 ho (by omega))
  · rw [ti_0, ti_12] at q
    exact h6 q.2 ho (i4.mp z)
  · rw [ti_0, ti_12] at q
    have hz := z.2
    unfold ordOK at hz
    omega
