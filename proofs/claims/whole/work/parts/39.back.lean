/-! run, back, look -/
theorem sI_tT (S : xs_T) (i : Nat) (f : Nat → Int32) (j : Nat) (x : Int32) : sI (tI S i f) i j x = tI S i (va_up f j x) := by
  unfold sI tI
  show (S.1, va_up (va_up S.2.1 i f) i (va_up (va_up S.2.1 i f i) j x), S.2.2) = _
  rw [bx_uu, va_up_self]
theorem tI_idT (S : xs_T) (j : Nat) : tI S j (xI S j) = S := by
  unfold tI
  have : va_up S.2.1 j (xI S j) = S.2.1 := by
    funext i
    by_cases e : i = j
    · subst e; rw [va_up_self]; rfl
    · rw [va_up_ne _ _ e]
  rw [this]
def fStart (A : xs_T) : xs_T := sF (sF (tI A 46 (fun _ => 0)) 0 26 0) 0 27 (-1)
def fRun (N : Nat) (A : xs_T) : Int32 × xs_T := fLoop N 0 (fStart A)
theorem WF.start {A : xs_T} (h : WF A) : WF (fStart A) := h
theorem CA.start {nx : Nat} {A S : xs_T} {f : Nat → Int32} (h : CA nx A S) (hf : ∀ k, k < 60 → f k = 0) : CA nx (fStart A) (sF (sF (tI S 46 f) 32 7 0) 32 8 (-1)) := by
  have h1 : CA nx (tI A 46 (fun _ => 0)) (tI S 46 f) := by
    obtain ⟨c1, c2, c3, c4, c5, c6, c7⟩ := h
    refine ⟨c1, fun k hk => ?_, c3, c4, c5, c6, c7⟩
    obtain ⟨d1, d2, d3, d4, d5⟩ := c2 k hk
    exact ⟨d1, d2, d3, d4, hf k hk⟩
  exact h1.f26.f27
theorem MA.start {fr : Nat → Nat} {A S : xs_T} {f : Nat → Int32} (h : MA fr A S) (hf : ∀ k, k < 60 → f k = 0) : MA fr (fStart A) (tI (sF (sF S 0 26 0) 0 27 (-1)) 17 f) := by
  have h1 : MA fr (tI A 46 (fun _ => 0)) (tI S 17 f) := by
    obtain ⟨c1, c2, c⟩ := h
    refine ⟨c1, fun k hk => ?_, c⟩
    obtain ⟨d1, d2, d3, d4, d5⟩ := c2 k hk
    exact ⟨d1, d2, d3, d4, hf k hk⟩
  exact h1.f26.f27
theorem c_forget {S : xs_T} {K : xs_T → Prop} (hK : ∀ f, (∀ k, k < 60 → f k = 0) → K (tI S 46 f)) : ∀ (m i : Nat) (f : Nat → Int32), i + m = 60 → (∀ k, k < i → f k = 0) → v_X8_forgetAgains_2 K (m + 1) (nI i) (tI S 46 f) := by
  intro m
  induction m with
  | zero =>
    intro i f hi hf
    rw [v_X8_forgetAgains_2]
    have e : i = 60 := by omega
    subst e
    exact ⟨fun _ => hK f hf, fun q => absurd (nI_le (a := 60) (b := 60) (Nat.le_refl 60) (by decide)) q⟩
  | succ m ih =>
    intro i f hi hf
    rw [v_X8_forgetAgains_2]
    refine ⟨fun q => absurd q (nI_ge (a := i) (b := 60) (by omega) (by decide)), fun _ => ⟨i, rfl, by omega, ?_⟩⟩
    rintro _ rfl
    rw [nI_1, sI_tT]
    refine ih (i + 1) _ (by omega) (fun k hk => ?_)
    by_cases e : k = i
    · subst e; rw [va_up_self]
    · rw [va_up_ne _ _ e]; exact hf k (by omega)
theorem m_forget {S : xs_T} {x : Int32} {K : Int32 → xs_T → Prop} (hK : ∀ f, (∀ k, k < 60 → f k = 0) → ∃ n, v_X10_run_46 K n x 0 (tI S 17 f)) : ∀ (m i : Nat) (f : Nat → Int32), i + m = 60 → (∀ k, k < i → f k = 0) → v_X10_run_25 K (m + 1) x (nI i) (tI S 17 f) := by
  intro m
  induction m with
  | zero =>
    intro i f hi hf
    rw [v_X10_run_25]
    have e : i = 60 := by omega
    subst e
    exact ⟨fun _ => hK f hf, fun q => absurd (nI_le (a := 60) (b := 60) (Nat.le_refl 60) (by decide)) q⟩
  | succ m ih =>
    intro i f hi hf
    rw [v_X10_run_25]
    refine ⟨fun q => absurd q (nI_ge (a := i) (b := 60) (by omega) (by decide)), fun _ => ⟨i, rfl, by omega, ?_⟩⟩
    rintro _ rfl
    rw [nI_1, sI_tT]
    refine ih (i + 1) _ (by omega) (fun k hk => ?_)
    by_cases e : k = i
    · subst e; rw [va_up_self]
    · rw [va_up_ne _ _ e]; exact hf k (by omega)
theorem c_run {nx nu : Nat} {A S : xs_T} {x1 : Int32} {K : Int32 → xs_T → Prop} (h : CA nx A S) (hw : WF A) (h0 : ¬ (0 ≤ x1.toInt ∧ x1.toInt ≤ 300) → K (-1) S) (h1 : ∀ N, x1 = nI N → N ≤ 300 → nA (fRun N A).2 7 ≤ nu + nA A 7 ∧ ∀ nx' S', CA nx' (fRun N A).2 S' → mf0 S S' → K (fRun N A).1 S') : v_X9_run nu x1 S K := by
  unfold v_X9_run
  refine ⟨fun q => h0 ?_, fun q => ⟨fun q2 => ?_, fun q2 => h0 ?_⟩⟩
  · rw [Int32.lt_iff_toInt_lt, ti_0] at q; omega
  · rw [Int32.lt_iff_toInt_lt, ti_0] at q
    rw [Int32.le_iff_toInt_le, ti_300] at q2
    obtain ⟨N, hN, rfl⟩ := i_nb (x := x1) (n := 300) (by omega) (by decide)
    obtain ⟨hu, hK⟩ := h1 N rfl hN
    unfold v_X8_forgetAgains
    have key := c_forget (S := S) (K := fun S_3 => ∀ S_5 : xs_T, S_5 = sF S_3 32 7 0 → ∀ S_7 : xs_T, S_7 = sF S_5 32 8 (-1) → ∃ n, v_X9_run_34 nu K n 0 (nI N) 0 0 S_7) (fun f hf => ?_) 60 0 (xI S 46) (by omega) (fun k hk => absurd hk (Nat.not_lt_zero k))
    · rw [tI_idT] at key
      exact ⟨_, key⟩
    · rintro _ rfl _ rfl
      have m0 : mf0 S (sF (sF (tI S 46 f) 32 7 0) 32 8 (-1)) := fun i hi => ⟨?_, ?_, rfl⟩
      · exact ⟨N + 1, c_loop hN N 0 (by omega) 0 0 nx _ _ (h.start hf) hw.start rfl (by omega) (by have : nA (fStart A) 7 = nA A 7 := rfl; rw [this, Nat.zero_add]; exact hu) m0 hK⟩
      · show va_up (va_up S.1 32 _) 32 _ i = S.1 i
        rw [va_up_ne _ _ (by omega), va_up_ne _ _ (by omega)]
      · show va_up S.2.1 46 _ i = S.2.1 i
        rw [va_up_ne _ _ (by omega)]
  · rw [Int32.le_iff_toInt_le, ti_300] at q2; omega
theorem m_run {fr : Nat → Nat} {A S : xs_T} {x1 : Int32} {K : Int32 → xs_T → Prop} (h : MA fr A S) (hw : WF A) (h0 : ¬ (0 ≤ x1.toInt ∧ x1.toInt ≤ 300) → K (-1) S) (h1 : ∀ N, x1 = nI N → N ≤ 300 → ∀ fr' S', MA fr' (fRun N A).2 S' → cf0 S S' → K (fRun N A).1 S') : v_X10_run x1 S K := by
  unfold v_X10_run
  refine s_in3 (fun q => ?_) (fun q => h0 (by rw [ti_0, ti_300] at q; exact q))
  rw [ti_0, ti_300] at q
  obtain ⟨N, hN, rfl⟩ := i_nb (x := x1) (n := 300) (by omega) (by decide)
  have hK := h1 N rfl hN
  rintro _ rfl _ rfl
  have key := m_forget (S := sF (sF S 0 26 0) 0 27 (-1)) (x := nI N) (K := K) (fun f hf => ?_) 60 0 (xI S 17) (by omega) (fun k hk => absurd hk (Nat.not_lt_zero k))
  · have e := tI_idT (sF (sF S 0 26 0) 0 27 (-1)) 17
    have e2 : xI (sF (sF S 0 26 0) 0 27 (-1)) 17 = xI S 17 := rfl
    rw [e2] at e
    rw [e] at key
    exact ⟨_, key⟩
  · have m0 : cf0 S (tI (sF (sF S 0 26 0) 0 27 (-1)) 17 f) := ⟨rfl, rfl, fun i hi => ⟨?_, ?_, rfl⟩⟩
    · exact ⟨N + 1, m_loop hN N 0 (by omega) 0 fr _ _ (h.start hf) hw.start rfl (by omega) m0 hK⟩
    · show va_up (va_up S.1 0 _) 0 _ i = S.1 i
      rw [va_up_ne _ _ (by omega), va_up_ne _ _ (by omega)]
    · show va_up S.2.1 17 _ i = S.2.1 i
      rw [va_up_ne _ _ (by omega)]
/-! back -/
def fBk (A : xs_T) (k : Nat) : xs_T := fW (sA A 6 k) (xN A (5000 + k)) 0 (xN A (xN A (5000 + k) + 120)) (fun i => xL A (1000 + k) i)
def fBack (A : xs_T) : Int32 × xs_T := if nA A 6 = 0 then (0, A) else (1, fBk A (nA A 6 - 1))
theorem WF.kept {A : xs_T} {k : Nat} (h : WF A) (hk : k ≤ nA A 6) : WF (sA A 6 k) := by
  obtain ⟨g1, g2, g3, g4, g5, g6, g7⟩ := h
  exact ⟨⟨g1.1, g1.2.1, g1.2.2.1, g1.2.2.2.1, by show k ≤ 20; have := g1.2.2.2.2.1; omega, g1.2.2.2.2.2⟩, g2, g3, g4, g5, fun j hj => g6 j (by have : j < k := hj; omega), g7⟩
theorem WF.back {A : xs_T} (h : WF A) : WF (fBack A).2 := by
  unfold fBack
  by_cases e : nA A 6 = 0
  · rw [if_pos e]; exact h
  · rw [if_neg e]
    obtain ⟨o, hf⟩ := h.2.2.2.2.2.1 (nA A 6 - 1) (by omega)
    exact WF.fW (h.kept (by omega)) o (fun hk i hi _ => hf hk i hi)
theorem CA.kept {nx k : Nat} {A S : xs_T} (h : CA nx A S) (hk : nA A 6 = k + 1) (h20 : k < 20) : CA ((nx + 19) % 20) (sA A 6 k) (sF (sF S 35 3 (nI ((nx + 19) % 20))) 35 2 (nI k)) := by
  obtain ⟨c1, c2, c3, c4, c5, c6, c7⟩ := h
  refine ⟨c1, c2, c3, (c4.F (by decide)).F (by decide), (c5.F (by decide)).F (by decide), c6, Nat.mod_lt _ (by decide), rfl, rfl, fun j hj => ?_⟩
  have hj2 : j < k := hj
  have hnx := c7.1
  show xQ S 47 (rg ((nx + 19) % 20) k j) = _ ∧ ∀ i, _ → xL S 48 (64 * rg ((nx + 19) % 20) k j + i) = _
  have er : rg ((nx + 19) % 20) k j = rg nx (nA A 6) j := by unfold rg; omega
  rw [er]
  exact c7.2.2.2 j (by omega)
theorem MA.kept {fr : Nat → Nat} {k : Nat} {A S : xs_T} (h : MA fr A S) (hk : k ≤ nA A 6) : MA fr (sA A 6 k) (sF S 0 18 (nI k)) := by
  obtain ⟨⟨d1, d2, d3, d4, d5, d6, d7⟩, c2, c3, c4, c5, c6⟩ := h
  exact ⟨⟨d1, d2, d3, d4, d5, rfl, d7⟩, c2, c3, c4, c5, fun j hj => c6 j (by have : j < k := hj; omega)⟩
theorem c_back {nx : Nat} {A S : xs_T} {K : Int32 → xs_T → Prop} (h : CA nx A S) (hw : WF A) (hK : ∀ nx' S', CA nx' (fBack A).2 S' → mf0 S S' → K (fBack A).1 S') : v_X9_back S K := by
  unfold v_X9_back v_X1_takeBack
  have hk := hw.1.2.2.2.2.1
  have hnx := h.2.2.2.2.2.2.1
  have f2 : xF S 35 2 = nI (nA A 6) := h.2.2.2.2.2.2.2.1
  have f3 : xF S 35 3 = nI nx := h.2.2.2.2.2.2.2.2.1
  have e3 : xF S 35 3 + 20 - 1 = nI (nx + 19) := by
    rw [f3]
    have : nI nx + 20 = nI (nx + 19 + 1) := nI_add nx 20
    rw [this, nI_pred]
  have e4 : nI (nx + 19) - nI (nx + 19) / 20 * 20 = nI ((nx + 19) % 20) := pk_rem (d := 20) (by omega) (by decide) (by decide)
  rw [e3, e4]
  unfold fBack at hK
  have i0 : xF S 35 2 = 0 ↔ nA A 6 = 0 := by rw [f2]; exact nI_eq (b := 0) (by omega) (by decide)
  refine ⟨(nx + 19) % 20, rfl, by omega, ?_⟩
  rw [i0]
  refine ⟨fun q => ⟨Or.inl rfl, ?_⟩, fun q => ?_⟩
  · rw [if_pos q] at hK; exact hK nx S h mfr.refl.z
  rw [if_neg q] at hK
  obtain ⟨b1, b2⟩ := h.2.2.2.2.2.2.2.2.2 (nA A 6 - 1) (by omega)
  obtain ⟨o, -⟩ := hw.2.2.2.2.2.1 (nA A 6 - 1) (by omega)
  have er : rg nx (nA A 6) (nA A 6 - 1) = (nx + 19) % 20 := by unfold rg; omega
  rw [er] at b1 b2
  rw [b1]
  refine ⟨fun z => (by cases z), fun u hu => ?_⟩
  cases hu
  have ol := (hw.2.1 _ o).2
  have o1 := o.1
  refine ⟨CA_oR h hw o, (nx + 19) % 20 * 64, 0, xN A (xN A (5000 + (nA A 6 - 1)) + 120), pk_mul _ 64, rfl, by rw [c_len h o], by omega, by rw [c_len h o]; omega, ?_⟩
  rintro _ rfl _ rfl _ rfl
  refine ⟨Or.inr rfl, ?_⟩
  have e2 : ∀ f v, xF (sF (tL S (xN A (5000 + (nA A 6 - 1)) + 120) f) 35 3 v) 35 2 - 1 = nI (nA A 6 - 1) := fun f v => by
    show xF S 35 2 - 1 = _
    rw [f2, show nA A 6 = nA A 6 - 1 + 1 by omega, nI_pred]
    rfl
  rw [e2]
  have hC := h.kept (k := nA A 6 - 1) (by omega) (by omega)
  have hW := hw.kept (k := nA A 6 - 1) (by omega)
  refine hK ((nx + 19) % 20) _ (hC.fW (b := 0) hW o (cw.T cw.refl) (fun i hi => ?_)) ?_
  · have hi2 : i < xN A (xN A (5000 + (nA A 6 - 1)) + 120) := hi
    rw [gLF, gLF, gLt, if_pos rfl, pk_cpy_in (by omega) (by omega), if_pos (by omega)]
    show xL S 48 _ = xL A (1000 + (nA A 6 - 1)) (i - 0)
    rw [show (nx + 19) % 20 * 64 + (i - 0) = 64 * ((nx + 19) % 20) + i by omega]
    exact b2 i hi2
  · intro i hi
    refine ⟨?_, rfl, ?_⟩
    · show va_up (va_up S.1 35 _) 35 _ i = S.1 i
      rw [va_up_ne _ _ (by omega), va_up_ne _ _ (by omega)]
    · show va_up S.2.2.1 _ _ i = S.2.2.1 i
      rw [va_up_ne _ _ (by omega)]
theorem m_back31 {fr : Nat → Nat} {A S0 : xs_T} {u k n : Nat} {g : Nat → Int64} {K : Int32 → xs_T → Prop} (h : MA fr A S0) (hw : WF A) (hu : oW A u) (hn : n = xN A (u + 120)) (hk : k < 20) (f18 : xF S0 0 18 = nI k) (hg : ∀ i, i < n → xL S0 20 (64 * k + i) = g i) (hK : ∀ S', MA fr (fW A u 0 n g) S' → cf0 S0 S' → K 1 S') :
    ∀ (m i : Nat) (S : xs_T), i + m = n → mw S0 S → (∀ q, xL S 5 q = pw (xL S0 5) (fr u + 0) i g q) → v_X10_back_31 K (m + 1) (nI (u - 64)) (nI i) S := by
  have hb := (hw.2.1 u hu).2
  have h0 := hw.1.1
  have hc := hw.1.2.2.1
  have hlt := hu.2
  obtain ⟨r1, r2, r3, r4, r5⟩ := m_row h hu
  intro m
  induction m with
  | zero =>
    intro i S hi hm h5
    rw [v_X10_back_31]
    refine ⟨u - 64, rfl, by omega, ?_⟩
    rw [hm.2.2.1, r2, ← hn]
    have e : i = n := by omega
    subst e
    exact ⟨fun _ => hK S (h.pool hw hu hm (by omega) h5) hm.1.z, fun q => absurd (nI_le (Nat.le_refl i) (by omega)) q⟩
  | succ m ih =>
    intro i S hi hm h5
    rw [v_X10_back_31]
    refine ⟨u - 64, rfl, by omega, ?_⟩
    rw [hm.2.2.1, r2, ← hn]
    refine ⟨fun q => absurd q (nI_ge (by omega) (by omega)), fun _ => ⟨u - 64, rfl, by omega, 64 * k + i, ?_, by omega, fr u + i, by rw [r3, nI_add], by omega, ?_⟩⟩
    · rw [hm.2.1, f18, show (64 : Int32) = nI 64 from rfl, pk_mul, nI_add]
    rintro _ rfl
    rw [nI_1]
    refine ih (i + 1) _ (by omega) hm.L5 (pw_1 h5 (by omega) ?_)
    rw [hm.2.2.2]
    exact hg i (by omega)
theorem m_back {fr : Nat → Nat} {A S : xs_T} {K : Int32 → xs_T → Prop} (h : MA fr A S) (hw : WF A) (hK : ∀ S', MA fr (fBack A).2 S' → cf0 S S' → K (fBack A).1 S') : v_X10_back S K := by
  unfold v_X10_back
  have hk := hw.1.2.2.2.2.1
  have f18 : xF S 0 18 = nI (nA A 6) := h.1.2.2.2.2.2.1
  have i0 : xF S 0 18 = 0 ↔ nA A 6 = 0 := by rw [f18]; exact nI_eq (b := 0) (by omega) (by decide)
  unfold fBack at hK
  rw [i0]
  refine ⟨fun q => ?_, fun q => by rw [if_pos q] at hK; exact hK S h cfr.refl.z⟩
  rw [if_neg q] at hK
  rintro _ rfl
  have e1 : xF S 0 18 - 1 = nI (nA A 6 - 1) := by
    rw [f18, show nA A 6 = nA A 6 - 1 + 1 by omega, nI_pred]
    rfl
  rw [e1]
  obtain ⟨b1, b2⟩ := h.2.2.2.2.2 (nA A 6 - 1) (by omega)
  obtain ⟨o, -⟩ := hw.2.2.2.2.2.1 (nA A 6 - 1) (by omega)
  refine ⟨nA A 6 - 1, rfl, by omega, ?_⟩
  have e19 : xI (sF S 0 18 (nI (nA A 6 - 1))) 19 (nA A 6 - 1) = nI (xN A (5000 + (nA A 6 - 1)) - 64) := b1
  rw [e19]
  refine ⟨_, m_back31 (h.kept (k := nA A 6 - 1) (by omega)) (hw.kept (by omega)) o rfl (by omega) rfl b2 (fun S' hM hc => hK S' hM (cf0.trans (cfr.F (by decide)).z hc)) (xN A (xN A (5000 + (nA A 6 - 1)) + 120)) 0 _ (Nat.zero_add _) mw.refl (fun q => (pw_0 _ _ _ q).symm)⟩
