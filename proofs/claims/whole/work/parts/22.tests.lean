/-! the tests of rows -/
theorem l_add (x y : Int32) : (x.toInt64 + y.toInt64).toInt = x.toInt + y.toInt := by
  have h1 := Int32.toInt_lt x
  have h2 := Int32.le_toInt x
  have h3 := Int32.toInt_lt y
  have h4 := Int32.le_toInt y
  rw [Int64.toInt_add, l_ti, l_ti]
  exact Int.bmod_eq_of_le (by omega) (by omega)
theorem c_kind {nx : Nat} {A S : xs_T} {u : Nat} (h : CA nx A S) (hu : oW A u) : xF S u 0 = nI (xN A u) := (h.2.2.2.2.1 u hu).1
theorem c_len {nx : Nat} {A S : xs_T} {u : Nat} (h : CA nx A S) (hu : oW A u) : xN S (u + 120) = xN A (u + 120) := (h.2.2.2.2.1 u hu).2.1
theorem c_isFig {nx : Nat} {A S : xs_T} {u : Nat} {K : Int32 → xs_T → Prop} (h : CA nx A S) (hw : WF A) (hu : oW A u) (h1 : 8 ≤ xN A u → K 1 S) (h0 : xN A u < 8 → K 0 S) : v_X5_isOfFigures u S K := by
  unfold v_X5_isOfFigures
  have hk := (hw.2.1 u hu).1
  have hc : xF S u 0 < 8 ↔ xN A u < 8 := by rw [c_kind h hu]; exact nI_ltI (by omega) (by decide)
  exact ⟨CA_oR h hw hu, fun q => h0 (hc.mp q), fun q => h1 (Nat.not_lt.mp (fun z => q (hc.mpr z)))⟩
theorem c_isFig2 {nx : Nat} {A S : xs_T} {u : Nat} {P Q : xs_T → Prop} (h : CA nx A S) (hw : WF A) (hu : oW A u) (h1 : 8 ≤ xN A u → Q S) (h0 : xN A u < 8 → P S) : v_X5_isOfFigures u S (fun r S => (r = 0 → P S) ∧ (¬ r = 0 → Q S)) := c_isFig h hw hu (fun c => ⟨fun q => absurd q (by decide), fun _ => h1 c⟩) (fun c => ⟨fun _ => h0 c, fun q => absurd rfl q⟩)
theorem c_isFig3 {nx : Nat} {A S : xs_T} {u : Nat} {P Q : xs_T → Prop} (h : CA nx A S) (hw : WF A) (hu : oW A u) (h1 : 8 ≤ xN A u → Q S) (h0 : xN A u < 8 → P S) : v_X5_isOfFigures u S (fun r S => (¬ r = 0 → Q S) ∧ (r = 0 → P S)) := c_isFig h hw hu (fun c => ⟨fun _ => h1 c, fun q => absurd q (by decide)⟩) (fun c => ⟨fun q => absurd rfl q, fun _ => h0 c⟩)
abbrev alike (A : xs_T) (u v : Nat) : Prop := xN A u = xN A v ∨ (8 ≤ xN A u ∧ 8 ≤ xN A v)
theorem c_alike {nx : Nat} {A S : xs_T} {u v : Nat} {P Q : xs_T → Prop} (h : CA nx A S) (hw : WF A) (hu : oW A u) (hv : oW A v) (h1 : alike A u v → Q S) (h0 : ¬ alike A u v → P S) : v_X5_isAlike u v S (fun r S => (¬ r = 0 → Q S) ∧ (r = 0 → P S)) := by
  unfold v_X5_isAlike
  have hk := (hw.2.1 u hu).1
  have hk2 := (hw.2.1 v hv).1
  have hc : xF S u 0 = xF S v 0 ↔ xN A u = xN A v := by rw [c_kind h hu, c_kind h hv]; exact nI_eq (by omega) (by omega)
  refine ⟨CA_oR h hw hu, CA_oR h hw hv, fun q => ⟨fun _ => h1 (Or.inl (hc.mp q)), fun z => absurd z (by decide)⟩, fun q => ?_⟩
  have hne : ¬ xN A u = xN A v := fun z => q (hc.mpr z)
  refine c_isFig2 h hw hu (fun a => c_isFig2 h hw hv (fun b => ⟨fun _ => h1 (Or.inr ⟨a, b⟩), fun z => absurd z (by decide)⟩) (fun b => ⟨fun z => absurd rfl z, fun _ => h0 (fun z => ?_)⟩)) (fun a => ⟨fun z => absurd rfl z, fun _ => h0 (fun z => ?_)⟩)
  · rcases z with z | z
    · exact hne z
    · omega
  · rcases z with z | z
    · exact hne z
    · omega
abbrev plc (m c : Int32) (n : Nat) : Prop := 0 ≤ m.toInt ∧ 0 ≤ c.toInt ∧ m.toInt + c.toInt ≤ n
theorem plc_nat {m c : Int32} {n : Nat} (h : plc m c n) (hn : n ≤ 64) : ∃ p k : Nat, m = nI p ∧ c = nI k ∧ p + k ≤ n := by
  obtain ⟨p, hp, rfl⟩ := i_nat h.1
  obtain ⟨k, hk, rfl⟩ := i_nat h.2.1
  have h3 := h.2.2
  rw [nI_toInt hp, nI_toInt hk] at h3
  exact ⟨p, k, rfl, rfl, by omega⟩
theorem c_hasPlaces {nx : Nat} {A S : xs_T} {u : Nat} {m c : Int32} {K : Int32 → xs_T → Prop} (h : CA nx A S) (hw : WF A) (hu : oW A u) (h1 : plc m c (xN A (u + 120)) → K 1 S) (h0 : ¬ plc m c (xN A (u + 120)) → K 0 S) : v_X5_hasPlaces u m c S K := by
  unfold v_X5_hasPlaces
  have hb := (hw.2.1 u hu).2
  rw [c_len h hu]
  have ht : (nI (xN A (u + 120))).toInt64.toInt = xN A (u + 120) := by rw [l_ti, nI_toInt (by omega)]
  simp only [Int32.lt_iff_toInt_lt, Int64.lt_iff_toInt_lt, ti_0, ht, l_add]
  exact ⟨fun q => h0 (by omega), fun q => ⟨fun z => h0 (by omega), fun z => ⟨CA_oR h hw hu, fun y => h0 (by omega), fun y => h1 (by omega)⟩⟩⟩
/-- what a row of figures can have -/
abbrev can (k s : Nat) : Prop := s = 0 ∨ k ≤ 8 ∨ (k = 9 ∧ (s = 2 ∨ s = 3)) ∨ (k = 10 ∧ s = 3) ∨ (k = 11 ∧ s = 4)
def srt (A : xs_T) (f : Nat) : Nat := if f = 0 then 0 else xN A (303 + f)
theorem srt_le {A : xs_T} (hw : WF A) {f : Nat} (hf : f ≤ nA A 1) : srt A f ≤ 4 := by
  unfold srt
  by_cases h : f = 0
  · rw [if_pos h]; omega
  · rw [if_neg h]
    have := (hw.2.2.1 (f - 1) (by omega)).2
    rw [show 304 + (f - 1) = 303 + f by omega] at this
    exact this
theorem c_canHave {nx : Nat} {A S : xs_T} {u t : Nat} {K : Int32 → xs_T → Prop} (h : CA nx A S) (hw : WF A) (hu : oW A u) (ht : t ≤ 4) (h1 : can (xN A u) t → K 1 S) (h0 : ¬ can (xN A u) t → K 0 S) : v_X5_canHave u (nI t) S K := by
  unfold v_X5_canHave
  have hk := (hw.2.1 u hu).1
  rw [c_kind h hu]
  have e : ∀ c : Nat, c < 20 → (nI (xN A u) = nI c ↔ xN A u = c) := fun c hc => nI_eq (by omega) (by omega)
  have f : ∀ c : Nat, c < 20 → (nI t = nI c ↔ t = c) := fun c hc => nI_eq (by omega) (by omega)
  have e9 : nI (xN A u) = 9 ↔ xN A u = 9 := e 9 (by decide)
  have e10 : nI (xN A u) = 10 ↔ xN A u = 10 := e 10 (by decide)
  have e11 : nI (xN A u) = 11 ↔ xN A u = 11 := e 11 (by decide)
  have f0 : nI t = 0 ↔ t = 0 := f 0 (by decide)
  have f2 : nI t = 2 ↔ t = 2 := f 2 (by decide)
  have f3 : nI t = 3 ↔ t = 3 := f 3 (by decide)
  have f4 : nI t = 4 ↔ t = 4 := f 4 (by decide)
  simp only [e9, e10, e11, f0, f2, f3, f4]
  refine ⟨CA_oR h hw hu, fun a => ⟨fun b => h1 (by omega), fun b => ⟨fun c => h1 (by omega), fun c => ⟨fun d => h0 (by omega), fun d => h1 (by omega)⟩⟩⟩, fun a => ⟨fun b => h1 (by omega), fun b => ⟨fun c => h0 (by omega), fun c => h1 (by omega)⟩⟩, fun a => ⟨fun b => h1 (by omega), fun b => ⟨fun c => h0 (by omega), fun c => h1 (by omega)⟩⟩, fun a b c => h1 (by omega)⟩
theorem c_sortOf {nx : Nat} {A S : xs_T} {f : Nat} {K : Int32 → xs_T → Prop} (h : CA nx A S) (hw : WF A) (hf : f ≤ nA A 1) (hK : K (nI (srt A f)) S) : v_X6_sortOf (lN f) S K := by
  unfold v_X6_sortOf
  have hn := hw.1.2.1
  have ht : (lN f).toInt = f := pk_lT (by omega)
  unfold srt at hK
  refine c_figOf h hw (fun g h1 h2 e => ⟨fun q => (by cases q), fun u q => ?_⟩) (fun q => ⟨fun _ => ?_, fun u z => (by cases z)⟩)
  · cases q
    have e2 : f = g := (lN_eq (by omega) (by omega)).mp e
    subst e2
    rw [if_neg (by omega)] at hK
    refine ⟨CA_oG h hw (by omega) (by omega), ?_⟩
    have := (h.2.2.2.1 (f - 1) (by omega)).1
    rw [show 304 + (f - 1) = 303 + f by omega] at this
    rw [this]
    exact hK
  · rw [ht] at q
    rw [if_pos (by omega)] at hK
    exact hK
theorem m_canHave {A S : xs_T} {k f : Nat} {K : Int32 → xs_T → Prop} (h : MAg A S) (hw : WF A) (hk : 8 ≤ k) (hk2 : k ≤ 11) (hf : f ≤ nA A 1) (h1 : can k (srt A f) → K 1 S) (h0 : ¬ can k (srt A f) → K 0 S) : v_X10_canHave (nI k) (nI f) S K := by
  have hn := hw.1.2.1
  have hs := srt_le hw hf
  have e : ∀ c : Nat, c < 20 → (nI k = nI c ↔ k = c) := fun c hc => nI_eq (by omega) (by omega)
  have e8 : nI k = 8 ↔ k = 8 := e 8 (by decide)
  have e9 : nI k = 9 ↔ k = 9 := e 9 (by decide)
  have e10 : nI k = 10 ↔ k = 10 := e 10 (by decide)
  have f0 : nI f = 0 ↔ f = 0 := nI_eq (b := 0) (by omega) (by decide)
  have s0 : srt A 0 = 0 := rfl
  unfold v_X10_canHave
  simp only [e8, e9, e10, f0]
  have key : ¬ f = 0 → xI S 7 f = nI (srt A f) := fun hf0 => by
    have := h (f - 1) (by omega)
    rw [show f - 1 + 1 = f by omega, show 304 + (f - 1) = 303 + f by omega] at this
    unfold srt
    rw [if_neg hf0]
    exact this
  have g : ∀ c : Nat, c < 20 → (nI (srt A f) = nI c ↔ srt A f = c) := fun c hc => nI_eq (by omega) (by omega)
  have g2 : nI (srt A f) = 2 ↔ srt A f = 2 := g 2 (by decide)
  have g3 : nI (srt A f) = 3 ↔ srt A f = 3 := g 3 (by decide)
  have g4 : nI (srt A f) = 4 ↔ srt A f = 4 := g 4 (by decide)
  have z0 : ¬ f = 0 → 1 ≤ srt A f := fun hf0 => by
    have := (hw.2.2.1 (f - 1) (by omega)).1
    rw [show 304 + (f - 1) = 303 + f by omega] at this
    unfold srt
    rw [if_neg hf0]
    exact this
  refine ⟨fun a => h1 (Or.inl (by rw [a]; rfl)), fun a => ⟨fun b => ⟨f, rfl, by omega, ?_⟩, fun b => h1 (Or.inr (Or.inl (by omega)))⟩⟩
  have hz := z0 a
  rw [key a]
  simp only [g2, g3, g4]
  exact ⟨fun c => ⟨fun d => ⟨fun e => h0 (by omega), fun e => h1 (by omega)⟩, fun d => ⟨fun e => h0 (by omega), fun e => h1 (by omega)⟩⟩, fun c => ⟨fun d => h1 (by omega), fun d => ⟨fun e => h0 (by omega), fun e => h1 (by omega)⟩⟩⟩
/-- how many of the first are all right -/
def fit (p : Nat → Bool) : Nat → Nat
  | 0 => 0
  | n + 1 => if fit p n = n then (if p n = true then n + 1 else n) else fit p n
theorem fit_le (p : Nat → Bool) : ∀ n, fit p n ≤ n
  | 0 => Nat.le_refl 0
  | n + 1 => by
    have := fit_le p n
    unfold fit
    split
    · split <;> omega
    · omega
theorem fit_eq {p : Nat → Bool} : ∀ {n k : Nat}, k ≤ n → (∀ i, i < k → p i = true) → (k < n → p k = false) → fit p n = k
  | 0, k, hk, _, _ => by unfold fit; omega
  | n + 1, k, hk, h1, h2 => by
    unfold fit
    by_cases hkn : k = n + 1
    · subst hkn
      rw [fit_eq (n := n) (k := n) (Nat.le_refl n) (fun i hi => h1 i (by omega)) (fun h => absurd h (Nat.lt_irrefl n)), if_pos rfl, if_pos (h1 n (by omega))]
    · have h3 : k ≤ n := by omega
      by_cases hk2 : k = n
      · subst hk2
        rw [fit_eq (n := k) (k := k) (Nat.le_refl k) h1 (fun h => absurd h (Nat.lt_irrefl k)), if_pos rfl, if_neg (by rw [h2 (by omega)]; decide)]
      · rw [fit_eq (n := n) (k := k) h3 h1 (fun _ => h2 (by omega)), if_neg hk2]
/-- a figure's number in a cell -/
def fno (x : Int64) : Nat := x.toInt.toNat
theorem fno_N {f : Nat} (h : f < 2 ^ 31) : fno (lN f) = f := by
  unfold fno
  rw [pk_lT (by omega), Int.toNat_natCast]
def okc (A : xs_T) (u v p i : Nat) : Bool := decide (can (xN A v) (srt A (fno (xL A (u + 120) (p + i)))))
def fFit (A : xs_T) (u v p n : Nat) : Nat := if 8 ≤ xN A v then fit (okc A u v p) n else n
theorem fFit_le (A : xs_T) (u v p n : Nat) : fFit A u v p n ≤ n := by
  unfold fFit
  split
  · exact fit_le _ _
  · exact Nat.le_refl _
theorem c_fit_loop {nx : Nat} {A S : xs_T} {u v p n : Nat} {K : Int32 → xs_T → Prop} (h : CA nx A S) (hw : WF A) (hu : oW A u) (hv : oW A v) (hk : 8 ≤ xN A u) (hn : p + n ≤ xN A (u + 120)) (hK : K (nI (fit (okc A u v p) n)) S) :
    ∀ (m i : Nat), i + m = n → (∀ j, j < i → okc A u v p j = true) → v_X0_howManyFit_13 K (m + 1) u (nI p) v (nI n) (nI i) S := by
  have hb := (hw.2.1 u hu).2
  intro m
  induction m with
  | zero =>
    intro i hi ha
    rw [v_X0_howManyFit_13]
    have e : i = n := by omega
    subst e
    refine ⟨fun _ => ?_, fun q => absurd (nI_le (Nat.le_refl i) (by omega)) q⟩
    rw [fit_eq (Nat.le_refl i) ha (fun z => absurd z (Nat.lt_irrefl i))] at hK
    exact hK
  | succ m ih =>
    intro i hi ha
    rw [v_X0_howManyFit_13]
    refine ⟨fun q => absurd q (nI_ge (by omega) (by omega)), fun _ => ⟨CA_oR h hw hu, p + i, nI_add p i, by rw [c_len h hu]; omega, ?_⟩⟩
    obtain ⟨f, hf, e⟩ := hw.2.2.2.2.1 u hu hk (p + i) (by omega)
    have hnf := hw.1.2.1
    rw [(h.2.2.2.2.1 u hu).2.2 (p + i) (by omega), e]
    have eo : okc A u v p i = decide (can (xN A v) (srt A f)) := by
      unfold okc
      rw [e, fno_N (by omega)]
    refine c_sortOf h hw hf ⟨CA_oR h hw hv, c_canHave h hw hv (srt_le hw hf) (fun hc => ⟨fun _ => ?_, fun z => absurd z (by decide)⟩) (fun hc => ⟨fun z => absurd rfl z, fun _ => ?_⟩)⟩
    · rw [nI_1]
      refine ih (i + 1) (by omega) (fun j hj => ?_)
      by_cases hj2 : j = i
      · subst hj2
        rw [eo]; exact decide_eq_true hc
      · exact ha j (by omega)
    · rw [fit_eq (k := i) (by omega) ha (fun _ => by rw [eo]; exact decide_eq_false hc)] at hK
      exact hK
theorem c_howMany {nx : Nat} {A S : xs_T} {u v p n : Nat} {K : Int32 → xs_T → Prop} (h : CA nx A S) (hw : WF A) (hu : oW A u) (hv : oW A v) (ha : alike A u v) (hn : p + n ≤ xN A (u + 120)) (hK : K (nI (fFit A u v p n)) S) : v_X0_howManyFit u (nI p) v (nI n) S K := by
  unfold v_X0_howManyFit
  unfold fFit at hK
  refine ⟨CA_oR h hw hv, c_isFig3 h hw hv (fun c => ?_) (fun c => ?_)⟩
  · rw [if_pos c] at hK
    exact ⟨n + 1, c_fit_loop h hw hu hv (by rcases ha with z | z <;> omega) hn hK n 0 (by omega) (fun j hj => absurd hj (Nat.not_lt_zero j))⟩
  · rw [if_neg (by omega)] at hK
    exact hK
