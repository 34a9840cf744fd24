theorem cWr_Q (S : xs_T) (nx u n kp r : Nat) : xQ (cWr S nx u n kp) 47 r = if r = nx then some u else xQ S 47 r := by
  show xQ (sQ S 47 nx (some u)) 47 r = _
  rw [gQQ]
  by_cases e : r = nx
  · rw [if_pos ⟨rfl, e⟩, if_pos e]
  · rw [if_neg (fun z => e z.2), if_neg e]
theorem cWr_L (S : xs_T) (nx u n kp p : Nat) : xL (cWr S nx u n kp) 48 p = if nx * 64 ≤ p ∧ p < nx * 64 + n then xL S 36 (p - nx * 64) else xL S 48 p := by
  show va_cpy (xL S 36) (xL S 48) 0 (nx * 64) n p = _
  by_cases e : nx * 64 ≤ p ∧ p < nx * 64 + n
  · rw [if_pos e, pk_cpy_in e.1 e.2, Nat.zero_add]
  · rw [if_neg e, pk_cpy_out (by omega)]
theorem CA.put {nx : Nat} {A S : xs_T} {u : Nat} {g : Nat → Int64} (h : CA nx A S) (hw : WF A) (hu : oW A u) (hg : ∀ i, i < xN A (u + 120) → xL S 36 i = g i) (hk : nA A 6 < 20) : CA ((nx + 1) % 20) (fPut A u g) (cWr S nx u (xN A (u + 120)) (nA A 6 + 1)) := by
  have h0 := hw.1.1
  have hu2 := hu.2
  have hnx := h.2.2.2.2.2.2.1
  have hb := h.2.2.2.2.2.2.2.2.2
  refine h.wr hu rfl rfl (fun k hk2 => ?_) rfl (fun i hi => ?_) (fun i hi => ?_) h0 hw.1.2.1 rfl (fun j hj => ?_)
  · show xQ (sQ _ 0 6 _) 0 k = _
    rw [gQQ, if_neg (fun z => hk2 z.2)]; rfl
  · rw [fPut_N, if_neg (by omega)]
  · funext k; rw [fPut_L, if_neg (by omega)]
  · rw [cWr_Q]
    by_cases e : j = nA A 6
    · subst e
      have er : rg ((nx + 1) % 20) (nA A 6 + 1) (nA A 6) = nx := by unfold rg; omega
      have en : xN (fPut A u g) (5000 + nA A 6) = u := by rw [fPut_N, if_pos rfl]
      rw [er, en, if_pos rfl]
      refine ⟨rfl, fun i hi => ?_⟩
      rw [fPut_N, if_neg (by omega)] at hi
      rw [cWr_L, if_pos (by omega), fPut_L, if_pos rfl, show 64 * nx + i - nx * 64 = i by omega]
      exact hg i hi
    · have er : rg ((nx + 1) % 20) (nA A 6 + 1) j = rg nx (nA A 6) j := by unfold rg; omega
      have ne : rg nx (nA A 6) j ≠ nx := by unfold rg; omega
      have en : xN (fPut A u g) (5000 + j) = xN A (5000 + j) := by rw [fPut_N, if_neg (by omega)]
      have o := (hw.2.2.2.2.2.1 j (by omega)).1
      have o2 := o.2
      have ol := (hw.2.1 _ o).2
      have ul := (hw.2.1 _ hu).2
      rw [er, en, if_neg ne]
      refine ⟨(hb j (by omega)).1, fun i hi => ?_⟩
      rw [fPut_N, if_neg (by omega)] at hi
      rw [cWr_L, if_neg (by omega), fPut_L, if_neg (by omega)]
      exact (hb j (by omega)).2 i hi
theorem CA.shp {nx : Nat} {A S : xs_T} {u : Nat} {g : Nat → Int64} (h : CA nx A S) (hw : WF A) (hu : oW A u) (hg : ∀ i, i < xN A (u + 120) → xL S 36 i = g i) (hk : nA A 6 = 20) : CA ((nx + 1) % 20) (fPut (fSh9 A) u g) (cWr S nx u (xN A (u + 120)) 20) := by
  have h0 := hw.1.1
  have hu2 := hu.2
  have hnx := h.2.2.2.2.2.2.1
  have hb := h.2.2.2.2.2.2.2.2.2
  have e6 : nA (fSh9 A) 6 = 19 := rfl
  refine h.wr hu rfl rfl (fun k hk2 => ?_) rfl (fun i hi => ?_) (fun i hi => ?_) h0 hw.1.2.1 rfl (fun j hj => ?_)
  · show xQ (sQ _ 0 6 _) 0 k = _
    rw [gQQ, if_neg (fun z => hk2 z.2)]
    show xQ (sQ (fSh A) 0 6 _) 0 k = _
    rw [gQQ, if_neg (fun z => hk2 z.2)]; rfl
  · rw [fPut_N, e6, if_neg (by omega), fSh_N, if_neg (by omega)]
  · funext k; rw [fPut_L, e6, if_neg (by omega), fSh_L, if_neg (by omega)]
  · rw [cWr_Q]
    by_cases e : j = 19
    · subst e
      have er : rg ((nx + 1) % 20) 20 19 = nx := by unfold rg; omega
      have en : xN (fPut (fSh9 A) u g) (5000 + 19) = u := by rw [fPut_N, e6, if_pos rfl]
      rw [er, en, if_pos rfl]
      refine ⟨rfl, fun i hi => ?_⟩
      rw [fPut_N, e6, if_neg (by omega), fSh_N, if_neg (by omega)] at hi
      rw [cWr_L, if_pos (by omega), fPut_L, e6, if_pos rfl, show 64 * nx + i - nx * 64 = i by omega]
      exact hg i hi
    · have er : rg ((nx + 1) % 20) 20 j = rg nx (nA A 6) (j + 1) := by unfold rg; omega
      have ne : rg nx (nA A 6) (j + 1) ≠ nx := by unfold rg; omega
      have en : xN (fPut (fSh9 A) u g) (5000 + j) = xN A (5000 + (j + 1)) := by rw [fPut_N, e6, if_neg (by omega), fSh_N, if_pos (by omega)]; rfl
      have o := (hw.2.2.2.2.2.1 (j + 1) (by omega)).1
      have o2 := o.2
      have ol := (hw.2.1 _ o).2
      have ul := (hw.2.1 _ hu).2
      rw [er, en, if_neg ne]
      refine ⟨(hb (j + 1) (by omega)).1, fun i hi => ?_⟩
      rw [fPut_N, e6, if_neg (by omega), fSh_N, if_neg (by omega)] at hi
      rw [cWr_L, if_neg (by omega), fPut_L, e6, if_neg (by omega), fSh_L, if_pos (by omega)]
      exact (hb (j + 1) (by omega)).2 i hi
theorem c_write {nx : Nat} {A S : xs_T} {u : Nat} {g : Nat → Int64} {K : xs_T → Prop} (h : CA nx A S) (hw : WF A) (hu : oW A u) (hg : ∀ i, i < xN A (u + 120) → xL S 36 i = g i) (hK : ∀ S', CA ((nx + 1) % 20) (fWrite A u g) S' → mfr S S' → K S') : v_X1_write u 36 S K := by
  unfold v_X1_write
  have hnx := h.2.2.2.2.2.2.1
  have f2 : xF S 35 2 = nI (nA A 6) := h.2.2.2.2.2.2.2.1
  have f3 : xF S 35 3 = nI nx := h.2.2.2.2.2.2.2.2.1
  have hk := hw.1.2.2.2.2.1
  have ul := (hw.2.1 _ hu).2
  have hlen : xN (sQ S 47 nx (some u)) (u + 120) = xN A (u + 120) := by rw [gNQ]; exact c_len h hu
  refine ⟨CA_oR h hw hu, nx, f3, hnx, ?_⟩
  rintro _ rfl
  refine ⟨Or.inl rfl, 0, nx * 64, xN A (u + 120), rfl, ?_, by rw [hlen], by show 0 + _ ≤ 64; omega, by omega, ?_⟩
  · show xF S 35 3 * 64 = _
    rw [f3]
    exact pk_mul nx 64
  rintro _ rfl _ rfl
  have e3 : ∀ f, xF (tL (sQ S 47 nx (some u)) 48 f) 35 3 = nI nx := fun f => f3
  have e2 : ∀ f v, xF (sF (tL (sQ S 47 nx (some u)) 48 f) 35 3 v) 35 2 = nI (nA A 6) := fun f v => f2
  have em : nI (nx + 1) - nI (nx + 1) / 20 * 20 = nI ((nx + 1) % 20) := pk_rem (d := 20) (by omega) (by decide) (by decide)
  rw [e3, nI_1, em, e2, nI_1]
  have mf : ∀ n kp, mfr S (cWr S nx u n kp) := fun n kp => ((mfr.Q.trans (mfr.T (by decide))).trans (mfr.F (by decide))).trans (mfr.F (by decide))
  unfold v_J9_min_7cf53
  have i2 : 20 < nI (nA A 6 + 1) ↔ 20 < nA A 6 + 1 := nI_ltI (a := 20) (by decide) (by omega)
  unfold fWrite at hK
  refine ⟨fun q => ?_, fun q => ?_⟩
  · rw [i2] at q
    rintro _ rfl
    rw [if_pos (by omega)] at hK
    exact hK _ (h.shp hw hu hg (by omega)) (mf _ _)
  · rw [i2] at q
    rintro _ rfl
    rw [if_neg (by omega)] at hK
    exact hK _ (CA.put h hw hu hg (by omega)) (mf _ _)
theorem c_dif_loop {nx : Nat} {A S : xs_T} {u : Nat} {g : Nat → Int64} {K : Int32 → xs_T → Prop} (h : CA nx A S) (hw : WF A) (hu : oW A u) (hg : ∀ i, i < xN A (u + 120) → xL S 36 i = g i) (hK : K (if dif (xN A (u + 120)) g (xL A (u + 120)) = true then 1 else 0) S) :
    ∀ (m i : Nat), i + m = xN A (u + 120) → (∀ j, j < i → g j = xL A (u + 120) j) → v_X5_differsFrom_2 K (m + 1) u 36 (nI i) S := by
  have ul := (hw.2.1 _ hu).2
  intro m
  induction m with
  | zero =>
    intro i hi he
    rw [v_X5_differsFrom_2, c_len h hu]
    have e : i = xN A (u + 120) := by omega
    rw [dif_no (fun j hj => he j (by omega)), if_neg (by decide)] at hK
    exact ⟨CA_oR h hw hu, fun _ => hK, fun q => absurd (nI_le (by omega) (by omega)) q⟩
  | succ m ih =>
    intro i hi he
    rw [v_X5_differsFrom_2, c_len h hu]
    refine ⟨CA_oR h hw hu, fun q => absurd q (nI_ge (by omega) (by omega)), fun _ => ⟨i, rfl, by omega, Or.inl rfl, i, rfl, by show i < 64; omega, ?_⟩⟩
    rw [c_cells h hu (by omega), hg i (by omega), nI_1]
    refine ⟨fun q => ih (i + 1) (by omega) (fun j hj => ?_), fun q => ?_⟩
    · by_cases e : j = i
      · subst e; exact q.symm
      · exact he j (by omega)
    · rw [dif_yes (i := i) (by omega) (fun z => q z.symm), if_pos rfl] at hK
      exact hK
theorem c_dif {nx : Nat} {A S : xs_T} {u : Nat} {g : Nat → Int64} {K : Int32 → xs_T → Prop} (h : CA nx A S) (hw : WF A) (hu : oW A u) (hg : ∀ i, i < xN A (u + 120) → xL S 36 i = g i) (hK : K (if dif (xN A (u + 120)) g (xL A (u + 120)) = true then 1 else 0) S) : v_X5_differsFrom u 36 S K := ⟨_, c_dif_loop h hw hu hg hK (xN A (u + 120)) 0 (by omega) (fun j hj => absurd hj (Nat.not_lt_zero j))⟩
/-! the reference's book -/
def tI (S : xs_T) (i : Nat) (f : Nat → Int32) : xs_T := (S.1, va_up S.2.1 i f, S.2.2)
theorem sI_tI (S : xs_T) (f : Nat → Int32) (j : Nat) (x : Int32) : sI (tI S 19 f) 19 j x = tI S 19 (va_up f j x) := by
  unfold sI tI
  show (S.1, va_up (va_up S.2.1 19 f) 19 (va_up (va_up S.2.1 19 f 19) j x), S.2.2) = _
  rw [bx_uu, va_up_self]
theorem sL_tL (S : xs_T) (f : Nat → Int64) (j : Nat) (x : Int64) : sL (tL S 20 f) 20 j x = tL S 20 (va_up f j x) := by
  unfold sL tL
  show (S.1, S.2.1, va_up (va_up S.2.2.1 20 f) 20 (va_up (va_up S.2.2.1 20 f 20) j x), S.2.2.2) = _
  rw [bx_uu, va_up_self]
theorem tL_id (S : xs_T) : tL S 20 (xL S 20) = S := by
  unfold tL
  have : va_up S.2.2.1 20 (xL S 20) = S.2.2.1 := by
    funext i
    by_cases e : i = 20
    · subst e; rw [va_up_self]; rfl
    · rw [va_up_ne _ _ e]
  rw [this]
theorem tI_id (S : xs_T) : tI S 19 (xI S 19) = S := by
  unfold tI
  have : va_up S.2.1 19 (xI S 19) = S.2.1 := by
    funext i
    by_cases e : i = 19
    · subst e; rw [va_up_self]; rfl
    · rw [va_up_ne _ _ e]
  rw [this]
theorem m_w90 {S : xs_T} {u k n : Nat} {g : Nat → Int64} {K : xs_T → Prop} (hu : u - 64 < 120) (hn : n ≤ 64) (hk : k < 20) (r2 : xI S 2 (u - 64) = nI n) (f18 : xF S 0 18 = nI k) (hg : ∀ i, i < n → xL S 21 i = g i)
    (hK : ∀ f, (∀ p, f p = pw (xL S 20) (64 * k) n g p) → K (sF (tL S 20 f) 0 18 (nI (k + 1)))) :
    ∀ (m i : Nat) (f : Nat → Int64), i + m = n → (∀ p, f p = pw (xL S 20) (64 * k) i g p) → v_X10_write_90 K (m + 1) (nI (u - 64)) (nI i) (tL S 20 f) := by
  have e18 : ∀ f, xF (tL S 20 f) 0 18 = nI k := fun f => f18
  have e2 : ∀ f, xI (tL S 20 f) 2 (u - 64) = nI n := fun f => r2
  intro m
  induction m with
  | zero =>
    intro i f hi hp
    rw [v_X10_write_90]
    refine ⟨u - 64, rfl, hu, ?_⟩
    rw [e2]
    have e : i = n := by omega
    subst e
    refine ⟨fun _ => ?_, fun q => absurd (nI_le (Nat.le_refl i) (by omega)) q⟩
    rintro _ rfl
    rw [e18, nI_1]
    exact hK f hp
  | succ m ih =>
    intro i f hi hp
    rw [v_X10_write_90]
    refine ⟨u - 64, rfl, hu, ?_⟩
    rw [e2]
    refine ⟨fun q => absurd q (nI_ge (by omega) (by omega)), fun _ => ⟨i, rfl, by omega, 64 * k + i, ?_, by omega, ?_⟩⟩
    · rw [e18]
      show (64 : Int32) * nI k + nI i = _
      rw [show (64 : Int32) = nI 64 from rfl, pk_mul, nI_add]
    rintro _ rfl
    rw [nI_1]
    have eg : xL (tL S 20 f) 21 i = g i := hg i (by omega)
    rw [sL_tL, eg]
    refine ih (i + 1) _ (by omega) (fun p => ?_)
    unfold pw at *
    by_cases e : p = 64 * k + i
    · subst e
      rw [va_up_self, if_pos (by omega), show 64 * k + i - 64 * k = i by omega]
    · rw [va_up_ne _ _ e, hp]
      by_cases e2 : 64 * k ≤ p ∧ p < 64 * k + i
      · rw [if_pos e2, if_pos (by omega)]
      · rw [if_neg e2, if_neg (by omega)]
theorem m_w78 {fr : Nat → Nat} {A S : xs_T} {u : Nat} {g : Nat → Int64} {K : xs_T → Prop} (h : MA fr A S) (hw : WF A) (hu : oW A u) (hg : ∀ i, i < xN A (u + 120) → xL S 21 i = g i) (hk : nA A 6 < 20) (hK : ∀ S', MA fr (fPut A u g) S' → cf0 S S' → K S') : v_X10_write_78 K (nI (u - 64)) S := by
  unfold v_X10_write_78
  have h0 := hw.1.1
  have hu2 := hu.2
  have ul := (hw.2.1 _ hu).2
  have f18 : xF S 0 18 = nI (nA A 6) := h.1.2.2.2.2.2.1
  refine ⟨nA A 6, f18, hk, ?_⟩
  rintro _ rfl
  have hid : sI S 19 (nA A 6) (nI (u - 64)) = tL (sI S 19 (nA A 6) (nI (u - 64))) 20 (xL (sI S 19 (nA A 6) (nI (u - 64))) 20) := (tL_id _).symm
  rw [hid]
  refine ⟨_, m_w90 (S := sI S 19 (nA A 6) (nI (u - 64))) (n := xN A (u + 120)) (by omega) ul hk (m_row h hu).2.1 f18 hg (fun f hf => ?_) (xN A (u + 120)) 0 _ (by omega) (fun p => (pw_0 _ _ _ p).symm)⟩
  refine hK _ ?_ ⟨rfl, rfl, fun i hi => ⟨?_, ?_, ?_⟩⟩
  · obtain ⟨c1, c2, c3, c4, c5, c6⟩ := h
    obtain ⟨d1, d2, d3, d4, d5, d6, d7⟩ := c1
    have N : ∀ i, i < 1000 → xN (fPut A u g) i = xN A i := fun i hi => by rw [fPut_N, if_neg (by omega)]
    refine ⟨⟨d1, d2, d3, d4, d5, rfl, d7⟩, c2, c3, fun j hj => ?_, ⟨fun v hv => ?_, fun v w hv hw2 => ?_, c5.2.2⟩, fun j hj => ?_⟩
    · have hj2 : j < nA A 1 := hj
      have := hw.1.2.1
      rw [N _ (by omega)]
      exact c4 j hj
    · have v2 : v < 64 + nA A 0 := hv.2
      rw [N _ (by omega), N _ (by omega)]
      obtain ⟨r1, r2, r3, r4, r5⟩ := c5.1 v hv
      refine ⟨r1, r2, r3, r4, fun i hi => ?_⟩
      rw [fPut_L, if_neg (by omega)]
      exact r5 i hi
    · have v2 : v < 64 + nA A 0 := hv.2
      rw [N _ (by omega)]
      exact c5.2.1 v w hv hw2
    · have hj2 : j < nA A 6 + 1 := hj
      show xI (sI S 19 (nA A 6) (nI (u - 64))) 19 j = _ ∧ ∀ i, _ → f (64 * j + i) = _
      rw [gII]
      by_cases e : j = nA A 6
      · subst e
        have en : xN (fPut A u g) (5000 + nA A 6) = u := by rw [fPut_N, if_pos rfl]
        rw [en, if_pos ⟨rfl, rfl⟩, N _ (by omega)]
        refine ⟨rfl, fun i hi => ?_⟩
        rw [hf, fPut_L, if_pos rfl]
        unfold pw
        rw [if_pos (by omega), show 64 * nA A 6 + i - 64 * nA A 6 = i by omega]
      · have en : xN (fPut A u g) (5000 + j) = xN A (5000 + j) := by rw [fPut_N, if_neg (by omega)]
        have o := (hw.2.2.2.2.2.1 j (by omega)).1
        have o2 := o.2
        have ol := (hw.2.1 _ o).2
        rw [en, if_neg (fun z => e z.2), N _ (by omega)]
        refine ⟨(c6 j (by omega)).1, fun i hi => ?_⟩
        rw [hf, fPut_L, if_neg (by omega)]
        unfold pw
        rw [if_neg (by omega)]
        exact (c6 j (by omega)).2 i hi
  · show va_up S.1 0 _ i = S.1 i
    rw [va_up_ne _ _ (by omega)]
  · show va_up S.2.1 19 _ i = S.2.1 i
    rw [va_up_ne _ _ (by omega)]
  · show va_up S.2.2.1 20 _ i = S.2.2.1 i
    rw [va_up_ne _ _ (by omega)]
theorem m_w40 {S : xs_T} {x : Int32} {K : xs_T → Prop} (hK : ∀ f, (∀ p, p + 64 < 1280 → f p = xL S 20 (p + 64)) → v_X10_write_78 K x (sF (tL S 20 f) 0 18 (xF S 0 18 - 1))) :
    ∀ (m i : Nat) (f : Nat → Int64), i + m = 1280 → 64 ≤ i → (∀ p, f p = if p + 64 < i then xL S 20 (p + 64) else xL S 20 p) → v_X10_write_40 K (m + 1) x (nI i) (tL S 20 f) := by
  intro m
  induction m with
  | zero =>
    intro i f hi h64 hf
    rw [v_X10_write_40]
    have e : i = 1280 := by omega
    subst e
    refine ⟨fun _ => ?_, fun q => absurd (nI_le (a := 1280) (b := 1280) (Nat.le_refl 1280) (by decide)) q⟩
    rintro _ rfl
    exact hK f (fun p hp => by rw [hf, if_pos hp])
  | succ m ih =>
    intro i f hi h64 hf
    rw [v_X10_write_40]
    refine ⟨fun q => absurd q (nI_ge (a := i) (b := 1280) (by omega) (by decide)), fun _ => ⟨i, rfl, by omega, i - 64, pk_sub (b := 64) h64, by omega, ?_⟩⟩
    rintro _ rfl
    rw [nI_1, sL_tL]
    have ex : xL (tL S 20 f) 20 i = xL S 20 i := by
      show f i = _
      rw [hf, if_neg (by omega)]
    rw [ex]
    refine ih (i + 1) _ (by omega) (by omega) (fun p => ?_)
    by_cases e : p = i - 64
    · subst e
      rw [va_up_self, if_pos (by omega), show i - 64 + 64 = i by omega]
    · rw [va_up_ne _ _ e, hf]
      by_cases e2 : p + 64 < i
      · rw [if_pos e2, if_pos (by omega)]
      · rw [if_neg e2, if_neg (by omega)]
theorem m_w11 {S : xs_T} {x : Int32} {K : xs_T → Prop} (hK : ∀ f, (∀ p, p + 1 < 20 → f p = xI S 19 (p + 1)) → ∃ n, v_X10_write_40 K n x 64 (tI S 19 f)) :
    ∀ (m i : Nat) (f : Nat → Int32), i + m = 20 → 1 ≤ i → (∀ p, f p = if p + 1 < i then xI S 19 (p + 1) else xI S 19 p) → v_X10_write_11 K (m + 1) x (nI i) (tI S 19 f) := by
  intro m
  induction m with
  | zero =>
    intro i f hi h1 hf
    rw [v_X10_write_11]
    have e : i = 20 := by omega
    subst e
    exact ⟨fun _ => hK f (fun p hp => by rw [hf, if_pos hp]), fun q => absurd (nI_le (a := 20) (b := 20) (Nat.le_refl 20) (by decide)) q⟩
  | succ m ih =>
    intro i f hi h1 hf
    rw [v_X10_write_11]
    refine ⟨fun q => absurd q (nI_ge (a := i) (b := 20) (by omega) (by decide)), fun _ => ⟨i, rfl, by omega, i - 1, pk_sub (b := 1) h1, by omega, ?_⟩⟩
    rintro _ rfl
    rw [nI_1, sI_tI]
    have ex : xI (tI S 19 f) 19 i = xI S 19 i := by
      show f i = _
      rw [hf, if_neg (by omega)]
    rw [ex]
    refine ih (i + 1) _ (by omega) (by omega) (fun p => ?_)
    by_cases e : p = i - 1
    · subst e
      rw [va_up_self, if_pos (by omega), show i - 1 + 1 = i by omega]
    · rw [va_up_ne _ _ e, hf]
      by_cases e2 : p + 1 < i
      · rw [if_pos e2, if_pos (by omega)]
      · rw [if_neg e2, if_neg (by omega)]
theorem MA.sh {fr : Nat → Nat} {A S : xs_T} {f1 : Nat → Int32} {f2 : Nat → Int64} (h : MA fr A S) (hw : WF A) (hk : nA A 6 = 20) (h1 : ∀ p, p + 1 < 20 → f1 p = xI S 19 (p + 1)) (h2 : ∀ p, p + 64 < 1280 → f2 p = xL S 20 (p + 64)) : MA fr (fSh9 A) (sF (tL (tI S 19 f1) 20 f2) 0 18 (nI 19)) := by
  obtain ⟨c1, c2, c3, c4, c5, c6⟩ := h
  obtain ⟨d1, d2, d3, d4, d5, d6, d7⟩ := c1
  have h0 := hw.1.1
  have N : ∀ i, i < 1000 → xN (fSh9 A) i = xN A i := fun i hi => by rw [fSh_N, if_neg (by omega)]
  refine ⟨⟨d1, d2, d3, d4, d5, rfl, d7⟩, c2, c3, fun j hj => ?_, ⟨fun v hv => ?_, fun v w hv hw2 => ?_, c5.2.2⟩, fun j hj => ?_⟩
  · have hj2 : j < nA A 1 := hj
    have := hw.1.2.1
    rw [N _ (by omega)]
    exact c4 j hj
  · have v2 : v < 64 + nA A 0 := hv.2
    rw [N _ (by omega), N _ (by omega)]
    obtain ⟨r1, r2, r3, r4, r5⟩ := c5.1 v hv
    refine ⟨r1, r2, r3, r4, fun i hi => ?_⟩
    rw [fSh_L, if_neg (by omega)]
    exact r5 i hi
  · have v2 : v < 64 + nA A 0 := hv.2
    rw [N _ (by omega)]
    exact c5.2.1 v w hv hw2
  · have hj2 : j < 19 := hj
    have en : xN (fSh9 A) (5000 + j) = xN A (5000 + (j + 1)) := by rw [fSh_N, if_pos (by omega)]; rfl
    have o := (hw.2.2.2.2.2.1 (j + 1) (by omega)).1
    have o2 := o.2
    have ol := (hw.2.1 _ o).2
    show f1 j = _ ∧ ∀ i, _ → f2 (64 * j + i) = _
    rw [en, N _ (by omega)]
    refine ⟨(h1 j (by omega)).trans (c6 (j + 1) (by omega)).1, fun i hi => ?_⟩
    rw [h2 _ (by omega), fSh_L, if_pos (by omega), show 64 * j + i + 64 = 64 * (j + 1) + i by omega]
    exact (c6 (j + 1) (by omega)).2 i hi
theorem m_write {fr : Nat → Nat} {A S : xs_T} {u : Nat} {g : Nat → Int64} {K : xs_T → Prop} (h : MA fr A S) (hw : WF A) (hu : oW A u) (hg : ∀ i, i < xN A (u + 120) → xL S 21 i = g i) (hK : ∀ S', MA fr (fWrite A u g) S' → cf0 S S' → K S') : v_X10_write (nI (u - 64)) S K := by
  unfold v_X10_write
  have hk := hw.1.2.2.2.2.1
  have h0 := hw.1.1
  have hu2 := hu.2
  have f18 : xF S 0 18 = nI (nA A 6) := h.1.2.2.2.2.2.1
  have i2 : nI (nA A 6) = 20 ↔ nA A 6 = 20 := nI_eq (b := 20) (by omega) (by decide)
  unfold fWrite at hK
  rw [f18, i2]
  refine ⟨fun q => ?_, fun q => ?_⟩
  · rw [if_neg q] at hK
    exact m_w78 h hw hu hg (by omega) hK
  · rw [if_pos q] at hK
    have key := m_w11 (S := S) (x := nI (u - 64)) (K := K) (fun f1 h1 => ?_) 19 1 (xI S 19) (by omega) (by omega) (fun p => ?_)
    · rw [tI_id] at key
      exact ⟨_, key⟩
    · have key2 := m_w40 (S := tI S 19 f1) (x := nI (u - 64)) (K := K) (fun f2 h2 => ?_) 1216 64 (xL S 20) (by omega) (by omega) (fun p => ?_)
      · have := tL_id (tI S 19 f1)
        have e : xL (tI S 19 f1) 20 = xL S 20 := rfl
        rw [e] at this
        rw [this] at key2
        exact ⟨_, key2⟩
      · have e18 : xF (tI S 19 f1) 0 18 - 1 = nI 19 := by
          show xF S 0 18 - 1 = _
          rw [f18, q]; rfl
        rw [e18]
        have hcf : cf0 S (sF (tL (tI S 19 f1) 20 f2) 0 18 (nI 19)) := by
          refine ⟨rfl, rfl, fun i hi => ⟨?_, ?_, ?_⟩⟩
          · show va_up S.1 0 _ i = S.1 i
            rw [va_up_ne _ _ (by omega)]
          · show va_up S.2.1 19 _ i = S.2.1 i
            rw [va_up_ne _ _ (by omega)]
          · show va_up S.2.2.1 20 _ i = S.2.2.1 i
            rw [va_up_ne _ _ (by omega)]
        refine m_w78 (h.sh hw q h1 h2) (hw.sh q) hu (fun i hi => ?_) (by show 19 < 20; decide) (fun S' hM hc => hK S' hM (hcf.trans hc))
        rw [fSh_N, if_neg (by omega)] at hi
        exact hg i hi
      · by_cases e : p + 64 < 64
        · omega
        · rw [if_neg e]; rfl
    · by_cases e : p + 1 < 1
      · omega
      · rw [if_neg e]
