/-! run -/
theorem CA.f25 {nx : Nat} {A S : xs_T} {v : Int32} (h : CA nx A S) : CA nx (sF A 0 25 v) (sF S 32 6 v) := by
  obtain ⟨⟨d1, d2, d3, d4⟩, c2, c3, c4, c5, c6, c7⟩ := h
  exact ⟨⟨d1, d2, rfl, d4⟩, c2, c3, c4.F (by decide), c5.F (by decide), c6, c7⟩
theorem CA.f26 {nx : Nat} {A S : xs_T} {v : Int32} (h : CA nx A S) : CA nx (sF A 0 26 v) (sF S 32 7 v) := by
  obtain ⟨⟨d1, d2, d3, d4, d5⟩, c2, c3, c4, c5, c6, c7⟩ := h
  exact ⟨⟨d1, d2, d3, rfl, d5⟩, c2, c3, c4.F (by decide), c5.F (by decide), c6, c7⟩
theorem CA.f27 {nx : Nat} {A S : xs_T} {v : Int32} (h : CA nx A S) : CA nx (sF A 0 27 v) (sF S 32 8 v) := by
  obtain ⟨⟨d1, d2, d3, d4, d5, d6⟩, c2, c3, c4, c5, c6, c7⟩ := h
  exact ⟨⟨d1, d2, d3, d4, rfl, d6⟩, c2, c3, c4.F (by decide), c5.F (by decide), c6, c7⟩
theorem MA.f25 {fr : Nat → Nat} {A S : xs_T} {v : Int32} (h : MA fr A S) : MA fr (sF A 0 25 v) (sF S 0 25 v) := by
  obtain ⟨⟨d1, d2, d3, d4, d5, d6, d7, d8, d9, d10, d11⟩, c⟩ := h
  exact ⟨⟨d1, d2, d3, d4, d5, d6, d7, d8, rfl, d10, d11⟩, c⟩
theorem MA.f26 {fr : Nat → Nat} {A S : xs_T} {v : Int32} (h : MA fr A S) : MA fr (sF A 0 26 v) (sF S 0 26 v) := by
  obtain ⟨⟨d1, d2, d3, d4, d5, d6, d7, d8, d9, d10, d11⟩, c⟩ := h
  exact ⟨⟨d1, d2, d3, d4, d5, d6, d7, d8, d9, rfl, d11⟩, c⟩
theorem MA.f27 {fr : Nat → Nat} {A S : xs_T} {v : Int32} (h : MA fr A S) : MA fr (sF A 0 27 v) (sF S 0 27 v) := by
  obtain ⟨⟨d1, d2, d3, d4, d5, d6, d7, d8, d9, d10, d11⟩, c⟩ := h
  exact ⟨⟨d1, d2, d3, d4, d5, d6, d7, d8, d9, d10, rfl⟩, c⟩
theorem MA.s25 {fr : Nat → Nat} {A S : xs_T} (h : MA fr A S) : MA fr A (sF S 0 25 (xF S 0 25)) := by
  obtain ⟨⟨d1, d2, d3, d4, d5, d6, d7, d8, d9, d10, d11⟩, c⟩ := h
  exact ⟨⟨d1, d2, d3, d4, d5, d6, d7, d8, d9, d10, d11⟩, c⟩
theorem CA.g46 {nx : Nat} {A S : xs_T} {p : Nat} {v : Int32} (h : CA nx A S) : CA nx (sI A 46 p v) (sI S 46 p v) := by
  obtain ⟨c1, c2, c3, c4, c5, c6, c7⟩ := h
  refine ⟨c1, fun k hk => ?_, c3, c4, c5, c6, c7⟩
  obtain ⟨d1, d2, d3, d4, d5⟩ := c2 k hk
  refine ⟨d1, d2, d3, d4, ?_⟩
  rw [gII, gII, d5]
theorem MA.g46 {fr : Nat → Nat} {A S : xs_T} {p : Nat} {v : Int32} (h : MA fr A S) : MA fr (sI A 46 p v) (sI S 17 p v) := by
  obtain ⟨c1, c2, c⟩ := h
  refine ⟨c1, fun k hk => ?_, c⟩
  obtain ⟨d1, d2, d3, d4, d5⟩ := c2 k hk
  refine ⟨d1, d2, d3, d4, ?_⟩
  rw [gII, gII, d5]
  simp
def fNext (p : Nat) (A : xs_T) : Nat × xs_T := if xI A 42 p = 13 then (p + 1 + (xI A 45 p).toInt.toNat, A) else if xI A 42 p = 14 then (if xI A 45 p ≤ xI A 46 p then (p + 1, sI A 46 p 0) else (p - (xI A 44 p).toInt.toNat, sI A 46 p (xI A 46 p + 1))) else (p + 1, A)
def fMt : Nat → Nat → Int32 → xs_T → Option Nat
  | 0, _, _, _ => none
  | k + 1, q, r, A => if q < nA A 4 ∧ xI A 42 q = 13 then (if xI A 43 q = 0 ∨ xI A 43 q = r then some (q + 1) else fMt k (q + (xI A 45 q).toInt.toNat + 1) r A) else none
theorem ord13 {A : xs_T} {p : Nat} (hw : WF A) (hp : p < nA A 4) (h : xI A 42 p = 13) : ∃ c : Nat, c ≤ 60 ∧ xI A 45 p = nI c := by
  have ho := hw.2.2.2.2.2.2 p hp
  unfold ordOK at ho
  rw [h, ti_13] at ho
  exact i_nb (n := 60) (by omega) (by decide)
theorem ord14 {A : xs_T} {p : Nat} (hw : WF A) (hp : p < nA A 4) (h : xI A 42 p = 14) : ∃ b : Nat, b ≤ 60 ∧ xI A 44 p = nI b := by
  have ho := hw.2.2.2.2.2.2 p hp
  unfold ordOK at ho
  rw [h, ti_14] at ho
  exact i_nb (n := 60) (by omega) (by decide)
theorem next_le {A : xs_T} {p : Nat} (hw : WF A) (hp : p < nA A 4) : (fNext p A).1 ≤ 121 := by
  have h4 := hw.1.2.2.2.1
  unfold fNext
  split
  · next e =>
    obtain ⟨c, hc, ec⟩ := ord13 hw hp e
    show p + 1 + (xI A 45 p).toInt.toNat ≤ 121
    rw [ec, sp_t (by omega)]
    omega
  · split
    · split
      · show p + 1 ≤ 121; omega
      · show p - _ ≤ 121; omega
    · show p + 1 ≤ 121; omega
theorem mt_le {A : xs_T} {r : Int32} : ∀ {k q t : Nat}, fMt k q r A = some t → t ≤ nA A 4
  | 0, q, t, h => by cases h
  | k + 1, q, t, h => by
    unfold fMt at h
    split at h
    · next e =>
      split at h
      · have := Option.some.inj h
        omega
      · exact mt_le h
    · cases h
theorem nI_m1 {n : Nat} (h : n < 2 ^ 31) : ¬ nI n = -1 := fun z => by
  have := congrArg Int32.toInt z
  rw [nI_toInt h, ti_m1] at this
  omega
theorem c_tune {nx : Nat} {A S : xs_T} (h : CA nx A S) {k : Nat} (hk : k < 60) : xI S 42 k = xI A 42 k ∧ xI S 43 k = xI A 43 k ∧ xI S 44 k = xI A 44 k ∧ xI S 45 k = xI A 45 k ∧ xI S 46 k = xI A 46 k := h.2.1 k hk
theorem m_tune {fr : Nat → Nat} {A S : xs_T} (h : MA fr A S) {k : Nat} (hk : k < 60) : xI S 13 k = xI A 42 k ∧ xI S 14 k = xI A 43 k ∧ xI S 15 k = xI A 44 k ∧ xI S 16 k = xI A 45 k ∧ xI S 17 k = xI A 46 k := h.2.1 k hk
theorem c_follow {nx : Nat} {A S : xs_T} {p : Nat} {R : Int32 → xs_T → Prop} (h : CA nx A S) (hw : WF A) (hp : p < nA A 4) (hR : ∀ S', CA nx (fNext p A).2 S' → mfr S S' → R (nI (fNext p A).1) S') : v_X8_following (nI p) S R := by
  have h4 := hw.1.2.2.2.1
  have hp60 : p < 60 := by omega
  obtain ⟨t1, t2, t3, t4, t5⟩ := c_tune h hp60
  unfold v_X8_following
  unfold fNext at hR
  refine ⟨p, rfl, hp60, ?_⟩
  rw [t1]
  refine ⟨fun q => ⟨p, rfl, hp60, ?_⟩, fun q => ⟨p, rfl, hp60, ?_⟩⟩
  · rw [if_neg q] at hR
    rw [t1]
    refine ⟨fun q2 => ⟨p, rfl, hp60, p, rfl, hp60, ?_⟩, fun q2 => ?_⟩
    · rw [if_pos q2] at hR
      rw [t4, t5]
      obtain ⟨b, hb, eb⟩ := ord14 hw hp q2
      refine ⟨fun q3 => ⟨p, rfl, hp60, ?_⟩, fun q3 => ⟨p, rfl, hp60, p, rfl, hp60, ?_⟩⟩
      · rintro _ rfl
        rw [if_pos q3] at hR
        rw [nI_1]
        exact hR _ h.g46 (mfr.I (by decide))
      · rintro _ rfl
        rw [if_neg q3, eb, sp_t (by omega)] at hR
        refine ⟨p, rfl, hp60, ?_⟩
        have e44 : ∀ v, xI (sI S 46 p v) 44 p = nI b := fun v => t3.trans eb
        rw [e44, t5]
        unfold v_J9_max_7cf53
        have hd : (nI p - nI b).toInt = (p : Int) - b := pk_sub_toInt (by omega) (by omega)
        refine ⟨fun z => ?_, fun z => ?_⟩
        · rw [Int32.lt_iff_toInt_lt, hd, ti_0] at z
          rw [pk_sub (by omega)]
          exact hR _ h.g46 (mfr.I (by decide))
        · rw [Int32.lt_iff_toInt_lt, hd, ti_0] at z
          have e0 : p - b = 0 := by omega
          rw [e0] at hR
          exact hR _ h.g46 (mfr.I (by decide))
    · rw [if_neg q2] at hR
      rw [nI_1]
      exact hR S h mfr.refl
  · rw [if_pos q] at hR
    obtain ⟨c, hc, ec⟩ := ord13 hw hp q
    rw [ec, sp_t (by omega)] at hR
    rw [t4, ec, nI_1, nI_add]
    exact hR S h mfr.refl
theorem m_again {fr : Nat → Nat} {A S : xs_T} {p : Nat} {R : Int32 → xs_T → Prop} (h : MA fr A S) (hw : WF A) (hp : p < nA A 4) (e14 : xI A 42 p = 14) (hR : ∀ S', MA fr (fNext p A).2 S' → cfr S S' → R (nI (fNext p A).1) S') : v_X10_again (nI p) S R := by
  have h4 := hw.1.2.2.2.1
  have hp60 : p < 60 := by omega
  obtain ⟨t1, t2, t3, t4, t5⟩ := m_tune h hp60
  unfold v_X10_again
  unfold fNext at hR
  have n13 : ¬ (14 : Int32) = 13 := by decide
  rw [e14, if_neg n13, if_pos rfl] at hR
  obtain ⟨b, hb, eb⟩ := ord14 hw hp e14
  refine ⟨p, rfl, hp60, p, rfl, hp60, ?_⟩
  rw [t4, t5]
  refine ⟨fun q3 => ⟨p, rfl, hp60, ?_⟩, fun q3 => ⟨p, rfl, hp60, p, rfl, hp60, ?_⟩⟩
  · rintro _ rfl
    rw [if_pos q3] at hR
    rw [nI_1]
    exact hR _ h.g46 (cfr.I (by decide))
  · rintro _ rfl
    rw [if_neg q3, eb, sp_t (by omega)] at hR
    refine ⟨p, rfl, hp60, ?_⟩
    have e44 : ∀ v, xI (sI S 17 p v) 15 p = nI b := fun v => t3.trans eb
    rw [e44, t5]
    refine ⟨fun z => ⟨p, rfl, hp60, ?_⟩, fun z => ?_⟩
    · rw [nI_leI (by omega) (by omega)] at z
      rw [e44, pk_sub (by omega)]
      exact hR _ h.g46 (cfr.I (by decide))
    · rw [nI_leI (by omega) (by omega)] at z
      have e0 : p - b = 0 := by omega
      rw [e0] at hR
      exact hR _ h.g46 (cfr.I (by decide))
def mtV (q : Option Nat) : Int32 := match q with
  | none => -1
  | some t => nI t
theorem c_meet_loop {nx : Nat} {A S : xs_T} {r : Int32} {R : Int32 → xs_T → Prop} (h : CA nx A S) (hw : WF A) :
    ∀ (k q : Nat), k ≤ 60 → q ≤ 200 → R (mtV (fMt k q r A)) S → v_X8_meeting_7 R (k + 1) r (nI q) (nI (60 - k)) S := by
  have h4 := hw.1.2.2.2.1
  have d6 : xF S 34 5 = nI (nA A 4) := h.1.2.2.2.2.2.1
  intro k
  induction k with
  | zero =>
    intro q hk hq hR
    rw [v_X8_meeting_7]
    exact ⟨fun _ => hR, fun z => absurd (nI_le (a := 60) (b := 60 - 0) (by omega) (by omega)) z⟩
  | succ k ih =>
    intro q hk hq hR
    rw [v_X8_meeting_7]
    refine ⟨fun z => absurd z (nI_ge (a := 60 - (k + 1)) (b := 60) (by omega) (by decide)), fun _ => ?_⟩
    unfold v_X8_isWhen
    unfold fMt at hR
    have n10 : ¬ (1 : Int32) = 0 := by decide
    refine ⟨fun z => absurd z (nI_pos (by omega)), fun _ => ?_⟩
    rw [d6, nI_leI (by omega) (by omega)]
    refine ⟨fun z => ⟨fun _ => ?_, fun y => absurd rfl y⟩, fun z => ⟨q, rfl, by omega, ?_⟩⟩
    · rw [if_neg (by omega)] at hR; exact hR
    obtain ⟨t1, t2, t3, t4, t5⟩ := c_tune h (k := q) (by omega)
    rw [t1]
    refine ⟨fun e => ⟨fun _ => ?_, fun y => absurd rfl y⟩, fun e => ⟨fun y => absurd y n10, fun _ => ⟨q, rfl, by omega, ?_⟩⟩⟩
    · rw [if_neg (fun y => e y.2)] at hR; exact hR
    rw [if_pos ⟨by omega, e⟩] at hR
    rw [t2]
    refine ⟨fun e2 => ?_, fun e2 => ⟨q, rfl, by omega, ?_⟩⟩
    · rw [if_pos (Or.inl e2)] at hR
      rw [nI_1]; exact hR
    rw [t2]
    refine ⟨fun e3 => ⟨q, rfl, by omega, ?_⟩, fun e3 => ?_⟩
    · rw [if_neg (fun y => by rcases y with y | y; exact e2 y; exact e3 y)] at hR
      obtain ⟨c, hc, ec⟩ := ord13 hw (by omega) e
      rw [ec, sp_t (by omega)] at hR
      rw [t4, ec, nI_1, nI_add, nI_1, show 60 - (k + 1) + 1 = 60 - k by omega]
      exact ih (q + (c + 1)) (by omega) (by omega) hR
    · rw [if_pos (Or.inr e3)] at hR
      rw [nI_1]; exact hR
theorem c_meet {nx : Nat} {A S : xs_T} {p : Nat} {r : Int32} {R : Int32 → xs_T → Prop} (h : CA nx A S) (hw : WF A) (hp : p ≤ 60) (hR : R (mtV (fMt 60 (p + 1) r A)) S) : v_X8_meeting (nI p) r S R := by
  unfold v_X8_meeting
  rw [nI_1]
  exact ⟨_, c_meet_loop h hw 60 (p + 1) (by omega) (by omega) hR⟩
theorem m_behind_loop {fr : Nat → Nat} {A S : xs_T} {r : Int32} {R : Int32 → xs_T → Prop} (h : MA fr A S) (hw : WF A) :
    ∀ (k q : Nat), 61 ≤ q + k → q ≤ 200 → R (mtV (fMt k q r A)) S → v_X10_behind_4 R (k + 1) r (nI q) S := by
  have h4 := hw.1.2.2.2.1
  have d5 : xF S 0 12 = nI (nA A 4) := h.1.2.2.2.2.1
  intro k
  induction k with
  | zero =>
    intro q hk hq hR
    rw [v_X10_behind_4]
    unfold v_X10_behind_56
    rw [d5, nI_leI (by omega) (by omega)]
    exact ⟨fun _ => ⟨fun _ => hR, fun z => absurd (show nA A 4 ≤ q by omega) z⟩, fun z => absurd (show nA A 4 ≤ q by omega) z⟩
  | succ k ih =>
    intro q hk hq hR
    rw [v_X10_behind_4]
    unfold v_X10_behind_56
    unfold fMt at hR
    rw [d5, nI_leI (by omega) (by omega)]
    refine ⟨fun z => ⟨fun _ => ?_, fun y => absurd z y⟩, fun z => ⟨q, rfl, by omega, ?_⟩⟩
    · rw [if_neg (by omega)] at hR; exact hR
    obtain ⟨t1, t2, t3, t4, t5⟩ := m_tune h (k := q) (by omega)
    rw [t1]
    refine ⟨fun e => ⟨fun y => absurd y z, fun _ => ⟨q, rfl, by omega, ?_⟩⟩, fun e => ⟨q, rfl, by omega, ?_⟩⟩
    · rw [t1]
      rw [if_neg (fun y => e y.2)] at hR
      exact ⟨fun _ => hR, fun y => absurd y e⟩
    rw [if_pos ⟨by omega, e⟩] at hR
    rw [t2]
    have yes : (xI A 43 q = 0 ∨ xI A 43 q = r) → (nA A 4 ≤ q → R (-1) S) ∧ (¬ nA A 4 ≤ q → ∃ j_19, nI q = nI j_19 ∧ j_19 < 60 ∧ (¬ xI S 13 j_19 = 13 → R (-1) S) ∧ (xI S 13 j_19 = 13 → R (nI q + 1) S)) := fun y => by
      rw [if_pos y] at hR
      refine ⟨fun x => absurd x z, fun _ => ⟨q, rfl, by omega, ?_⟩⟩
      rw [t1, nI_1]
      exact ⟨fun x => absurd e x, fun _ => hR⟩
    refine ⟨fun e2 => yes (Or.inl e2), fun e2 => ⟨q, rfl, by omega, ?_⟩⟩
    rw [t2]
    refine ⟨fun e3 => yes (Or.inr e3), fun e3 => ⟨q, rfl, by omega, ?_⟩⟩
    rw [if_neg (fun y => by rcases y with y | y; exact e2 y; exact e3 y)] at hR
    obtain ⟨c, hc, ec⟩ := ord13 hw (by omega) e
    rw [ec, sp_t (by omega)] at hR
    rw [t4, ec, nI_add, nI_1]
    exact ih (q + c + 1) (by omega) (by omega) hR
theorem m_behind {fr : Nat → Nat} {A S : xs_T} {p : Nat} {r : Int32} {R : Int32 → xs_T → Prop} (h : MA fr A S) (hw : WF A) (hp : p ≤ 60) (hR : R (mtV (fMt 60 (p + 1) r A)) S) : v_X10_behind (nI p) r S R := by
  unfold v_X10_behind
  rw [nI_1]
  exact ⟨_, m_behind_loop h hw 60 (p + 1) (by omega) (by omega) hR⟩
/-! what begin leaves of the tune -/
theorem beg_i {A : xs_T} {x1 x2 x3 x4 : Int32} (hw : WF A) : nA (fBeg x1 x2 x3 x4 A).2 7 = nA A 7 + 1 ∧ nA (fBeg x1 x2 x3 x4 A).2 4 = nA A 4 ∧ xF (fBeg x1 x2 x3 x4 A).2 0 26 = xF A 0 26 ∧ (∀ i, 42 ≤ i → xI (fBeg x1 x2 x3 x4 A).2 i = xI A i) ∧ rOK (fBeg x1 x2 x3 x4 A).1 := by
  have h0 : nA (fBg A) 0 ≤ 120 := hw.1.1
  have hg : gd (fBg A) (fDo x1 x2 x3 x4 (fBg A)) := gd_doN h0 _ _ _ _
  obtain ⟨g1, ⟨g2, -⟩, g3, g4, g5, -⟩ := hg
  unfold fBeg
  have hwr : ∀ (B : xs_T) (u : Nat) (g : Nat → Int64), nA (fWrite B u g) 7 = nA B 7 ∧ nA (fWrite B u g) 4 = nA B 4 ∧ xF (fWrite B u g) = xF B ∧ xI (fWrite B u g) = xI B := fun B u g => by
    unfold fWrite
    split
    · exact ⟨rfl, rfl, rfl, rfl⟩
    · exact ⟨rfl, rfl, rfl, rfl⟩
  have hbk : ∀ (q : Option Nat) (A1 B : xs_T), nA (fBook q A1 B) 7 = nA B 7 ∧ nA (fBook q A1 B) 4 = nA B 4 ∧ xF (fBook q A1 B) = xF B ∧ xI (fBook q A1 B) = xI B := fun q A1 B => by
    unfold fBook
    split
    · exact ⟨rfl, rfl, rfl, rfl⟩
    · split
      · exact hwr _ _ _
      · exact ⟨rfl, rfl, rfl, rfl⟩
  have hrf : ∀ (r : Int32) (B : xs_T), nA (fRef r B) 7 = nA B 7 ∧ nA (fRef r B) 4 = nA B 4 ∧ xF (fRef r B) 0 26 = xF B 0 26 ∧ xI (fRef r B) = xI B := fun r B => by
    unfold fRef
    split
    · exact ⟨rfl, rfl, rfl, rfl⟩
    · exact ⟨rfl, rfl, rfl, rfl⟩
  refine ⟨?_, ?_, ?_, fun i hi => ?_, g1⟩
  · show nA (fRef _ _) 7 = _
    rw [(hrf _ _).1, (hbk _ _ _).1, g3]; rfl
  · show nA (fRef _ _) 4 = _
    rw [(hrf _ _).2.1, (hbk _ _ _).2.1, g4]; rfl
  · show xF (fRef _ _) 0 26 = _
    rw [(hrf _ _).2.2.1, (hbk _ _ _).2.2.1, g2]; rfl
  · show xI (fRef _ _) i = _
    rw [(hrf _ _).2.2.2, (hbk _ _ _).2.2.2, g5 i hi]; rfl
theorem beg_13 {A : xs_T} {x1 x2 x3 x4 : Int32} (h : x1 = 13 ∨ x1 = 14) : fBeg x1 x2 x3 x4 A = (0, fBg A) := by
  have e : fDo x1 x2 x3 x4 (fBg A) = (0, fBg A) := by
    unfold fDo
    rcases h with rfl | rfl
    · rw [ti_13]; rfl
    · rw [ti_14]; rfl
  have e2 : fRisk x1 x2 x3 (fBg A) = none := by
    unfold fRisk
    rcases h with rfl | rfl
    · rw [ti_13, if_neg (by decide), if_neg (by decide)]
    · rw [ti_14, if_neg (by decide), if_neg (by decide)]
  unfold fBeg
  rw [e, e2]
  rfl
