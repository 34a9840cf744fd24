theorem m_open69 {fr : Nat → Nat} {A S0 : xs_T} {u n : Nat} {a2 a3 a5 : Int32} {K : Int32 → xs_T → Prop} (h : MA fr A S0) (hw : WF A) (hu : oW A u) (hn : n = xN A (u + 120))
    (hK : ∀ S', mw S0 S' → (∀ j, j < n → xL S' 22 j = xL A (u + 120) j) → xL S' 5 = xL S0 5 → ∃ n', v_X10_open_108 K n' a2 a3 (nI (u - 64)) a5 (nI n) a5 S') :
    ∀ (m i : Nat) (S : xs_T), i + m = n → mw S0 S → (∀ j, j < i → xL S 22 j = xL A (u + 120) j) → xL S 5 = xL S0 5 → v_X10_open_69 K (m + 1) a2 a3 (nI (u - 64)) a5 (nI n) (nI i) S := by
  have hb := (hw.2.1 u hu).2
  have h0 := hw.1.1
  have hc := hw.1.2.2.1
  have hlt := hu.2
  obtain ⟨r1, r2, r3, r4, r5⟩ := m_row h hu
  intro m
  induction m with
  | zero =>
    intro i S hi hm h22 h5
    rw [v_X10_open_69]
    have e : i = n := by omega
    subst e
    exact ⟨fun _ => hK S hm h22 h5, fun q => absurd (nI_le (Nat.le_refl i) (by omega)) q⟩
  | succ m ih =>
    intro i S hi hm h22 h5
    rw [v_X10_open_69]
    refine ⟨fun q => absurd q (nI_ge (by omega) (by omega)), fun _ => ⟨u - 64, rfl, by omega, fr u + i, by rw [hm.2.2.1, r3, nI_add], by omega, i, rfl, by omega, ?_⟩⟩
    rintro _ rfl
    rw [nI_1]
    refine ih (i + 1) _ (by omega) hm.L22 (fun j hj => ?_) h5
    rw [gLL]
    by_cases e : j = i
    · subst e
      rw [if_pos ⟨rfl, rfl⟩, h5, r5 j (by omega)]
    · rw [if_neg (fun z => e z.2)]
      exact h22 j (by omega)
theorem m_open108 {fr : Nat → Nat} {A S0 : xs_T} {u m n : Nat} {g : Nat → Int64} {K : Int32 → xs_T → Prop} (h : MA fr A S0) (hw : WF A) (hu : oW A u) (hmn : m + n ≤ xN A (u + 120)) (hg : ∀ t, g t = if t < n then 0 else xL A (u + 120) (m + t - n)) (hK : MK S0 K (0, fW A u m (xN A (u + 120) - m) g)) :
    ∀ (d i : Nat) (S : xs_T), m + i + d = xN A (u + 120) → mw S0 S → (∀ j, j < xN A (u + 120) → xL S 22 j = xL A (u + 120) j) → (∀ q, xL S 5 q = pw (xL S0 5) (fr u + m) i g q) → v_X10_open_108 K (d + 1) (nI n) 0 (nI (u - 64)) (nI m) (nI (xN A (u + 120))) (nI (m + i)) S := by
  have hb := (hw.2.1 u hu).2
  have h0 := hw.1.1
  have hc := hw.1.2.2.1
  have hlt := hu.2
  obtain ⟨r1, r2, r3, r4, r5⟩ := m_row h hu
  intro d
  induction d with
  | zero =>
    intro i S hi hm h22 h5
    rw [v_X10_open_108]
    have e : xN A (u + 120) - m = i := by omega
    rw [e] at hK
    exact ⟨fun _ => hK fr S (h.pool hw hu hm (by omega) h5) hm.1, fun q => absurd (nI_le (by omega) (by omega)) q⟩
  | succ d ih =>
    intro i S hi hm h22 h5
    rw [v_X10_open_108]
    have ej : xI S 3 (u - 64) + nI (m + i) = nI (fr u + (m + i)) := by rw [hm.2.2.1, r3, nI_add]
    have es : (nI (m + i) - nI n).toInt = ((m + i : Nat) : Int) - n := pk_sub_toInt (by omega) (by omega)
    have step : ∀ x, x = g i → v_X10_open_108 K (d + 1) (nI n) 0 (nI (u - 64)) (nI m) (nI (xN A (u + 120))) (nI (m + i) + 1) (sL S 5 (fr u + (m + i)) x) := fun x hx => by
      rw [nI_1, Nat.add_assoc m i 1]
      exact ih (i + 1) _ (by omega) hm.L5 h22 (pw_1 h5 (by omega) hx)
    refine ⟨fun q => absurd q (nI_ge (by omega) (by omega)), fun _ => ⟨fun _ => ⟨fun _ => ⟨fun q => ⟨u - 64, rfl, by omega, fr u + (m + i), ej, by omega, ?_⟩, fun q => ⟨u - 64, rfl, by omega, m + i - n, ?_, by omega, fr u + (m + i), ej, by omega, ?_⟩⟩, fun z => absurd rfl z⟩, fun z => absurd rfl z⟩⟩
    · rintro _ rfl
      rw [Int32.lt_iff_toInt_lt, es, nI_toInt (by omega)] at q
      exact step 0 (by rw [hg, if_pos (by omega)])
    · rw [Int32.lt_iff_toInt_lt, es, nI_toInt (by omega)] at q
      rw [pk_sub (by omega)]
    · rintro _ rfl
      rw [Int32.lt_iff_toInt_lt, es, nI_toInt (by omega)] at q
      exact step _ (by rw [hg, if_neg (by omega), h22 _ (by omega)])
theorem m_shut108 {fr : Nat → Nat} {A S0 : xs_T} {u m n : Nat} {g : Nat → Int64} {K : Int32 → xs_T → Prop} (h : MA fr A S0) (hw : WF A) (hu : oW A u) (hmn : m + n ≤ xN A (u + 120)) (hg : ∀ t, g t = if m + t + n < xN A (u + 120) then xL A (u + 120) (m + t + n) else 0) (hK : MK S0 K (0, fW A u m (xN A (u + 120) - m) g)) :
    ∀ (d i : Nat) (S : xs_T), m + i + d = xN A (u + 120) → mw S0 S → (∀ j, j < xN A (u + 120) → xL S 22 j = xL A (u + 120) j) → (∀ q, xL S 5 q = pw (xL S0 5) (fr u + m) i g q) → v_X10_open_108 K (d + 1) (nI n) 1 (nI (u - 64)) (nI m) (nI (xN A (u + 120))) (nI (m + i)) S := by
  have hb := (hw.2.1 u hu).2
  have h0 := hw.1.1
  have hc := hw.1.2.2.1
  have hlt := hu.2
  have n10 : ¬ (1 : Int32) = 0 := by decide
  obtain ⟨r1, r2, r3, r4, r5⟩ := m_row h hu
  intro d
  induction d with
  | zero =>
    intro i S hi hm h22 h5
    rw [v_X10_open_108]
    have e : xN A (u + 120) - m = i := by omega
    rw [e] at hK
    exact ⟨fun _ => hK fr S (h.pool hw hu hm (by omega) h5) hm.1, fun q => absurd (nI_le (by omega) (by omega)) q⟩
  | succ d ih =>
    intro i S hi hm h22 h5
    rw [v_X10_open_108]
    have ej : xI S 3 (u - 64) + nI (m + i) = nI (fr u + (m + i)) := by rw [hm.2.2.1, r3, nI_add]
    have step : ∀ x, x = g i → v_X10_open_108 K (d + 1) (nI n) 1 (nI (u - 64)) (nI m) (nI (xN A (u + 120))) (nI (m + i) + 1) (sL S 5 (fr u + (m + i)) x) := fun x hx => by
      rw [nI_1, Nat.add_assoc m i 1]
      exact ih (i + 1) _ (by omega) hm.L5 h22 (pw_1 h5 (by omega) hx)
    refine ⟨fun q => absurd q (nI_ge (by omega) (by omega)), fun _ => ⟨fun z => absurd z n10, fun _ => ⟨fun z => absurd z n10, fun _ => ⟨fun q => ⟨u - 64, rfl, by omega, fr u + (m + i), ej, by omega, ?_⟩, fun q => ⟨u - 64, rfl, by omega, m + i + n, nI_add _ _, ?_, fr u + (m + i), ej, by omega, ?_⟩⟩⟩⟩⟩
    · rintro _ rfl
      rw [nI_add, nI_leI (by omega) (by omega)] at q
      exact step 0 (by rw [hg, if_neg (by omega)])
    · rw [nI_add, nI_leI (by omega) (by omega)] at q
      omega
    · rintro _ rfl
      rw [nI_add, nI_leI (by omega) (by omega)] at q
      exact step _ (by rw [hg, if_pos (by omega), h22 _ (by omega)])
theorem m_opn {fr : Nat → Nat} {A S : xs_T} {a : Nat} {c t : Int32} {f : Nat → xs_T} {K : Int32 → xs_T → Prop} (h : MA fr A S) (hw : WF A) (ha : a < 10) (hK : MK S K (onRow A a (fun u => if plc (xI A 38 a) c (xN A (u + 120)) then (0, f u) else (3, A))))
    (h1 : ∀ u m n, oW A u → xI A 38 a = nI m → c = nI n → m + n ≤ xN A (u + 120) → MK S K (0, f u) → ∀ S', mw S S' → (∀ j, j < xN A (u + 120) → xL S' 22 j = xL A (u + 120) j) → xL S' 5 = xL S 5 → ∃ n', v_X10_open_108 K n' (nI n) t (nI (u - 64)) (nI m) (nI (xN A (u + 120))) (nI m) S') : v_X10_open (nI a) c t S K := by
  unfold v_X10_open
  refine ⟨a, rfl, ha, m_onRow h hw ha hK (fun z => ⟨fun q => absurd q (by decide), fun _ => z⟩) (fun u hu hlt hr hK2 => ⟨fun _ => ⟨a, rfl, ha, u - 64, rfl, by omega, ?_⟩, fun q => absurd (nI_pos' (by omega)) q⟩)⟩
  replace hK2 : MK S K (if plc (xI A 38 a) c (xN A (u + 120)) then (0, f u) else (3, A)) := hK2
  have hb := (hw.2.1 u hu).2
  obtain ⟨r1, r2, r3, r4, r5⟩ := m_row h hu
  rw [m_mark h ha, r2]
  have t1 : (nI (xN A (u + 120))).toInt64.toInt = xN A (u + 120) := by rw [l_ti, nI_toInt (by omega)]
  have no : ¬ plc (xI A 38 a) c (xN A (u + 120)) → K 3 S := fun z => by
    rw [if_neg z] at hK2
    exact hK2 fr S h cfr.refl
  simp only [Int32.lt_iff_toInt_lt, Int64.le_iff_toInt_le, l_add, t1, ti_0]
  refine ⟨fun q => no (by omega), fun q => ⟨fun q2 => no (by omega), fun q2 => ⟨fun q3 => ?_, fun q3 => no (by omega)⟩⟩⟩
  have hp : plc (xI A 38 a) c (xN A (u + 120)) := by omega
  rw [if_pos hp] at hK2
  obtain ⟨m, n, e1, rfl, e3⟩ := plc_nat hp hb
  rw [e1]
  exact ⟨_, m_open69 h hw hu rfl (h1 u m n hu e1 rfl e3 hK2) (xN A (u + 120)) 0 S (by omega) mw.refl (fun j hj => absurd hj (Nat.not_lt_zero j)) rfl⟩
theorem m_open {fr : Nat → Nat} {A S : xs_T} {a : Nat} {c : Int32} {K : Int32 → xs_T → Prop} (h : MA fr A S) (hw : WF A) (ha : a < 10) (hK : MK S K (fOpen A a c)) : v_X10_open (nI a) c 0 S K := by
  refine m_opn h hw ha hK (fun u m n hu e1 e2 e3 hK S' hm h22 h5 => ?_)
  have hb := (hw.2.1 u hu).2
  rw [e1, e2, nI_toInt (by omega), nI_toInt (by omega), Int.toNat_natCast, Int.toNat_natCast] at hK
  exact ⟨_, m_open108 h hw hu e3 (fun t => rfl) hK (xN A (u + 120) - m) 0 S' (by omega) hm h22 (fun q => by rw [h5, pw_0])⟩
theorem m_shut {fr : Nat → Nat} {A S : xs_T} {a : Nat} {c : Int32} {K : Int32 → xs_T → Prop} (h : MA fr A S) (hw : WF A) (ha : a < 10) (hK : MK S K (fShut A a c)) : v_X10_open (nI a) c 1 S K := by
  refine m_opn h hw ha hK (fun u m n hu e1 e2 e3 hK S' hm h22 h5 => ?_)
  have hb := (hw.2.1 u hu).2
  rw [e1, e2, nI_toInt (by omega), nI_toInt (by omega), Int.toNat_natCast, Int.toNat_natCast] at hK
  exact ⟨_, m_shut108 h hw hu e3 (fun t => rfl) hK (xN A (u + 120) - m) 0 S' (by omega) hm h22 (fun q => by rw [h5, pw_0])⟩
/-! one cell -/
theorem c_put {nx : Nat} {A S : xs_T} {u m : Nat} {x : Int64} (h : CA nx A S) (hw : WF A) (hu : oW A u) : CA nx (fW A u m 1 (fun _ => x)) (sL S (u + 120) m x) := by
  refine h.fW hw hu cw.refl.L (fun i hi => ?_)
  rw [gLL]
  by_cases e : i = m
  · rw [if_pos ⟨rfl, e⟩, if_pos (by omega)]
  · rw [if_neg (fun z => e z.2), if_neg (by omega), c_cells h hu hi]
theorem m_put {fr : Nat → Nat} {A S : xs_T} {u m : Nat} {x : Int64} (h : MA fr A S) (hw : WF A) (hu : oW A u) (hm : m < xN A (u + 120)) : MA fr (fW A u m 1 (fun _ => x)) (sL S 5 (fr u + m) x) := h.pool hw hu mw.refl.L5 hm (pw_1 (fun q => (pw_0 _ _ _ q).symm) rfl rfl)
theorem m_place {A S : xs_T} {u : Nat} {x : Int32} {P Q : xs_T → Prop} (hw : WF A) (hu : oW A u) (h1 : ∀ i : Nat, x = nI i → i < xN A (u + 120) → Q S) (h0 : ¬ (0 ≤ x.toInt ∧ x.toInt < xN A (u + 120)) → P S) : v_X10_in x 0 (nI (xN A (u + 120)) - 1) S (fun r S => (¬ r = 0 → Q S) ∧ (r = 0 → P S)) := by
  have hb := (hw.2.1 u hu).2
  have e1 : (nI (xN A (u + 120)) - 1).toInt = xN A (u + 120) - 1 := pk_sub_toInt (a := xN A (u + 120)) (b := 1) (by omega) (by decide)
  refine s_in3 (fun q => ?_) (fun q => h0 (by rw [ti_0, e1] at q; omega))
  rw [ti_0, e1] at q
  obtain ⟨i, hi, rfl⟩ := i_nat (x := x) (by omega)
  rw [nI_toInt hi] at q
  exact h1 i rfl (by omega)
abbrev inR (x : Int32) (n : Nat) : Prop := 0 ≤ x.toInt ∧ x.toInt < n
def seatN_ (A : xs_T) (a u f : Nat) : Int32 × xs_T := if inR (xI A 38 a) (xN A (u + 120)) then (if can (xN A u) (srt A f) then (0, fW A u (xI A 38 a).toInt.toNat 1 (fun _ => lN f)) else (2, A)) else (3, A)
def fSeat (A : xs_T) (a b : Nat) : Int32 × xs_T := onRow A a (fun u => if xN A u < 8 then (2, A) else match xQ A 37 b with
  | none => seatN_ A a u 0
  | some w => if 304 ≤ w ∧ w < 704 then seatN_ A a u (w - 303) else (2, A))
theorem WF.seatN {A : xs_T} {a u f : Nat} (h : WF A) (hu : oW A u) (hf : f ≤ nA A 1) : WF (seatN_ A a u f).2 := by
  unfold seatN_
  by_cases e1 : inR (xI A 38 a) (xN A (u + 120))
  · rw [if_pos e1]
    by_cases e2 : can (xN A u) (srt A f)
    · rw [if_pos e2]
      exact WF.fW h hu (fun _ i _ _ => ⟨f, hf, rfl⟩)
    · rw [if_neg e2]; exact h
  · rw [if_neg e1]; exact h
theorem WF.seat {A : xs_T} {a b : Nat} (h : WF A) (ha : a < 10) (hb : b < 10) : WF (fSeat A a b).2 := h.onRow ha (fun u hu => by
  show WF (if xN A u < 8 then (2, A) else _ : Int32 × xs_T).2
  by_cases e : xN A u < 8
  · rw [if_pos e]; exact h
  · rw [if_neg e]
    cases hq : xQ A 37 b with
    | none => exact WF.seatN h hu (Nat.zero_le _)
    | some w =>
      show WF (if 304 ≤ w ∧ w < 704 then _ else _ : Int32 × xs_T).2
      by_cases e2 : 304 ≤ w ∧ w < 704
      · rw [if_pos e2]
        refine WF.seatN h hu ?_
        have := h.1.1
        rcases h.2.2.2.1 b hb w hq with z | z | z <;> omega
      · rw [if_neg e2]; exact h)
theorem c_seat89 {nx : Nat} {A S : xs_T} {a u f : Nat} {K : Int32 → xs_T → Prop} (h : CA nx A S) (hw : WF A) (ha : a < 10) (hu : oW A u) (hf : f ≤ nA A 1) (hK : CK nx S K (seatN_ A a u f)) : v_X0_seat_89 K (nI a) u (nI f) S := by
  unfold v_X0_seat_89
  unfold seatN_ at hK
  have hn := hw.1.2.1
  have hb := (hw.2.1 u hu).2
  refine ⟨a, rfl, ha, CA_oR h hw hu, ?_⟩
  rw [h.mark ha]
  refine c_hasPlace h hw hu (fun i e hi => ⟨fun _ => ?_, fun z => absurd z (by decide)⟩) (fun q => ⟨fun z => absurd rfl z, fun _ => ?_⟩)
  · rw [e, if_pos (by rw [inR, nI_toInt (by omega)]; omega), nI_toInt (by omega), Int.toNat_natCast] at hK
    rw [nI_l (by omega)]
    refine c_sortOf h hw hf (c_canHave h hw hu (srt_le hw hf) (fun q => ⟨fun _ => ⟨a, rfl, ha, i, by rw [h.mark ha, e], by rw [c_len h hu]; exact hi, ?_⟩, fun z => absurd z (by decide)⟩) (fun q => ⟨fun z => absurd rfl z, fun _ => ?_⟩))
    · rintro _ rfl
      rw [if_pos q] at hK
      exact hK _ (c_put h hw hu) (mfr.L (by omega))
    · rw [if_neg q] at hK
      exact hK S h mfr.refl
  · rw [if_neg q] at hK
    exact hK S h mfr.refl
theorem c_seat {nx : Nat} {A S : xs_T} {a b : Nat} {K : Int32 → xs_T → Prop} (h : CA nx A S) (hw : WF A) (ha : a < 10) (hb : b < 10) (hK : CK nx S K (fSeat A a b)) : v_X0_seat (nI a) (nI b) S K := by
  unfold v_X0_seat
  refine ⟨a, rfl, ha, c_onRow h hw ha hK (fun u hu hr hK => ?_)⟩
  replace hK : CK nx S K (if xN A u < 8 then (2, A) else _) := hK
  refine c_isFig3 h hw hu (fun q => ⟨b, rfl, hb, by rw [h.held hb]; exact CA_oT h hw (hw.2.2.2.1 b hb), ?_⟩) (fun q => by rw [if_pos q] at hK; exact hK S h mfr.refl)
  rw [if_neg (by omega)] at hK
  have h0 := hw.1.2.1
  refine ⟨fun w e ho => ?_, fun q2 => ⟨b, rfl, hb, fun e => ?_, fun w e => ?_⟩⟩
  · rw [h.held hb] at e
    rw [e] at hK
    have ho2 := CA_oG' h ho
    replace hK : CK nx S K (if 304 ≤ w ∧ w < 704 then _ else _) := hK
    rw [if_pos (by omega)] at hK
    have hx := (h.2.2.2.1 (w - 304) (by omega)).2.1
    rw [show 304 + (w - 304) = w by omega, show w - 304 + 1 = w - 303 by omega] at hx
    rw [hx]
    exact c_seat89 h hw ha hu (by omega) hK
  · rw [h.held hb] at e
    rw [e] at hK
    exact c_seat89 h hw ha hu (Nat.zero_le _) hK
  · rw [h.held hb] at e q2
    rw [e] at hK
    replace hK : CK nx S K (if 304 ≤ w ∧ w < 704 then _ else _) := hK
    rw [if_neg (fun z => q2 ⟨w, e, ?_⟩)] at hK
    · exact hK S h mfr.refl
    · have := hw.1.1
      rcases hw.2.2.2.1 b hb w e with y | y | y
      · omega
      · exact CA_oG h hw y.1 y.2
      · omega
theorem m_seat97 {fr : Nat → Nat} {A S : xs_T} {a u f m : Nat} {K : Int32 → xs_T → Prop} (h : MA fr A S) (hw : WF A) (ha : a < 10) (hu : oW A u) (hk : 8 ≤ xN A u) (hf : f ≤ nA A 1) (e : xI A 38 a = nI m) (hm : m < xN A (u + 120)) (hK : MK S K (seatN_ A a u f)) : v_X10_seat_97 K (nI a) (nI (u - 64)) (nI f) S := by
  unfold v_X10_seat_97
  unfold seatN_ at hK
  have h0 := hw.1.1
  have hc := hw.1.2.2.1
  have hn := hw.1.2.1
  have hb := hw.2.1 u hu
  have hlt := hu.2
  obtain ⟨r1, r2, r3, r4, r5⟩ := m_row h hu
  rw [e, if_pos (by rw [inR, nI_toInt (by omega)]; omega), nI_toInt (by omega), Int.toNat_natCast] at hK
  refine ⟨u - 64, rfl, by omega, ?_⟩
  rw [r1]
  refine m_canHave h.2.2.2.1 hw hk hb.1 hf (fun q => ⟨fun _ => ⟨u - 64, rfl, by omega, a, rfl, ha, fr u + m, by rw [r3, m_mark h ha, e, nI_add], by omega, ?_⟩, fun z => absurd z (by decide)⟩) (fun q => ⟨fun z => absurd rfl z, fun _ => ?_⟩)
  · rintro _ rfl
    rw [if_pos q] at hK
    rw [nI_l (by omega)]
    exact hK fr _ (m_put h hw hu hm) (cfr.L (by decide))
  · rw [if_neg q] at hK
    exact hK fr S h cfr.refl
theorem m_seat {fr : Nat → Nat} {A S : xs_T} {a b : Nat} {K : Int32 → xs_T → Prop} (h : MA fr A S) (hw : WF A) (ha : a < 10) (hb : b < 10) (hK : MK S K (fSeat A a b)) : v_X10_seat (nI a) (nI b) S K := by
  unfold v_X10_seat
  have m1 : (-1 : Int32) < 0 := by decide
  have g := m_held h hb
  have h0 := hw.1.1
  have hn := hw.1.2.1
  refine ⟨a, rfl, ha, m_onRow h hw ha hK (fun z => ⟨fun _ => z, fun q => absurd m1 q⟩) (fun u hu hlt hr hK => ⟨fun q => absurd q (nI_pos (by omega)), fun _ => ⟨u - 64, rfl, by omega, ?_⟩⟩)⟩
  have hb2 := hw.2.1 u hu
  obtain ⟨r1, r2, r3, r4, r5⟩ := m_row h hu
  have i1 : nI (xN A u) < 8 ↔ xN A u < 8 := nI_ltI (b := 8) (by omega) (by decide)
  replace hK : MK S K (if xN A u < 8 then (2, A) else _) := hK
  rw [r1]
  refine ⟨fun q => by rw [if_pos (i1.mp q)] at hK; exact hK fr S h cfr.refl, fun q => ?_⟩
  rw [i1] at q
  rw [if_neg q] at hK
  refine ⟨b, rfl, hb, fun e => ?_, fun e => ⟨b, rfl, hb, fun e2 => ⟨a, rfl, ha, u - 64, rfl, by omega, ?_⟩, fun e2 => ?_⟩⟩
  · obtain ⟨w, hw1, hw2⟩ := (hM_row g).mp e
    rw [hw1] at hK
    replace hK : MK S K (if 304 ≤ w ∧ w < 704 then _ else _) := hK
    rw [if_neg (by omega)] at hK
    exact hK fr S h cfr.refl
  · rw [r2, m_mark h ha]
    cases hq : xQ A 37 b with
    | none =>
      rw [hq] at hK g
      replace hK : MK S K (seatN_ A a u 0) := hK
      refine m_place hw hu (fun i e3 hi => ⟨b, rfl, hb, fun _ => ?_, fun z => ?_⟩) (fun e3 => ?_)
      · exact m_seat97 (f := 0) h hw ha hu (by omega) (Nat.zero_le _) e3 hi hK
      · rw [g.1] at z; exact absurd z (by decide)
      · unfold seatN_ at hK
        rw [if_neg e3] at hK
        exact hK fr S h cfr.refl
    | some w =>
      rw [hq] at hK g
      replace hK : MK S K (if 304 ≤ w ∧ w < 704 then _ else _) := hK
      have hw3 : 304 ≤ w ∧ w < 704 := by
        rcases g with z | z | z
        · exact absurd z.2.1 e
        · exact ⟨z.1, z.2.1⟩
        · exact absurd z.2.1 e2
      have g2 := hM_fg g hw3.1 hw3.2
      rw [if_pos hw3] at hK
      refine m_place hw hu (fun i e3 hi => ⟨b, rfl, hb, fun z => absurd g2.1 z, fun _ => ⟨b, rfl, hb, ?_⟩⟩) (fun e3 => ?_)
      · rw [g2.2]
        refine m_seat97 h hw ha hu (by omega) ?_ e3 hi hK
        rcases hw.2.2.2.1 b hb w hq with z | z | z <;> omega
      · unfold seatN_ at hK
        rw [if_neg e3] at hK
        exact hK fr S h cfr.refl
  · cases hq : xQ A 37 b with
    | none =>
      rw [hq] at g
      rw [g.1] at e2
      exact absurd e2 (by decide)
    | some w =>
      rw [hq] at hK g
      replace hK : MK S K (if 304 ≤ w ∧ w < 704 then _ else _) := hK
      rw [if_neg] at hK
      · exact hK fr S h cfr.refl
      · intro z
        have := (hM_fg g z.1 z.2).1
        rw [this] at e2
        exact absurd e2 (by decide)
/-! lift -/
def fLift (A : xs_T) (a b : Nat) : Int32 × xs_T := onRow A a (fun u => if xN A u < 8 then (2, A) else if inR (xI A 38 a) (xN A (u + 120)) then (0, sQ A 37 b (fFig A (fno (xL A (u + 120) (xI A 38 a).toInt.toNat)))) else (3, A))
theorem hT_fig {A : xs_T} {f : Nat} : hT A (fFig A f) := fun u hu => by
  unfold fFig at hu
  by_cases e : 1 ≤ f ∧ f ≤ nA A 1
  · rw [if_pos e] at hu
    have := Option.some.inj hu
    exact Or.inr (Or.inl (by omega))
  · rw [if_neg e] at hu
    cases hu
theorem WF.lift {A : xs_T} {a b : Nat} (h : WF A) (ha : a < 10) : WF (fLift A a b).2 := h.onRow ha (fun u hu => by
  show WF (if xN A u < 8 then (2, A) else _ : Int32 × xs_T).2
  by_cases e : xN A u < 8
  · rw [if_pos e]; exact h
  · rw [if_neg e]
    by_cases e2 : inR (xI A 38 a) (xN A (u + 120))
    · rw [if_pos e2]; exact WF.hold h hT_fig
    · rw [if_neg e2]; exact h)
theorem c_lift {nx : Nat} {A S : xs_T} {a b : Nat} {K : Int32 → xs_T → Prop} (h : CA nx A S) (hw : WF A) (ha : a < 10) (hb : b < 10) (hK : CK nx S K (fLift A a b)) : v_X0_lift (nI a) (nI b) S K := by
  unfold v_X0_lift
  refine ⟨a, rfl, ha, c_onRow h hw ha hK (fun u hu hr hK => ?_)⟩
  replace hK : CK nx S K (if xN A u < 8 then (2, A) else if inR (xI A 38 a) (xN A (u + 120)) then (0, sQ A 37 b (fFig A (fno (xL A (u + 120) (xI A 38 a).toInt.toNat)))) else (3, A)) := hK
  have hl := (hw.2.1 u hu).2
  have hn := hw.1.2.1
  refine c_isFig3 h hw hu (fun q => ⟨a, rfl, ha, ?_⟩) (fun q => by rw [if_pos q] at hK; exact hK S h mfr.refl)
  rw [if_neg (by omega)] at hK
  rw [h.mark ha]
  refine c_hasPlace h hw hu (fun i e hi => ⟨fun _ => ⟨a, rfl, ha, i, by rw [h.mark ha, e], by rw [c_len h hu]; exact hi, ?_⟩, fun z => absurd z (by decide)⟩) (fun e => ⟨fun z => absurd rfl z, fun _ => by rw [if_neg e] at hK; exact hK S h mfr.refl⟩)
  rw [e, if_pos (by rw [inR, nI_toInt (by omega)]; omega), nI_toInt (by omega), Int.toNat_natCast] at hK
  obtain ⟨f, hf, ef⟩ := hw.2.2.2.2.1 u hu q i hi
  rw [ef, fno_N (by omega)] at hK
  rw [c_cells h hu hi, ef]
  have fin : ∀ r, r = fFig A f → oT S r ∧ ∃ j_37 : Nat, nI b = nI j_37 ∧ j_37 < 10 ∧ ∀ S_40 : xs_T, S_40 = sQ S 37 j_37 r → K 0 S_40 := fun r hr => by
    refine ⟨CA_oT h hw (by rw [hr]; exact hT_fig), b, rfl, hb, ?_⟩
    rintro _ rfl
    rw [hr]
    exact hK _ (h.hold hT_fig) mfr.Q
  refine c_figOf h hw (fun g g1 g2 eg => fin _ ?_) (fun z => fin _ ?_)
  · have : f = g := (lN_eq (by omega) (by omega)).mp eg
    subst this
    unfold fFig
    rw [if_pos ⟨g1, g2⟩]
  · rw [pk_lT (by omega)] at z
    unfold fFig
    rw [if_neg (by omega)]
theorem m_lift {fr : Nat → Nat} {A S : xs_T} {a b : Nat} {K : Int32 → xs_T → Prop} (h : MA fr A S) (hw : WF A) (ha : a < 10) (hb : b < 10) (hK : MK S K (fLift A a b)) : v_X10_lift (nI a) (nI b) S K := by
  unfold v_X10_lift
  have m1 : (-1 : Int32) < 0 := by decide
  have h0 := hw.1.1
  have hn := hw.1.2.1
  have hc := hw.1.2.2.1
  refine ⟨a, rfl, ha, m_onRow h hw ha hK (fun z => ⟨fun _ => z, fun q => absurd m1 q⟩) (fun u hu hlt hr hK => ⟨fun q => absurd q (nI_pos (by omega)), fun _ => ⟨u - 64, rfl, by omega, ?_⟩⟩)⟩
  have hb2 := hw.2.1 u hu
  obtain ⟨r1, r2, r3, r4, r5⟩ := m_row h hu
  have i1 : 8 ≤ nI (xN A u) ↔ 8 ≤ xN A u := nI_leI (a := 8) (by decide) (by omega)
  replace hK : MK S K (if xN A u < 8 then (2, A) else if inR (xI A 38 a) (xN A (u + 120)) then (0, sQ A 37 b (fFig A (fno (xL A (u + 120) (xI A 38 a).toInt.toNat)))) else (3, A)) := hK
  rw [r1]
  refine ⟨fun q => ⟨a, rfl, ha, u - 64, rfl, by omega, ?_⟩, fun q => by rw [if_pos (by rw [i1] at q; omega)] at hK; exact hK fr S h cfr.refl⟩
  rw [i1] at q
  rw [if_neg (by omega)] at hK
  rw [r2, m_mark h ha]
  refine m_place hw hu (fun i e hi => ⟨u - 64, rfl, by omega, a, rfl, ha, fr u + i, by rw [r3, m_mark h ha, e, nI_add], by omega, ?_⟩) (fun e => by rw [if_neg e] at hK; exact hK fr S h cfr.refl)
  rw [e, if_pos (by rw [inR, nI_toInt (by omega)]; omega), nI_toInt (by omega), Int.toNat_natCast] at hK
  obtain ⟨f, hf, ef⟩ := hw.2.2.2.2.1 u hu q i hi
  rw [ef, fno_N (by omega)] at hK
  rw [r5 i hi, ef, lN_i]
  unfold fFig at hK
  refine ⟨fun z => m_hold hb ?_, fun z => m_hold hb ?_⟩
  · have hf0 : ¬ f = 0 := fun y => z (by rw [y]; rfl)
    rw [if_pos (by omega)] at hK
    exact hK fr _ (h.hold (Or.inr (Or.inl ⟨by omega, by omega, rfl, by rw [show 303 + f - 303 = f by omega]⟩))) cfr_hold
  · have hf0 : f = 0 := nI_inj (by omega) (by omega) z
    rw [if_neg (by omega)] at hK
    rw [hf0]
    exact hK fr _ (h.hold ⟨rfl, rfl⟩) cfr_hold
