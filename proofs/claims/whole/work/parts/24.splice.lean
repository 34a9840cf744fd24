theorem mw.g {A S S' : xs_T} (h : MAg A S) (hm : mw S S') : MAg A S' := by
  unfold MAg at *
  rw [hm.2.2.1]
  exact h
theorem m_sp190 {fr : Nat → Nat} {A S0 : xs_T} {a u p n : Nat} {a2 a5 a6 : Int32} {K : Int32 → xs_T → Prop} (h : MA fr A S0) (hw : WF A) (ha : a < 10) (hu : oW A u) (hp : xI S0 11 a = nI p) (hn : p + n ≤ xN A (u + 120))
    (hK : ∀ S', mw S0 S' → (∀ j, j < n → xL S' 22 j = xL A (u + 120) (p + j)) → xL S' 5 = xL S0 5 → ∃ n', v_X10_splice_234 K n' a2 (nI n) a5 a6 0 S') :
    ∀ (m i : Nat) (S : xs_T), i + m = n → mw S0 S → (∀ j, j < i → xL S 22 j = xL A (u + 120) (p + j)) → xL S 5 = xL S0 5 → v_X10_splice_190 K (m + 1) (nI a) a2 (nI n) (nI (u - 64)) a5 a6 (nI i) S := by
  have hb := (hw.2.1 u hu).2
  have h0 := hw.1.1
  have hc := hw.1.2.2.1
  have hlt := hu.2
  have h64 := hu.1
  obtain ⟨r1, r2, r3, r4, r5⟩ := m_row h hu
  intro m
  induction m with
  | zero =>
    intro i S hi hm h22 h5
    rw [v_X10_splice_190]
    have e : i = n := by omega
    subst e
    exact ⟨fun _ => hK S hm h22 h5, fun q => absurd (nI_le (Nat.le_refl i) (by omega)) q⟩
  | succ m ih =>
    intro i S hi hm h22 h5
    rw [v_X10_splice_190]
    refine ⟨fun q => absurd q (nI_ge (by omega) (by omega)), fun _ => ⟨u - 64, rfl, by omega, a, rfl, ha, fr u + p + i, by rw [hm.2.2.1, r3, hp, nI_add, nI_add], by omega, i, rfl, by omega, ?_⟩⟩
    rintro _ rfl
    rw [nI_1]
    refine ih (i + 1) _ (by omega) hm.L22 (fun j hj => ?_) h5
    rw [gLL]
    by_cases e : j = i
    · subst e
      rw [if_pos ⟨rfl, rfl⟩, h5, Nat.add_assoc, r5 (p + j) (by omega)]
    · rw [if_neg (fun z => e z.2)]
      exact h22 j (by omega)
theorem m_sp234 {fr : Nat → Nat} {A S0 : xs_T} {b u v p p' n : Nat} {K : Int32 → xs_T → Prop} (h : MA fr A S0) (hw : WF A) (hb : b < 10) (hu : oW A u) (hv : oW A v) (hal : alike A u v) (hp' : xI S0 11 b = nI p') (hn : p + n ≤ xN A (u + 120)) (hn' : p' + n ≤ xN A (v + 120))
    (hK : MK S0 K (if fFit A u v p n = n then 0 else 2, fW A v p' (fFit A u v p n) (fun j => xL A (u + 120) (p + j)))) :
    ∀ (m i : Nat) (S : xs_T), i + m = n → mw S0 S → (∀ j, j < n → xL S 22 j = xL A (u + 120) (p + j)) → (∀ q, xL S 5 q = pw (xL S0 5) (fr v + p') i (fun j => xL A (u + 120) (p + j)) q) → (8 ≤ xN A v → ∀ j, j < i → okc A u v p j = true) → v_X10_splice_234 K (m + 1) (nI b) (nI n) (nI (v - 64)) (if xN A v < 8 then 0 else 1) (nI i) S := by
  have hb1 := (hw.2.1 u hu).2
  have hb2 := hw.2.1 v hv
  have h0 := hw.1.1
  have hc := hw.1.2.2.1
  have hlt := hv.2
  have h64 := hv.1
  have n10 : ¬ (1 : Int32) = 0 := by decide
  obtain ⟨r1, r2, r3, r4, r5⟩ := m_row h hv
  have fin : ∀ (S : xs_T) (k : Nat), mw S0 S → k ≤ n → (∀ q, xL S 5 q = pw (xL S0 5) (fr v + p') k (fun j => xL A (u + 120) (p + j)) q) → fFit A u v p n = k → K (if k = n then 0 else 2) S := fun S k hm hk hq e => by
    rw [e] at hK
    exact hK fr S (h.pool hw hv hm (by omega) hq) hm.1
  intro m
  induction m with
  | zero =>
    intro i S hi hm h22 h5 hok
    rw [v_X10_splice_234]
    have e : i = n := by omega
    subst e
    refine ⟨fun _ => ?_, fun q => absurd (nI_le (Nat.le_refl i) (by omega)) q⟩
    have := fin S i hm (Nat.le_refl i) h5 (by
      unfold fFit
      by_cases z : 8 ≤ xN A v
      · rw [if_pos z]; exact fit_eq (Nat.le_refl i) (hok z) (fun y => absurd y (Nat.lt_irrefl i))
      · rw [if_neg z])
    rw [if_pos rfl] at this
    exact this
  | succ m ih =>
    intro i S hi hm h22 h5 hok
    rw [v_X10_splice_234]
    have ej : xI S 3 (v - 64) + xI S 11 b + nI i = nI (fr v + p' + i) := by rw [hm.2.2.1, r3, hp', nI_add, nI_add]
    refine ⟨fun q => absurd q (nI_ge (by omega) (by omega)), fun _ => ⟨fun z => ⟨v - 64, rfl, by omega, b, rfl, hb, i, rfl, by omega, fr v + p' + i, ej, by omega, ?_⟩, fun z => ⟨v - 64, rfl, by omega, i, rfl, by omega, ?_⟩⟩⟩
    · rintro _ rfl
      rw [nI_1]
      refine ih (i + 1) _ (by omega) hm.L5 h22 (pw_1 h5 rfl (h22 i (by omega))) (fun z2 => ?_)
      rw [if_neg (by omega)] at z
      exact absurd z n10
    · have z8 : 8 ≤ xN A v := by
        by_cases y : xN A v < 8
        · rw [if_pos y] at z; exact absurd rfl z
        · omega
      have z8u : 8 ≤ xN A u := by rcases hal with y | y <;> omega
      obtain ⟨f, hf, e⟩ := hw.2.2.2.2.1 u hu z8u (p + i) (by omega)
      have hnf := hw.1.2.1
      have eo : okc A u v p i = decide (can (xN A v) (srt A f)) := by
        unfold okc
        rw [e, fno_N (by omega)]
      rw [h22 i (by omega), e, lN_i, hm.2.2.1, r1]
      refine m_canHave (mw.g h.2.2.2.1 hm) hw z8 hb2.1 hf (fun hcan => ⟨fun _ => ⟨v - 64, rfl, by omega, b, rfl, hb, i, rfl, by omega, fr v + p' + i, ej, by omega, ?_⟩, fun z => absurd z (by decide)⟩) (fun hcan => ⟨fun z => absurd rfl z, fun _ => ?_⟩)
      · rintro _ rfl
        rw [nI_1]
        refine ih (i + 1) _ (by omega) hm.L5 h22 (pw_1 h5 rfl (h22 i (by omega))) (fun z2 j hj => ?_)
        by_cases ej : j = i
        · subst ej; rw [eo]; exact decide_eq_true hcan
        · exact hok z2 j (by omega)
      · have := fin S i hm (by omega) h5 (by
          unfold fFit
          rw [if_pos z8]
          exact fit_eq (by omega) (hok z8) (fun _ => by rw [eo]; exact decide_eq_false hcan))
        rw [if_neg (by omega)] at this
        exact this
theorem m_sp111 {fr : Nat → Nat} {A S : xs_T} {a b u v : Nat} {c : Int32} {K : Int32 → xs_T → Prop} (h : MA fr A S) (hw : WF A) (ha : a < 10) (hb : b < 10) (hu : oW A u) (hv : oW A v) (hal : alike A u v)
    (hK : MK S K (if plc (xI A 38 a) c (xN A (u + 120)) ∧ plc (xI A 38 b) c (xN A (v + 120)) then
        (if fFit A u v (xI A 38 a).toInt.toNat c.toInt.toNat = c.toInt.toNat then 0 else 2, fW A v (xI A 38 b).toInt.toNat (fFit A u v (xI A 38 a).toInt.toNat c.toInt.toNat) (fun i => xL A (u + 120) ((xI A 38 a).toInt.toNat + i))) else (3, A))) :
    v_X10_splice_111 K (nI a) (nI b) c (nI (u - 64)) (nI (v - 64)) (if xN A v < 8 then 0 else 1) S := by
  have hb1 := (hw.2.1 u hu).2
  have hb2 := (hw.2.1 v hv).2
  have h0 := hw.1.1
  have hltu := hu.2
  have hltv := hv.2
  obtain ⟨r1, r2, r3, r4, r5⟩ := m_row h hu
  obtain ⟨s1, s2, s3, s4, s5⟩ := m_row h hv
  rw [← m_mark h ha, ← m_mark h hb] at hK
  have t1 : (nI (xN A (u + 120))).toInt64.toInt = xN A (u + 120) := by rw [l_ti, nI_toInt (by omega)]
  have t2 : (nI (xN A (v + 120))).toInt64.toInt = xN A (v + 120) := by rw [l_ti, nI_toInt (by omega)]
  have no : ¬ (plc (xI S 11 a) c (xN A (u + 120)) ∧ plc (xI S 11 b) c (xN A (v + 120))) → K 3 S := fun z => by
    rw [if_neg z] at hK
    exact hK fr S h cfr.refl
  unfold v_X10_splice_111
  refine ⟨a, rfl, ha, b, rfl, hb, a, rfl, ha, ?_⟩
  simp only [Int32.lt_iff_toInt_lt, ti_0]
  refine ⟨fun q => no (by omega), fun q => ⟨b, rfl, hb, fun q2 => no (by omega), fun q2 => ⟨fun q3 => no (by omega), fun q3 => ⟨u - 64, rfl, by omega, ?_⟩⟩⟩⟩
  rw [r2]
  simp only [Int64.lt_iff_toInt_lt, l_add, t1]
  refine ⟨fun q4 => no (by omega), fun q4 => ⟨v - 64, rfl, by omega, ?_⟩⟩
  rw [s2]
  simp only [Int64.le_iff_toInt_le, l_add, t2]
  refine ⟨fun q5 => ?_, fun q5 => no (by omega)⟩
  have p1 : plc (xI S 11 a) c (xN A (u + 120)) := by omega
  have p2 : plc (xI S 11 b) c (xN A (v + 120)) := by omega
  rw [if_pos ⟨p1, p2⟩] at hK
  obtain ⟨p, n, e3, rfl, e5⟩ := plc_nat p1 hb1
  obtain ⟨p', n', e3', e4', e5'⟩ := plc_nat p2 hb2
  have hnn : n' = n := nI_inj (by omega) (by omega) e4'.symm
  subst hnn
  rw [e3, e3', nI_toInt (by omega), nI_toInt (by omega), nI_toInt (by omega), Int.toNat_natCast, Int.toNat_natCast, Int.toNat_natCast] at hK
  refine ⟨n' + 1, m_sp190 h hw ha hu e3 e5 (fun S' hm h22 h5 => ?_) n' 0 S (by omega) mw.refl (fun j hj => absurd hj (Nat.not_lt_zero j)) rfl⟩
  exact ⟨n' + 1, m_sp234 h hw hb hu hv hal e3' e5 e5' hK n' 0 S' (by omega) hm h22 (fun q => by rw [h5, pw_0]) (fun _ j hj => absurd hj (Nat.not_lt_zero j))⟩
theorem m_splice {fr : Nat → Nat} {A S : xs_T} {a b : Nat} {c : Int32} {K : Int32 → xs_T → Prop} (h : MA fr A S) (hw : WF A) (ha : a < 10) (hb : b < 10) (hK : MK S K (fSplice A a b c)) : v_X10_splice (nI a) (nI b) c S K := by
  unfold v_X10_splice
  unfold fSplice at hK
  have g1 := m_held h ha
  have g2 := m_held h hb
  have m1 : (-1 : Int32) < 0 := by decide
  have m2 : ¬ (0 : Int32) ≤ -1 := by decide
  have h0 := hw.1.1
  refine ⟨a, rfl, ha, fun q => ?_, fun q => ⟨b, rfl, hb, fun q2 => ?_, fun q2 => ?_⟩⟩
  · rw [if_pos (Or.inl ((hM_none g1).mp q))] at hK
    exact hK fr S h cfr.refl
  · have n1 : ¬ (xQ A 37 a = none ∨ xQ A 37 b = none) := by
      rintro (z | z)
      · exact q ((hM_none g1).mpr z)
      · exact q2 ((hM_none g2).mpr z)
    rw [if_neg n1] at hK
    refine m_rowOn h hw ha (fun u hr ou => ?_) (fun hr => ?_)
    · rw [hr] at hK
      have hltu := ou.2
      have h64u := ou.1
      refine m_rowOn h hw hb (fun v hr2 ov => ?_) (fun hr2 => ?_)
      · rw [hr2] at hK
        have hltv := ov.2
        have h64v := ov.1
        replace hK : MK S K (if alike A u v then _ else _) := hK
        have hk1 := (hw.2.1 u ou).1
        have hk2 := (hw.2.1 v ov).1
        have i1 : nI (xN A u) < 8 ↔ xN A u < 8 := nI_ltI (b := 8) (by omega) (by decide)
        have i2 : nI (xN A v) < 8 ↔ xN A v < 8 := nI_ltI (b := 8) (by omega) (by decide)
        have i3 : nI (xN A u) = nI (xN A v) ↔ xN A u = xN A v := nI_eq (by omega) (by omega)
        have n10 : ¬ (1 : Int32) = 0 := by decide
        have n01 : ¬ (0 : Int32) = 1 := by decide
        have yes : ∀ z : alike A u v, ∀ t : Int32, (t = if xN A v < 8 then 0 else 1) → v_X10_splice_111 K (nI a) (nI b) c (nI (u - 64)) (nI (v - 64)) t S := fun z t ht => by
          rw [if_pos z] at hK
          rw [ht]
          exact m_sp111 h hw ha hb ou ov z hK
        have no : ¬ alike A u v → K 2 S := fun z => by
          rw [if_neg z] at hK
          exact hK fr S h cfr.refl
        refine ⟨fun z => absurd z (nI_pos (by omega)), fun _ => ⟨fun _ => ⟨u - 64, rfl, by omega, ?_⟩, fun z => absurd (nI_pos' (by omega)) z⟩⟩
        unfold v_X10_splice_63 v_X10_splice_84
        rw [(m_row h ou).1]
        refine ⟨fun z1 => ⟨v - 64, rfl, by omega, ?_⟩, fun z1 => ⟨v - 64, rfl, by omega, ?_⟩⟩
        all_goals rw [i1] at z1
        · rw [(m_row h ov).1]
          refine ⟨fun z2 => ⟨fun z => absurd rfl z, fun _ => ⟨fun z => absurd rfl z, fun _ => ⟨u - 64, rfl, by omega, v - 64, rfl, by omega, ?_⟩⟩⟩, fun z2 => ⟨fun _ => no (by rw [i2] at z2; omega), fun z => absurd z n01⟩⟩
          rw [i2] at z2
          rw [(m_row h ou).1, (m_row h ov).1]
          exact ⟨fun e => yes (Or.inl (i3.mp e)) 0 (by rw [if_pos z2]), fun e => no (by rw [i3] at e; omega)⟩
        · rw [(m_row h ov).1]
          exact ⟨fun z2 => ⟨fun _ => no (by rw [i2] at z2; omega), fun z => absurd z n10⟩, fun z2 => ⟨fun z => absurd rfl z, fun _ => ⟨fun _ => yes (Or.inr (by rw [i2] at z2; omega)) 1 (by rw [i2] at z2; rw [if_neg z2]), fun z => absurd z n10⟩⟩⟩
      · rw [hr2] at hK
        exact ⟨fun z => absurd z (nI_pos (by omega)), fun _ => ⟨fun z => absurd z m2, fun _ => hK fr S h cfr.refl⟩⟩
    · rw [hr] at hK
      exact m_rowOn h hw hb (fun v hr2 ov => ⟨fun _ => hK fr S h cfr.refl, fun z => absurd m1 z⟩) (fun hr2 => ⟨fun _ => hK fr S h cfr.refl, fun z => absurd m1 z⟩)
  · rw [if_pos (Or.inr ((hM_none g2).mp q2))] at hK
    exact hK fr S h cfr.refl
