/-! the run's loop -/
def fB (p : Nat) (A : xs_T) : Int32 × xs_T := fBeg (xI A 42 p) (xI A 43 p) (xI A 44 p) (xI A 45 p) (sF A 0 26 (xF A 0 26 + 1))
def fSt (L : Nat → xs_T → Int32 × xs_T) (p : Nat) (r : Int32) (B : xs_T) : Int32 × xs_T := if r = 0 then L (fNext p B).1 (fNext p B).2 else match fMt 60 (p + 1) r B with
  | none => (r, sF B 0 27 (nI p))
  | some q => L q (sF B 0 25 (xF B 0 25 + 1))
def fLoop : Nat → Nat → xs_T → Int32 × xs_T
  | 0, p, A => if p < nA A 4 then (if nA A 7 = 4000 then (6, sF A 0 27 (nI p)) else (7, A)) else (0, A)
  | d + 1, p, A => if p < nA A 4 then (if nA A 7 = 4000 then (6, sF A 0 27 (nI p)) else fSt (fLoop d) p (fB p A).1 (fB p A).2) else (0, A)
theorem WF.next {A : xs_T} {p : Nat} (h : WF A) : WF (fNext p A).2 ∧ nA (fNext p A).2 7 = nA A 7 ∧ xF (fNext p A).2 = xF A := by
  unfold fNext
  split
  · exact ⟨h, rfl, rfl⟩
  · split
    · split
      · exact ⟨h, rfl, rfl⟩
      · exact ⟨h, rfl, rfl⟩
    · exact ⟨h, rfl, rfl⟩
theorem b_wf {A : xs_T} {p : Nat} (hw : WF A) (hp : p < nA A 4) (h7 : nA A 7 ≠ 4000) : WF (fB p A).2 ∧ nA (fB p A).2 7 = nA A 7 + 1 ∧ nA (fB p A).2 4 = nA A 4 ∧ xF (fB p A).2 0 26 = xF A 0 26 + 1 ∧ (∀ i, 42 ≤ i → xI (fB p A).2 i = xI A i) ∧ rOK (fB p A).1 := by
  have hw1 : WF (sF A 0 26 (xF A 0 26 + 1)) := hw
  have hb := hw.1.2.2.2.2.2.1
  have hB := beg_i (x1 := xI A 42 p) (x2 := xI A 43 p) (x3 := xI A 44 p) (x4 := xI A 45 p) hw1
  refine ⟨WF.beg hw1 (hw.2.2.2.2.2.2 p hp) ?_, hB⟩
  show nA A 7 < 4000
  omega
theorem st_wf {L : Nat → xs_T → Int32 × xs_T} (hL : ∀ p A, WF A → WF (L p A).2 ∧ nA A 7 ≤ nA (L p A).2 7) {p : Nat} {r : Int32} {B : xs_T} (w : WF B) : WF (fSt L p r B).2 ∧ nA B 7 ≤ nA (fSt L p r B).2 7 := by
  unfold fSt
  split
  · obtain ⟨n1, n2, -⟩ := WF.next (p := p) w
    obtain ⟨i1, i2⟩ := hL (fNext p B).1 _ n1
    exact ⟨i1, by omega⟩
  · split
    · exact ⟨w, Nat.le_refl _⟩
    · next q _ =>
      have w2 : WF (sF B 0 25 (xF B 0 25 + 1)) := w
      exact hL q _ w2
theorem loop_wf : ∀ (d p : Nat) (A : xs_T), WF A → WF (fLoop d p A).2 ∧ nA A 7 ≤ nA (fLoop d p A).2 7 := by
  intro d
  induction d with
  | zero =>
    intro p A hw
    unfold fLoop
    split
    · split
      · exact ⟨hw, Nat.le_refl _⟩
      · exact ⟨hw, Nat.le_refl _⟩
    · exact ⟨hw, Nat.le_refl _⟩
  | succ d ih =>
    intro p A hw
    unfold fLoop
    split
    · next hp =>
      split
      · exact ⟨hw, Nat.le_refl _⟩
      · next h7 =>
        obtain ⟨w, w7, -⟩ := b_wf (p := p) hw hp h7
        generalize (fB p A).1 = r
        generalize (fB p A).2 = B at *
        obtain ⟨i1, i2⟩ := st_wf ih (p := p) (r := r) w
        exact ⟨i1, by omega⟩
    · exact ⟨hw, Nat.le_refl _⟩
theorem c_fB {nx : Nat} {A S : xs_T} {p : Nat} {K : Int32 → xs_T → Prop} (h : CA nx A S) (hw : WF A) (hp : p < nA A 4) (h7 : nA A 7 < 4000) (hK : ∀ nx' S', CA nx' (fB p A).2 S' → mf0 S S' → K (fB p A).1 S') : v_X9_begin (xI A 42 p) (xI A 43 p) (xI A 44 p) (xI A 45 p) (sF S 32 7 (xF S 32 7 + 1)) K := by
  have f7 : xF S 32 7 = xF A 0 26 := h.1.2.2.2.1
  have hC1 : CA nx (sF A 0 26 (xF A 0 26 + 1)) (sF S 32 7 (xF S 32 7 + 1)) := by rw [f7]; exact h.f26
  have hw1 : WF (sF A 0 26 (xF A 0 26 + 1)) := hw
  have h71 : nA (sF A 0 26 (xF A 0 26 + 1)) 7 < 4000 := h7
  have m0 : mf0 S (sF S 32 7 (xF S 32 7 + 1)) := (mfr.F (by decide)).z
  refine c_begin hC1 hw1 (hw.2.2.2.2.2.2 p hp) h71 (fun nx2 S2 hC2 hm2 => ?_)
  exact hK nx2 S2 hC2 (m0.trans hm2)
theorem c_st {nu N p s k9 n nx : Nat} {S0 B S : xs_T} {r : Int32} {K : Int32 → xs_T → Prop} {L : Nat → xs_T → Int32 × xs_T}
    (ih : ∀ (p' k' nx : Nat) (A S : xs_T), CA nx A S → WF A → xF A 0 26 = nI (s + 1) → p' ≤ 200 → k' + nA (L p' A).2 7 ≤ nu + nA A 7 → mf0 S0 S → (∀ nx' S', CA nx' (L p' A).2 S' → mf0 S0 S' → K (L p' A).1 S') → v_X9_run_34 nu K n k' (nI N) (nI p') (nI (s + 1)) S)
    (hC : CA nx B S) (w : WF B) (hp : p < nA B 4) (e26 : xF B 0 26 = nI (s + 1)) (hu : k9 + 1 + nA (fSt L p r B).2 7 ≤ nu + nA B 7) (hm : mf0 S0 S) (hK : ∀ nx' S', CA nx' (fSt L p r B).2 S' → mf0 S0 S' → K (fSt L p r B).1 S') :
    (¬ r = 0 → v_X8_meeting (nI p) r S (fun (r_34 : Int32) (S_33 : xs_T) => ((¬ r_34 = (-1) → ((r = 0 → v_X9_run_34 nu K n (k9 + 1) (nI N) r_34 (nI s + 1) S_33) ∧ (¬ r = 0 → ∀ S_37 : xs_T, S_37 = sF S_33 32 6 (xF S_33 32 6 + 1) → v_X9_run_34 nu K n (k9 + 1) (nI N) r_34 (nI s + 1) S_37))) ∧ (r_34 = (-1) → ∀ S_39 : xs_T, S_39 = sF S_33 32 8 (nI p) → K r S_39)))) ∧
    (r = 0 → v_X8_following (nI p) S (fun (r_42 : Int32) (S_41 : xs_T) => ((¬ r_42 = (-1) → ((r = 0 → v_X9_run_34 nu K n (k9 + 1) (nI N) r_42 (nI s + 1) S_41) ∧ (¬ r = 0 → ∀ S_45 : xs_T, S_45 = sF S_41 32 6 (xF S_41 32 6 + 1) → v_X9_run_34 nu K n (k9 + 1) (nI N) r_42 (nI s + 1) S_45))) ∧ (r_42 = (-1) → ∀ S_47 : xs_T, S_47 = sF S_41 32 8 (nI p) → K r S_47)))) := by
  have h4 := w.1.2.2.2.1
  rw [nI_1]
  unfold fSt at hK hu
  refine ⟨fun e => c_meet hC w (by omega) ?_, fun e => c_follow hC w hp (fun S3 hC3 hm4 => ⟨fun _ => ⟨fun _ => ?_, fun z => absurd e z⟩, fun z => absurd z (nI_m1 ?_)⟩)⟩
  · rw [if_neg e] at hK hu
    cases hq : fMt 60 (p + 1) r B with
    | none =>
      rw [hq] at hK
      refine ⟨fun z => absurd rfl z, fun _ => ?_⟩
      rintro _ rfl
      exact hK nx _ hC.f27 (hm.trans (mfr.F (by decide)).z)
    | some t =>
      rw [hq] at hK hu
      have ht := mt_le hq
      refine ⟨fun _ => ⟨fun z => absurd z e, fun _ => ?_⟩, fun z => absurd z (nI_m1 (by omega))⟩
      rintro _ rfl
      have f6 : xF S 32 6 = xF B 0 25 := hC.1.2.2.1
      rw [f6]
      exact ih t (k9 + 1) nx _ _ hC.f25 w e26 (by omega) hu (hm.trans (mfr.F (by decide)).z) hK
  · rw [if_pos e] at hK hu
    obtain ⟨n1, n2, n3⟩ := WF.next (p := p) w
    have hl := next_le w hp
    exact ih _ (k9 + 1) nx _ S3 hC3 n1 (by rw [n3]; exact e26) (by omega) (by omega) (hm.trans hm4.z) hK
  · have hl := next_le w hp
    omega
theorem c_loop {nu N : Nat} {S0 : xs_T} {K : Int32 → xs_T → Prop} (hN : N ≤ 300) :
    ∀ (d s : Nat), s + d = N → ∀ (p k9 nx : Nat) (A S : xs_T), CA nx A S → WF A → xF A 0 26 = nI s → p ≤ 200 → k9 + nA (fLoop d p A).2 7 ≤ nu + nA A 7 → mf0 S0 S → (∀ nx' S', CA nx' (fLoop d p A).2 S' → mf0 S0 S' → K (fLoop d p A).1 S') → v_X9_run_34 nu K (d + 1) k9 (nI N) (nI p) (nI s) S := by
  intro d
  induction d with
  | zero =>
    intro s hs p k9 nx A S h hw h26 hp hu hm hK
    rw [v_X9_run_34]
    unfold fLoop at hK
    have h4 := hw.1.2.2.2.1
    have hb := hw.1.2.2.2.2.2.1
    have d6 : xF S 34 5 = nI (nA A 4) := h.1.2.2.2.2.2.1
    have i4 : xF S 32 4 < 4000 ↔ nA A 7 < 4000 := by rw [h.1.1]; exact nI_ltI (b := 4000) (by omega) (by decide)
    have hsN : s = N := by omega
    subst hsN
    refine ⟨fun q => absurd q (nI_nlt (Nat.le_refl _) (by omega)), fun _ => ?_⟩
    rw [d6, nI_leI (by omega) (by omega), i4]
    refine ⟨fun q => ?_, fun q => ⟨fun q2 => ⟨fun q3 => absurd rfl q3, fun _ => ?_⟩, fun q2 => ?_⟩⟩
    · rw [if_neg (by omega)] at hK; exact hK nx S h hm
    · rw [if_pos (by omega), if_neg (by omega)] at hK; exact hK nx S h hm
    · rintro _ rfl
      rw [if_pos (by omega), if_pos (by omega)] at hK
      exact hK nx _ h.f27 (hm.trans (mfr.F (by decide)).z)
  | succ d ih =>
    intro s hs p k9 nx A S h hw h26 hp hu hm hK
    rw [v_X9_run_34]
    have h4 := hw.1.2.2.2.1
    have hb := hw.1.2.2.2.2.2.1
    have d6 : xF S 34 5 = nI (nA A 4) := h.1.2.2.2.2.2.1
    have i4 : xF S 32 4 < 4000 ↔ nA A 7 < 4000 := by rw [h.1.1]; exact nI_ltI (b := 4000) (by omega) (by decide)
    refine ⟨fun q => absurd q (nI_nlt (by omega) (by omega)), fun _ => ?_⟩
    rw [d6, nI_leI (by omega) (by omega), i4]
    refine ⟨fun q => ?_, fun q => ⟨fun q2 => ⟨fun q3 => ?_, fun q3 => ?_⟩, fun q2 => ?_⟩⟩
    · unfold fLoop at hK
      rw [if_neg (by omega)] at hK; exact hK nx S h hm
    · have hp60 : p < 60 := by omega
      have hpA : p < nA A 4 := by omega
      have h7 : nA A 7 ≠ 4000 := by omega
      obtain ⟨w, w7, w4, w26, wI, wr⟩ := b_wf (p := p) hw hpA h7
      have eL : fLoop (d + 1) p A = fSt (fLoop d) p (fB p A).1 (fB p A).2 := by
        rw [fLoop, if_pos hpA, if_neg h7]
      rw [eL] at hK hu
      rintro _ rfl
      obtain ⟨t1, t2, t3, t4, t5⟩ := c_tune h hp60
      have hmono := (st_wf (fun p A => loop_wf d p A) (p := p) (r := (fB p A).1) w).2
      refine ⟨p, rfl, hp60, p, rfl, hp60, p, rfl, hp60, p, rfl, hp60, by omega, ?_⟩
      have e42 : xI (sF S 32 7 (xF S 32 7 + 1)) 42 p = xI A 42 p := t1
      have e43 : xI (sF S 32 7 (xF S 32 7 + 1)) 43 p = xI A 43 p := t2
      have e44 : xI (sF S 32 7 (xF S 32 7 + 1)) 44 p = xI A 44 p := t3
      have e45 : xI (sF S 32 7 (xF S 32 7 + 1)) 45 p = xI A 45 p := t4
      rw [e42, e43, e44, e45]
      refine c_fB h hw hpA q2 ?_
      have e26 : xF (fB p A).2 0 26 = nI (s + 1) := by rw [w26, h26, nI_1]
      clear eL
      generalize (fB p A).1 = r at *
      generalize (fB p A).2 = B at *
      intro nx2 S2 hC2 hm2
      exact c_st (ih (s + 1) (by omega)) hC2 w (by omega) e26 (by omega) (hm.trans hm2) hK
    · exact absurd (nI_inj (by omega) (by omega) q3) (by omega)
    · rintro _ rfl
      unfold fLoop at hK
      rw [if_pos (by omega), if_pos (by omega)] at hK
      exact hK nx _ h.f27 (hm.trans (mfr.F (by decide)).z)
theorem m_fB {fr : Nat → Nat} {A S : xs_T} {p : Nat} {K : Int32 → xs_T → Prop} (h : MA fr A S) (hw : WF A) (hp : p < nA A 4) (h7 : nA A 7 < 4000) (h12 : (xI A 42 p).toInt ≤ 12) (hK : ∀ fr' S', MA fr' (fB p A).2 S' → cf0 S S' → K (fB p A).1 S') : v_X10_begin (xI A 42 p) (xI A 43 p) (xI A 44 p) (xI A 45 p) (sF S 0 26 (xF S 0 26 + 1)) K := by
  have f7 : xF S 0 26 = xF A 0 26 := h.1.2.2.2.2.2.2.2.2.2.1
  have hC1 : MA fr (sF A 0 26 (xF A 0 26 + 1)) (sF S 0 26 (xF S 0 26 + 1)) := by rw [f7]; exact h.f26
  have hw1 : WF (sF A 0 26 (xF A 0 26 + 1)) := hw
  have h71 : nA (sF A 0 26 (xF A 0 26 + 1)) 7 < 4000 := h7
  have m0 : cf0 S (sF S 0 26 (xF S 0 26 + 1)) := (cfr.F (by decide)).z
  refine m_begin hC1 hw1 (hw.2.2.2.2.2.2 p hp) h12 h71 (fun fr2 S2 hC2 hm2 => ?_)
  exact hK fr2 S2 hC2 (m0.trans hm2)
theorem m_st {N p s n : Nat} {fr : Nat → Nat} {S0 B S : xs_T} {r : Int32} {K : Int32 → xs_T → Prop} {L : Nat → xs_T → Int32 × xs_T}
    (ih : ∀ (p' : Nat) (fr : Nat → Nat) (A S : xs_T), MA fr A S → WF A → xF A 0 26 = nI (s + 1) → p' ≤ 200 → cf0 S0 S → (∀ fr' S', MA fr' (L p' A).2 S' → cf0 S0 S' → K (L p' A).1 S') → v_X10_run_46 K n (nI N) (nI p') S)
    (hM : MA fr B S) (w : WF B) (hp : p < nA B 4) (c13 : ¬ xI B 42 p = 13) (c14 : ¬ xI B 42 p = 14) (e26 : xF B 0 26 = nI (s + 1)) (hr : rOK r) (hm : cf0 S0 S) (hK : ∀ fr' S', MA fr' (fSt L p r B).2 S' → cf0 S0 S' → K (fSt L p r B).1 S') :
    (¬ r = 0 → v_X10_behind (nI p) r S (fun (r_45 : Int32) (S_44 : xs_T) => ((0 ≤ r_45 → ((r ≤ 0 → ∀ S_48 : xs_T, S_48 = sF S_44 0 25 (xF S_44 0 25) → v_X10_run_46 K n (nI N) r_45 S_48) ∧ (¬ r ≤ 0 → ∀ S_50 : xs_T, S_50 = sF S_44 0 25 (xF S_44 0 25 + 1) → v_X10_run_46 K n (nI N) r_45 S_50))) ∧ (¬ 0 ≤ r_45 → ∀ S_52 : xs_T, S_52 = sF S_44 0 27 (nI p) → K r S_52)))) ∧
    (r = 0 → ((0 ≤ (nI p + 1) → ((r ≤ 0 → ∀ S_56 : xs_T, S_56 = sF S 0 25 (xF S 0 25) → v_X10_run_46 K n (nI N) (nI p + 1) S_56) ∧ (¬ r ≤ 0 → ∀ S_58 : xs_T, S_58 = sF S 0 25 (xF S 0 25 + 1) → v_X10_run_46 K n (nI N) (nI p + 1) S_58))) ∧ (¬ 0 ≤ (nI p + 1) → ∀ S_60 : xs_T, S_60 = sF S 0 27 (nI p) → K r S_60))) := by
  have h4 := w.1.2.2.2.1
  unfold fSt at hK
  have r0 : r ≤ 0 ↔ r = 0 := by
    rw [Int32.le_iff_toInt_le, i_zero, ti_0]
    have := hr.1
    omega
  refine ⟨fun e => m_behind hM w (by omega) ?_, fun e => ⟨fun _ => ⟨fun _ => ?_, fun z => absurd (r0.mpr e) z⟩, fun z => absurd (show 0 ≤ nI p + 1 from (by rw [nI_1]; exact nI_pos' (by omega))) z⟩⟩
  · rw [if_neg e] at hK
    cases hq : fMt 60 (p + 1) r B with
    | none =>
      rw [hq] at hK
      refine ⟨fun z => absurd z (by decide), fun _ => ?_⟩
      rintro _ rfl
      exact hK fr _ hM.f27 (hm.trans (cfr.F (by decide)).z)
    | some t =>
      rw [hq] at hK
      have ht := mt_le hq
      refine ⟨fun _ => ⟨fun z => absurd (r0.mp z) e, fun _ => ?_⟩, fun z => absurd (nI_pos' (by omega)) z⟩
      rintro _ rfl
      have f6 : xF S 0 25 = xF B 0 25 := hM.1.2.2.2.2.2.2.2.2.1
      rw [f6]
      exact ih t fr _ _ hM.f25 w e26 (by omega) (hm.trans (cfr.F (by decide)).z) hK
  · rintro _ rfl
    rw [if_pos e] at hK
    have en : fNext p B = (p + 1, B) := by
      unfold fNext
      rw [if_neg c13, if_neg c14]
    rw [en] at hK
    rw [nI_1]
    exact ih (p + 1) fr _ _ hM.s25 w e26 (by omega) (hm.trans (cfr.F (by decide)).z) hK
theorem m_loop {N : Nat} {S0 : xs_T} {K : Int32 → xs_T → Prop} (hN : N ≤ 300) :
    ∀ (d s : Nat), s + d = N → ∀ (p : Nat) (fr : Nat → Nat) (A S : xs_T), MA fr A S → WF A → xF A 0 26 = nI s → p ≤ 200 → cf0 S0 S → (∀ fr' S', MA fr' (fLoop d p A).2 S' → cf0 S0 S' → K (fLoop d p A).1 S') → v_X10_run_46 K (d + 1) (nI N) (nI p) S := by
  intro d
  induction d with
  | zero =>
    intro s hs p fr A S h hw h26 hp hm hK
    rw [v_X10_run_46]
    unfold fLoop at hK
    have h4 := hw.1.2.2.2.1
    have hb := hw.1.2.2.2.2.2.1
    have d5 : xF S 0 12 = nI (nA A 4) := h.1.2.2.2.2.1
    have d7 : xF S 0 23 = nI (nA A 7) := h.1.2.2.2.2.2.2.1
    have d10 : xF S 0 26 = nI s := h.1.2.2.2.2.2.2.2.2.2.1.trans h26
    have i4 : nI (nA A 7) = 4000 ↔ nA A 7 = 4000 := nI_eq (b := 4000) (by omega) (by decide)
    have hsN : s = N := by omega
    subst hsN
    rw [d5, nI_leI (by omega) (by omega), d7, i4, d10]
    refine ⟨fun q => ?_, fun q => ⟨fun q2 => ⟨fun q3 => absurd rfl q3, fun _ => ?_⟩, fun q2 => ?_⟩⟩
    · rw [if_neg (by omega)] at hK; exact hK fr S h hm
    · rw [if_pos (by omega), if_neg q2] at hK; exact hK fr S h hm
    · rintro _ rfl
      rw [if_pos (by omega), if_pos q2] at hK
      exact hK fr _ h.f27 (hm.trans (cfr.F (by decide)).z)
  | succ d ih =>
    intro s hs p fr A S h hw h26 hp hm hK
    rw [v_X10_run_46]
    have h4 := hw.1.2.2.2.1
    have hb := hw.1.2.2.2.2.2.1
    have d5 : xF S 0 12 = nI (nA A 4) := h.1.2.2.2.2.1
    have d7 : xF S 0 23 = nI (nA A 7) := h.1.2.2.2.2.2.2.1
    have d10' : xF S 0 26 = xF A 0 26 := h.1.2.2.2.2.2.2.2.2.2.1
    have i4 : xF S 0 23 = 4000 ↔ nA A 7 = 4000 := by rw [d7]; exact nI_eq (b := 4000) (by omega) (by decide)
    have iN : xF S 0 26 = nI N ↔ s = N := by rw [d10', h26]; exact nI_eq (by omega) (by omega)
    have i5 : xF S 0 12 ≤ nI p ↔ nA A 4 ≤ p := by rw [d5]; exact nI_leI (by omega) (by omega)
    rw [i5, i4, iN]
    refine ⟨fun q => ?_, fun q => ⟨fun q2 => ⟨fun q3 => ?_, fun q3 => absurd q3 (by omega)⟩, fun q2 => ?_⟩⟩
    · unfold fLoop at hK
      rw [if_neg (by omega)] at hK; exact hK fr S h hm
    · have hp60 : p < 60 := by omega
      have hpA : p < nA A 4 := by omega
      obtain ⟨w, w7, w4, w26, wI, wr⟩ := b_wf (p := p) hw hpA q2
      have eL : fLoop (d + 1) p A = fSt (fLoop d) p (fB p A).1 (fB p A).2 := by
        rw [fLoop, if_pos hpA, if_neg q2]
      rw [eL] at hK
      clear eL
      rintro _ rfl
      obtain ⟨t1, t2, t3, t4, t5⟩ := m_tune h hp60
      have e26 : xF (fB p A).2 0 26 = nI (s + 1) := by rw [w26, h26, nI_1]
      have e42 : xI (sF S 0 26 (xF S 0 26 + 1)) 13 p = xI A 42 p := t1
      have e43 : xI (sF S 0 26 (xF S 0 26 + 1)) 14 p = xI A 43 p := t2
      have e44 : xI (sF S 0 26 (xF S 0 26 + 1)) 15 p = xI A 44 p := t3
      have e45 : xI (sF S 0 26 (xF S 0 26 + 1)) 16 p = xI A 45 p := t4
      have hM1 : MA fr (sF A 0 26 (xF A 0 26 + 1)) (sF S 0 26 (xF S 0 26 + 1)) := by rw [d10']; exact h.f26
      have hm1 : cf0 S0 (sF S 0 26 (xF S 0 26 + 1)) := hm.trans (cfr.F (by decide)).z
      refine ⟨p, rfl, hp60, ?_⟩
      rw [e42]
      refine ⟨fun c13 => ⟨p, rfl, hp60, ?_⟩, fun c13 => ?_⟩
      · rw [e42]
        refine ⟨fun c14 => ⟨p, rfl, hp60, p, rfl, hp60, p, rfl, hp60, p, rfl, hp60, ?_⟩, fun c14 => ?_⟩
        · rw [e42, e43, e44, e45]
          have ho := hw.2.2.2.2.2.2 p hpA
          have h12 : (xI A 42 p).toInt ≤ 12 := by
            have n13 : ¬ (xI A 42 p).toInt = 13 := fun z => c13 (by rw [← Int32.toInt_inj, ti_13]; exact z)
            have n14 : ¬ (xI A 42 p).toInt = 14 := fun z => c14 (by rw [← Int32.toInt_inj, ti_14]; exact z)
            unfold ordOK at ho
            omega
          refine m_fB h hw hpA (by omega) h12 ?_
          have b13 : ¬ xI (fB p A).2 42 p = 13 := by rw [wI 42 (by decide)]; exact c13
          have b14 : ¬ xI (fB p A).2 42 p = 14 := by rw [wI 42 (by decide)]; exact c14
          clear hM1 hm1
          generalize (fB p A).1 = r at *
          generalize (fB p A).2 = B at *
          intro fr2 S2 hM2 hc2
          exact m_st (ih (s + 1) (by omega)) hM2 w (by omega) b13 b14 e26 wr (hm.trans hc2) hK
        · rintro _ rfl
          have eB : fB p A = (0, fBg (sF A 0 26 (xF A 0 26 + 1))) := beg_13 (Or.inr c14)
          rw [eB] at hK w w4 e26
          have hM2 := hM1.bg
          have c14' : xI (fBg (sF A 0 26 (xF A 0 26 + 1))) 42 p = 14 := c14
          have hm2 : cf0 S0 (sF (sF S 0 26 (xF S 0 26 + 1)) 0 23 (xF (sF S 0 26 (xF S 0 26 + 1)) 0 23 + 1)) := hm1.trans (cfr.F (by decide)).z
          unfold fSt at hK
          rw [if_pos rfl] at hK
          replace hK : ∀ fr' S', MA fr' (fLoop d (fNext p (fBg (sF A 0 26 (xF A 0 26 + 1)))).1 (fNext p (fBg (sF A 0 26 (xF A 0 26 + 1)))).2).2 S' → cf0 S0 S' → K (fLoop d (fNext p (fBg (sF A 0 26 (xF A 0 26 + 1)))).1 (fNext p (fBg (sF A 0 26 (xF A 0 26 + 1)))).2).1 S' := hK
          replace w : WF (fBg (sF A 0 26 (xF A 0 26 + 1))) := w
          replace w4 : nA (fBg (sF A 0 26 (xF A 0 26 + 1))) 4 = nA A 4 := w4
          replace e26 : xF (fBg (sF A 0 26 (xF A 0 26 + 1))) 0 26 = nI (s + 1) := e26
          clear hM1 hm1 e42 e43 e44 e45 eB w7 w26 wI wr
          generalize sF (sF S 0 26 (xF S 0 26 + 1)) 0 23 (xF (sF S 0 26 (xF S 0 26 + 1)) 0 23 + 1) = S2 at *
          generalize fBg (sF A 0 26 (xF A 0 26 + 1)) = B at *
          have n0 := WF.next (p := p) w
          have hl := next_le w (p := p) (by omega)
          refine m_again hM2 w (by omega) c14' (fun S3 hM3 hc3 => ?_)
          exact ih (s + 1) (by omega) _ fr _ S3 hM3 n0.1 (by rw [n0.2.2]; exact e26) (by omega) (hm2.trans hc3.z) hK
      · rintro _ rfl
        have eB : fB p A = (0, fBg (sF A 0 26 (xF A 0 26 + 1))) := beg_13 (Or.inl c13)
        rw [eB] at hK w w4 e26
        have hM2 := hM1.bg
        have hm2 : cf0 S0 (sF (sF S 0 26 (xF S 0 26 + 1)) 0 23 (xF (sF S 0 26 (xF S 0 26 + 1)) 0 23 + 1)) := hm1.trans (cfr.F (by decide)).z
        refine ⟨p, rfl, hp60, ?_⟩
        obtain ⟨c, hc, ec⟩ := ord13 hw hpA c13
        have e45' : xI (sF (sF S 0 26 (xF S 0 26 + 1)) 0 23 (xF (sF S 0 26 (xF S 0 26 + 1)) 0 23 + 1)) 16 p = nI c := e45.trans ec
        rw [e45', nI_1, nI_add]
        have en : fNext p (fBg (sF A 0 26 (xF A 0 26 + 1))) = (p + 1 + c, fBg (sF A 0 26 (xF A 0 26 + 1))) := by
          unfold fNext
          have x1 : xI (fBg (sF A 0 26 (xF A 0 26 + 1))) 42 p = 13 := c13
          have x2 : xI (fBg (sF A 0 26 (xF A 0 26 + 1))) 45 p = nI c := ec
          rw [if_pos x1, x2, sp_t (by omega)]
        unfold fSt at hK
        rw [if_pos rfl] at hK
        replace hK : ∀ fr' S', MA fr' (fLoop d (fNext p (fBg (sF A 0 26 (xF A 0 26 + 1)))).1 (fNext p (fBg (sF A 0 26 (xF A 0 26 + 1)))).2).2 S' → cf0 S0 S' → K (fLoop d (fNext p (fBg (sF A 0 26 (xF A 0 26 + 1)))).1 (fNext p (fBg (sF A 0 26 (xF A 0 26 + 1)))).2).1 S' := hK
        rw [en] at hK
        exact ih (s + 1) (by omega) (p + 1 + c) fr _ _ hM2 w e26 (by omega) hm2 hK
    · rintro _ rfl
      unfold fLoop at hK
      rw [if_pos (by omega), if_pos q2] at hK
      exact hK fr _ h.f27 (hm.trans (cfr.F (by decide)).z)
