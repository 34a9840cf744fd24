/-! the law: both sides hold one state -/
def A0 : xs_T := (fun i k => if i = 0 ∧ k = 27 then -1 else 0, fun _ _ => 0, fun _ _ => 0, fun _ _ => none, fun _ => 0)
theorem nA0 (k : Nat) : nA A0 k = 0 := rfl
theorem WF0 : WF A0 := by
  refine ⟨⟨by decide, by decide, by decide, by decide, by decide, by decide, by decide⟩, fun u hu => ?_, fun f hf => ?_, fun k hk u hu => ?_, fun u hu => ?_, fun j hj => ?_, fun k hk => ?_⟩
  · have := hu.2; have := hu.1; rw [nA0] at *; omega
  · rw [nA0] at hf; omega
  · exact nomatch hu
  · have := hu.2; have := hu.1; rw [nA0] at *; omega
  · rw [nA0] at hj; omega
  · rw [nA0] at hk; omega
theorem CA0 : CA 0 A0 xs0 := by
  refine ⟨⟨rfl, rfl, rfl, rfl, rfl, rfl, rfl, rfl, rfl, rfl, rfl, rfl, rfl⟩, fun k hk => ⟨rfl, rfl, rfl, rfl, rfl⟩, fun k hk => ⟨rfl, rfl⟩, fun f hf => ?_, fun u hu => ?_, fun i k u hu => ?_, by decide, rfl, rfl, fun j hj => ?_⟩
  · rw [nA0] at hf; omega
  · have := hu.2; have := hu.1; rw [nA0] at *; omega
  · exact nomatch hu
  · rw [nA0] at hj; omega
theorem MA0 : MA (fun _ => 0) A0 xs0 := by
  refine ⟨⟨rfl, rfl, rfl, rfl, rfl, rfl, rfl, rfl, rfl, rfl, rfl⟩, fun k hk => ⟨rfl, rfl, rfl, rfl, rfl⟩, fun k hk => ⟨⟨rfl, rfl⟩, rfl⟩, fun f hf => ?_, ⟨fun u hu => ?_, fun u v hu => ?_, fun p hp => rfl⟩, fun j hj => ?_⟩
  · rw [nA0] at hf; omega
  · have := hu.2; have := hu.1; rw [nA0] at *; omega
  · have := hu.2; have := hu.1; rw [nA0] at *; omega
  · rw [nA0] at hj; omega
def Inv (t k9 : Nat) (S : xs_T) : Prop := ∃ A fr nx, WF A ∧ MA fr A S ∧ CA nx A S ∧ k9 ≤ t + nA A 7
theorem beg_7 {A : xs_T} {x1 x2 x3 x4 : Int32} (hw : WF A) : nA (fBeg x1 x2 x3 x4 A).2 7 = nA A 7 + 1 := (beg_i hw).1
theorem law_step {L : Nat} {xs : Nat → Int32} (hL : L ≤ 2560) : ∀ (m t k9 : Nat) (S : xs_T), L < 5 * (t + m) + 5 → t ≤ 512 → Inv t k9 S → v_law L xs (m + 1) k9 (nI (5 * t)) S := by
  intro m
  induction m with
  | zero =>
    intro t k9 S hm ht hI
    rw [v_law]
    have e : (nI L - 5).toInt = (L : Int) - 5 := pk_sub_toInt (b := 5) (by omega) (by decide)
    refine ⟨fun _ => trivial, fun q => absurd ?_ q⟩
    rw [Int32.lt_iff_toInt_lt, e, nI_toInt (by omega)]
    omega
  | succ m ih =>
    intro t k9 S hm ht hI
    rw [v_law]
    have e : (nI L - 5).toInt = (L : Int) - 5 := pk_sub_toInt (b := 5) (by omega) (by decide)
    refine ⟨fun _ => trivial, fun q => ?_⟩
    rw [Int32.lt_iff_toInt_lt, e, nI_toInt (by omega)] at q
    have a1 : nI (5 * t) + 1 = nI (5 * t + 1) := nI_1 _
    have a2 : nI (5 * t) + 2 = nI (5 * t + 2) := nI_add _ 2
    have a3 : nI (5 * t) + 3 = nI (5 * t + 3) := nI_add _ 3
    have a4 : nI (5 * t) + 4 = nI (5 * t + 4) := nI_add _ 4
    have a5 : nI (5 * t) + 5 = nI (5 * (t + 1)) := nI_add _ 5
    rw [a1, a2, a3, a4, a5]
    have l0 : 5 * t < L := by omega
    have l1 : 5 * t + 1 < L := by omega
    have l2 : 5 * t + 2 < L := by omega
    have l3 : 5 * t + 3 < L := by omega
    have l4 : 5 * t + 4 < L := by omega
    obtain ⟨A, fr, nx, hw, hM, hC, hk⟩ := hI
    have hb := hw.1.2.2.2.2.2.1
    have go : ∀ (k' : Nat) (A' : xs_T) (fr' : Nat → Nat) (nx' : Nat) (r : Int32) (S' S'' : xs_T), WF A' → CA nx' A' S' → MA fr' A' S'' → cf0 S' S'' → k' ≤ t + 1 + nA A' 7 → (r = r → v_law L xs (m + 1) k' (nI (5 * (t + 1))) S'') ∧ (¬ r = r → False) := fun k' A' fr' nx' r S' S'' w c M f hk' => ⟨fun _ => ih (t + 1) k' S'' (by omega) (by omega) ⟨A', fr', nx', w, M, c.fr f, hk'⟩, fun z => z rfl⟩
    have gol : ∀ (k' : Nat) (A' : xs_T) (fr' : Nat → Nat) (nx' : Nat) (r : Int64) (S' S'' : xs_T), WF A' → CA nx' A' S' → MA fr' A' S'' → cf0 S' S'' → k' ≤ t + 1 + nA A' 7 → (r = r → v_law L xs (m + 1) k' (nI (5 * (t + 1))) S'') ∧ (¬ r = r → False) := fun k' A' fr' nx' r S' S'' w c M f hk' => ⟨fun _ => ih (t + 1) k' S'' (by omega) (by omega) ⟨A', fr', nx', w, M, c.fr f, hk'⟩, fun z => z rfl⟩
    refine ⟨5 * t, rfl, l0, ?_, ?_, ?_, ?_, ?_, ?_, ?_, ?_, ?_, ?_⟩
    · refine fun _ => ⟨_, rfl, l1, _, rfl, l2, _, rfl, l3, _, rfl, l4, ?_⟩
      refine c_order hC hw (fun ho hn S' hC' hm' => ⟨_, rfl, l1, _, rfl, l2, _, rfl, l3, _, rfl, l4, ?_⟩) (fun hno => ⟨_, rfl, l1, _, rfl, l2, _, rfl, l3, _, rfl, l4, ?_⟩)
      · refine m_order (hM.fr hm'.z) hw (fun _ _ S'' hM' hc' => ?_) (fun z => absurd ⟨ho, hn⟩ z)
        exact go _ _ _ _ _ _ _ (WF_Ord hw ho hn) hC' hM' hc'.z (by show k9 ≤ t + 1 + nA A 7; omega)
      · refine m_order hM hw (fun ho hn => absurd ⟨ho, hn⟩ hno) (fun _ => ?_)
        exact go _ _ _ _ _ _ _ hw hC hM cfr.refl.z (by omega)
    · refine fun _ => ⟨_, rfl, l1, ?_⟩
      refine c_cut hC hw (fun n e hn S' hC' hm' => ⟨_, rfl, l1, ?_⟩) (fun hno => ⟨_, rfl, l1, ?_⟩)
      · have h4 := hw.1.2.2.2.1
        refine m_cut (hM.fr hm'.z) hw (fun n' e' hn' S'' hM' hc' => ?_) (fun z => absurd ?_ z)
        · have : n' = n := nI_inj (by omega) (by omega) (e'.symm.trans e)
          subst this
          exact go _ _ _ _ _ _ _ (WF_Cut hw hn) hC' hM' hc'.z (by show k9 ≤ t + 1 + nA A 7; omega)
        · rw [e, nI_toInt (by omega)]; omega
      · refine m_cut hM hw (fun n e hn => absurd ?_ hno) (fun _ => ?_)
        · have h4 := hw.1.2.2.2.1
          rw [e, nI_toInt (by omega)]; omega
        · exact go _ _ _ _ _ _ _ hw hC hM cfr.refl.z (by omega)
    · refine fun _ => ⟨_, rfl, l1, _, rfl, l2, _, rfl, l3, _, rfl, l4, by omega, ?_⟩
      refine c_act hC hw (fun h12 ho h7 nx' S' hC' hm' => ⟨_, rfl, l1, _, rfl, l2, _, rfl, l3, _, rfl, l4, ?_⟩) (fun h12 ho h7 => ⟨_, rfl, l1, _, rfl, l2, _, rfl, l3, _, rfl, l4, ?_⟩) (fun hno => ⟨_, rfl, l1, _, rfl, l2, _, rfl, l3, _, rfl, l4, ?_⟩)
      · refine m_act (hM.fr hm') hw (fun _ _ _ fr' S'' hM' hc' => ?_) (fun _ _ z => absurd z (by omega)) (fun z => absurd ⟨h12, ho⟩ z)
        have e7 := beg_7 (x1 := xs (5 * t + 1)) (x2 := xs (5 * t + 2)) (x3 := xs (5 * t + 3)) (x4 := xs (5 * t + 4)) hw
        exact go _ _ _ _ _ _ _ (WF.beg hw ho h7) hC' hM' hc' (by rw [e7]; omega)
      · refine m_act hM hw (fun _ _ z => absurd z (by omega)) (fun _ _ _ => ?_) (fun z => absurd ⟨h12, ho⟩ z)
        exact go _ _ _ _ _ _ _ hw hC hM cfr.refl.z (by omega)
      · refine m_act hM hw (fun h12 ho => absurd ⟨h12, ho⟩ hno) (fun h12 ho => absurd ⟨h12, ho⟩ hno) (fun _ => ?_)
        exact go _ _ _ _ _ _ _ hw hC hM cfr.refl.z (by omega)
    · refine fun _ => ⟨_, rfl, l1, ?_⟩
      by_cases hx : 0 ≤ (xs (5 * t + 1)).toInt ∧ (xs (5 * t + 1)).toInt ≤ 300
      · obtain ⟨N, hN, eN⟩ := i_nb (n := 300) hx (by decide)
        obtain ⟨w', mono⟩ := loop_wf N 0 (fStart A) hw.start
        have w'' : WF (fRun N A).2 := w'
        have b' := w''.1.2.2.2.2.2.1
        have mono' : nA A 7 ≤ nA (fRun N A).2 7 := mono
        refine ⟨nA (fRun N A).2 7 - nA A 7, by omega, ?_⟩
        refine c_run hC hw (fun z => absurd hx z) (fun N' e' hN' => ?_)
        have : N' = N := nI_inj (by omega) (by omega) (e'.symm.trans eN)
        subst this
        refine ⟨by omega, fun nx' S' hC' hm' => ⟨_, rfl, l1, ?_⟩⟩
        refine m_run (hM.fr hm') hw (fun z => absurd hx z) (fun N2 e2 hN2 fr' S'' hM' hc' => ?_)
        have : N2 = N' := nI_inj (by omega) (by omega) (e2.symm.trans eN)
        subst this
        exact go _ _ _ _ _ _ _ w'' hC' hM' hc' (by omega)
      · refine ⟨0, by omega, ?_⟩
        refine c_run hC hw (fun _ => ⟨_, rfl, l1, ?_⟩) (fun N' e' hN' => absurd (by rw [e', nI_toInt (by omega)]; omega) hx)
        refine m_run hM hw (fun _ => ?_) (fun N' e' hN' => absurd (by rw [e', nI_toInt (by omega)]; omega) hx)
        exact go _ _ _ _ _ _ _ hw hC hM cfr.refl.z (by omega)
    · refine fun _ => c_back hC hw (fun nx' S' hC' hm' => m_back (hM.fr hm') hw (fun S'' hM' hc' => ?_))
      refine go _ _ _ _ _ _ _ hw.back hC' hM' hc' ?_
      have e7 : nA (fBack A).2 7 = nA A 7 := by
        unfold fBack
        split
        · rfl
        · rfl
      rw [e7]; omega
    · refine fun _ => ⟨_, rfl, l1, _, rfl, l2, c_look hC hw ⟨_, rfl, l1, _, rfl, l2, m_look hM hw ?_⟩⟩
      exact go _ _ _ _ _ _ _ hw hC hM cfr.refl.z (by omega)
    · refine fun _ => ⟨_, rfl, l1, _, rfl, l2, c_cell hC hw ⟨_, rfl, l1, _, rfl, l2, m_cell hM hw ?_⟩⟩
      exact gol _ _ _ _ _ _ _ hw hC hM cfr.refl.z (by omega)
    · refine fun _ => ⟨_, rfl, l1, c_sort hC hw ⟨_, rfl, l1, m_sort hM hw ?_⟩⟩
      exact go _ _ _ _ _ _ _ hw hC hM cfr.refl.z (by omega)
    · refine fun _ => ⟨_, rfl, l1, c_count hC ⟨_, rfl, l1, m_count hM ?_⟩⟩
      exact go _ _ _ _ _ _ _ hw hC hM cfr.refl.z (by omega)
    · intros
      exact ih (t + 1) k9 S (by omega) (by omega) ⟨A, fr, nx, hw, hM, hC, by omega⟩
theorem pure_law (L : Nat) (xs : Nat → Int32) (hL : L ≤ 2560) : ∃ n, v_law L xs n 0 0 xs0 := ⟨_, law_step hL 513 0 0 xs0 (by omega) (by omega) ⟨A0, _, 0, WF0, MA0, CA0, Nat.zero_le _⟩⟩
