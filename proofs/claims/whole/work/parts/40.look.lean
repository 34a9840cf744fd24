/-! look -/
def fFst (A : xs_T) (q : Option Nat) : Nat → Nat → Nat
  | 0, j => j
  | n + 1, j => if xQ A 37 j = q then j else fFst A q n (j + 1)
def fApp (A : xs_T) (q : Option Nat) : Int32 := match q with
  | none => -1
  | some u => if u < 184 then nI (xN A u) else if u < 704 then 12 + nI (xN A u) else 12
def fMea (A : xs_T) (q : Option Nat) : Int32 := match q with
  | none => -1
  | some u => if u < 184 then nI (xN A (u + 120)) else if u < 704 then nI (u - 303) else -1
def fLst (A : xs_T) (k : Nat) : Int32 := if xQ A 37 k = none then -1 else nI (fFst A (xQ A 37 k) 10 0)
def fLook (x1 x2 : Int32) (A : xs_T) : Int32 := if 0 ≤ x1.toInt ∧ x1.toInt ≤ 9 then (if x2 = 0 then fApp A (xQ A 37 x1.toInt.toNat) else if x2 = 1 then fMea A (xQ A 37 x1.toInt.toNat) else if x2 = 2 then xI A 38 x1.toInt.toNat else if x2 = 3 then fLst A x1.toInt.toNat else -1) else -1
theorem c_first {nx : Nat} {A S : xs_T} {k u : Nat} {K : Int32 → xs_T → Prop} (h : CA nx A S) (hw : WF A) (hk : k < 10) (hu : xQ A 37 k = some u) : ∀ (n j : Nat), j + n = 10 → j ≤ k → K (nI (fFst A (xQ A 37 k) n j)) S → v_X0_leastHolder_8 K (n + 1) u (nI j) S := by
  intro n
  induction n with
  | zero => intro j hj hjk; omega
  | succ n ih =>
    intro j hj hjk hK
    rw [v_X0_leastHolder_8]
    unfold fFst at hK
    have ho : oT S (some u) := CA_oT h hw (by rw [← hu]; exact hw.2.2.2.1 k hk)
    refine ⟨fun q => absurd q (nI_ge (a := j) (b := 10) (by omega) (by decide)), fun _ => ⟨j, rfl, by omega, CA_oT h hw (by rw [h.held (by omega)]; exact hw.2.2.2.1 j (by omega)), ho, ?_⟩⟩
    rw [h.held (by omega), ← hu]
    refine ⟨fun q => ?_, fun q => ?_⟩
    · rw [if_neg q] at hK
      rw [nI_1]
      have hne : j ≠ k := fun z => q (by rw [z])
      exact ih (j + 1) (by omega) (by omega) hK
    · rw [if_pos q] at hK; exact hK
theorem c_look {nx : Nat} {A S : xs_T} {x1 x2 : Int32} {K : Int32 → xs_T → Prop} (h : CA nx A S) (hw : WF A) (hK : K (fLook x1 x2 A) S) : v_X9_look x1 x2 S K := by
  unfold v_X9_look
  unfold fLook at hK
  refine s_spin (fun hs => ⟨fun _ => ?_, fun z => absurd z (by decide)⟩) (fun hs => ⟨fun z => absurd rfl z, fun _ => by rw [if_neg hs] at hK; exact hK⟩)
  rw [if_pos hs] at hK
  obtain ⟨k, hk, rfl⟩ := i_sp hs
  rw [sp_t (by omega)] at hK
  have n10 : ¬ (1 : Int32) = 0 := by decide
  have n20 : ¬ (2 : Int32) = 0 := by decide
  have n21 : ¬ (2 : Int32) = 1 := by decide
  have n30 : ¬ (3 : Int32) = 0 := by decide
  have n31 : ¬ (3 : Int32) = 1 := by decide
  have n32 : ¬ (3 : Int32) = 2 := by decide
  have hR := hw.1.1
  have hG := hw.1.2.1
  refine ⟨k, rfl, hk, fun q => ?_, fun q => ?_, fun q => ⟨k, rfl, hk, ?_⟩, fun q => ?_, fun q0 q1 q2 q3 => ?_⟩
  · rw [if_pos q] at hK
    rw [h.held hk]
    refine ⟨fun z => by rw [z] at hK; exact hK, fun u z => ⟨by rw [← z]; exact CA_oT h hw (hw.2.2.2.1 k hk), fun o => ?_, fun o => ?_, fun o => ?_⟩⟩
    · rw [z] at hK
      have o2 := CA_oW h o
      have hK : K (if u < 184 then nI (xN A u) else _) S := hK
      rw [if_pos o.2.1] at hK
      refine ⟨o, ?_⟩
      rw [c_kind h o2]; exact hK
    · rw [z] at hK
      have o2 := CA_oG' h o
      have hK : K (if u < 184 then nI (xN A u) else if u < 704 then 12 + nI (xN A u) else 12) S := hK
      rw [if_neg (by omega), if_pos (by omega)] at hK
      refine ⟨o, ?_⟩
      have := (h.2.2.2.1 (u - 304) (by omega)).1
      rw [show 304 + (u - 304) = u by omega] at this
      rw [this]; exact hK
    · rw [z] at hK
      have hK : K (if u < 184 then nI (xN A u) else if u < 704 then 12 + nI (xN A u) else 12) S := hK
      have := o.1
      rw [if_neg (by omega), if_neg (by omega)] at hK
      exact hK
  · rw [q, if_neg n10, if_pos rfl] at hK
    rw [h.held hk]
    refine ⟨fun z => by rw [z] at hK; exact hK, fun u z => ⟨by rw [← z]; exact CA_oT h hw (hw.2.2.2.1 k hk), fun o => ?_, fun o => ?_, fun o => ?_⟩⟩
    · rw [z] at hK
      have o2 := CA_oW h o
      have hK : K (if u < 184 then nI (xN A (u + 120)) else _) S := hK
      rw [if_pos o.2.1] at hK
      refine ⟨o, ?_⟩
      rw [c_len h o2]; exact hK
    · rw [z] at hK
      have o2 := CA_oG' h o
      have hK : K (if u < 184 then nI (xN A (u + 120)) else if u < 704 then nI (u - 303) else -1) S := hK
      rw [if_neg (by omega), if_pos (by omega)] at hK
      refine ⟨o, ?_⟩
      have := (h.2.2.2.1 (u - 304) (by omega)).2.1
      rw [show 304 + (u - 304) = u by omega, show u - 304 + 1 = u - 303 by omega] at this
      rw [this]; exact hK
    · rw [z] at hK
      have hK : K (if u < 184 then nI (xN A (u + 120)) else if u < 704 then nI (u - 303) else -1) S := hK
      have := o.1
      rw [if_neg (by omega), if_neg (by omega)] at hK
      exact hK
  · rw [q, if_neg n20, if_neg n21, if_pos rfl] at hK
    rw [h.mark hk]; exact hK
  · rw [q, if_neg n30, if_neg n31, if_neg n32, if_pos rfl] at hK
    unfold v_X0_leastHolder
    unfold fLst at hK
    rw [h.held hk]
    refine ⟨fun z => by rw [if_pos z] at hK; exact hK, fun u z => ?_⟩
    rw [if_neg (by rw [z]; exact fun y => nomatch y)] at hK
    exact ⟨_, c_first h hw hk z 10 0 (by omega) (by omega) hK⟩
  · rw [if_neg q0, if_neg q1, if_neg q2, if_neg q3] at hK; exact hK
theorem hM_eq {A : xs_T} {a b c d : Int32} {q r : Option Nat} (hw : WF A) (hq : hT A q) (hr : hT A r) (h1 : hM a b q) (h2 : hM c d r) : (a = c ∧ b = d) ↔ q = r := by
  have b0 := hw.1.1
  have b1 := hw.1.2.1
  have b7 := hw.1.2.2.2.2.2.1
  have b2 := hw.1.2.2.2.2.2.2
  constructor
  · rintro ⟨rfl, rfl⟩
    cases q with
    | none =>
      have := (hM_none h2).mp h1.1
      exact this.symm
    | some u =>
      cases r with
      | none =>
        have := (hM_none h1).mp h2.1
        exact this
      | some v =>
        have u1 := hq u rfl
        have v1 := hr v rfl
        congr 1
        rcases h1 with ⟨p1, p2, p3⟩ | ⟨p0, p1, p2, p3⟩ | ⟨p1, p2, p3⟩
        · rcases h2 with ⟨s1, s2, s3⟩ | ⟨s0, s1, s2, s3⟩ | ⟨s1, s2, s3⟩
          · have := nI_inj (by omega) (by omega) (p3.symm.trans s3); omega
          · exact absurd (p2.symm.trans s2) (by decide)
          · exact absurd (p2.symm.trans s2) (by decide)
        · rcases h2 with ⟨s1, s2, s3⟩ | ⟨s0, s1, s2, s3⟩ | ⟨s1, s2, s3⟩
          · exact absurd (p2.symm.trans s2) (by decide)
          · have := nI_inj (by omega) (by omega) (p3.symm.trans s3); omega
          · exact absurd (p2.symm.trans s2) (by decide)
        · rcases h2 with ⟨s1, s2, s3⟩ | ⟨s0, s1, s2, s3⟩ | ⟨s1, s2, s3⟩
          · exact absurd (p2.symm.trans s2) (by decide)
          · exact absurd (p2.symm.trans s2) (by decide)
          · have := nI_inj (by omega) (by omega) (p3.symm.trans s3); omega
  · rintro rfl
    cases q with
    | none => exact ⟨h1.1.trans h2.1.symm, h1.2.trans h2.2.symm⟩
    | some u =>
      rcases h1 with ⟨p1, p2, p3⟩ | ⟨p0, p1, p2, p3⟩ | ⟨p1, p2, p3⟩
      · rcases h2 with ⟨s1, s2, s3⟩ | ⟨s0, s1, s2, s3⟩ | ⟨s1, s2, s3⟩
        · exact ⟨p2.trans s2.symm, p3.trans s3.symm⟩
        · omega
        · omega
      · rcases h2 with ⟨s1, s2, s3⟩ | ⟨s0, s1, s2, s3⟩ | ⟨s1, s2, s3⟩
        · omega
        · exact ⟨p2.trans s2.symm, p3.trans s3.symm⟩
        · omega
      · rcases h2 with ⟨s1, s2, s3⟩ | ⟨s0, s1, s2, s3⟩ | ⟨s1, s2, s3⟩
        · omega
        · omega
        · exact ⟨p2.trans s2.symm, p3.trans s3.symm⟩
theorem m_first {fr : Nat → Nat} {A S : xs_T} {k : Nat} {K : Int32 → xs_T → Prop} (h : MA fr A S) (hw : WF A) (hk : k < 10) : ∀ (n j : Nat), j + n = 10 → j ≤ k → K (nI (fFst A (xQ A 37 k) n j)) S → v_X10_first_2 K (n + 1) (nI k) (nI j) S := by
  intro n
  induction n with
  | zero => intro j hj hjk; omega
  | succ n ih =>
    intro j hj hjk hK
    rw [v_X10_first_2]
    unfold fFst at hK
    have e := hM_eq hw (hw.2.2.2.1 j (by omega)) (hw.2.2.2.1 k hk) (m_held h (k := j) (by omega)) (m_held h hk)
    have go : ¬ xQ A 37 j = xQ A 37 k → v_X10_first_2 K (n + 1) (nI k) (nI j + 1) S := fun q => by
      rw [if_neg q] at hK
      rw [nI_1]
      have hne : j ≠ k := fun z => q (by rw [z])
      exact ih (j + 1) (by omega) (by omega) hK
    refine ⟨j, rfl, by omega, k, rfl, hk, fun q => go (fun z => q (e.mpr z).1), fun q => ⟨j, rfl, by omega, k, rfl, hk, fun q2 => ?_, fun q2 => go (fun z => q2 (e.mpr z).2)⟩⟩
    rw [if_pos (e.mp ⟨q, q2⟩)] at hK
    exact hK
theorem m_look {fr : Nat → Nat} {A S : xs_T} {x1 x2 : Int32} {K : Int32 → xs_T → Prop} (h : MA fr A S) (hw : WF A) (hK : K (fLook x1 x2 A) S) : v_X10_look x1 x2 S K := by
  unfold v_X10_look
  unfold fLook at hK
  refine s_in3 (fun hs => ?_) (fun hs => by rw [ti_0, ti_9] at hs; rw [if_neg hs] at hK; exact hK)
  rw [ti_0, ti_9] at hs
  rw [if_pos hs] at hK
  obtain ⟨k, hk, rfl⟩ := i_sp hs
  rw [sp_t (by omega)] at hK
  have n10 : ¬ (1 : Int32) = 0 := by decide
  have n20 : ¬ (2 : Int32) = 0 := by decide
  have n21 : ¬ (2 : Int32) = 1 := by decide
  have n30 : ¬ (3 : Int32) = 0 := by decide
  have n31 : ¬ (3 : Int32) = 1 := by decide
  have n32 : ¬ (3 : Int32) = 2 := by decide
  have n12 : ¬ (1 : Int32) = 2 := by decide
  have n13 : ¬ (1 : Int32) = 3 := by decide
  have n23 : ¬ (2 : Int32) = 3 := by decide
  have n01 : ¬ (0 : Int32) = 1 := by decide
  have n02 : ¬ (0 : Int32) = 2 := by decide
  have n03 : ¬ (0 : Int32) = 3 := by decide
  have hR := hw.1.1
  have hG := hw.1.2.1
  have g := m_held h hk
  have hT1 := hw.2.2.2.1 k hk
  refine ⟨fun q => ⟨k, rfl, hk, ?_⟩, fun q => ⟨k, rfl, hk, ?_⟩, fun q => ⟨k, rfl, hk, ?_⟩, fun q => ⟨k, rfl, hk, ?_⟩, fun q0 q1 q2 q3 => ?_⟩
  · rw [if_pos q] at hK
    cases hq : xQ A 37 k with
    | none =>
      rw [hq] at hK g
      exact ⟨fun z => absurd g.1 z, fun _ => hK⟩
    | some u =>
      rw [hq] at hK g hT1
      have hK : K (if u < 184 then nI (xN A u) else if u < 704 then 12 + nI (xN A u) else 12) S := hK
      rcases g with ⟨p1, p2, p3⟩ | ⟨p0, p1, p2, p3⟩ | ⟨p1, p2, p3⟩
      · rw [if_pos p1] at hK
        have o : oW A u := by
          rcases hT1 u rfl with z | z | z
          · exact z
          · omega
          · omega
        have o1 := o.1
        refine ⟨fun _ => ⟨k, rfl, hk, fun z => absurd p2 z, fun _ => ⟨k, rfl, hk, u - 64, p3, by omega, ?_⟩⟩, fun z => absurd (p2.symm.trans z) n10⟩
        rw [(m_row h o).1]; exact hK
      · rw [if_neg (by omega), if_pos p1] at hK
        have o : u < 304 + nA A 1 := by
          rcases hT1 u rfl with z | z | z
          · have := z.2; omega
          · exact z.2
          · omega
        have := h.2.2.2.1 (u - 304) (by omega)
        rw [show u - 304 + 1 = u - 303 by omega, show 304 + (u - 304) = u by omega] at this
        refine ⟨fun _ => ⟨k, rfl, hk, fun _ => ⟨k, rfl, hk, fun _ => ⟨k, rfl, hk, u - 303, p3, by omega, ?_⟩, fun z => absurd (p2.symm.trans z) n32⟩, fun z => absurd (p2.symm.trans z) n31⟩, fun z => absurd (p2.symm.trans z) n30⟩
        rw [this]; exact hK
      · rw [if_neg (by omega), if_neg (by omega)] at hK
        exact ⟨fun _ => ⟨k, rfl, hk, fun _ => ⟨k, rfl, hk, fun z => absurd p2 z, fun _ => hK⟩, fun z => absurd (p2.symm.trans z) n21⟩, fun z => absurd (p2.symm.trans z) n20⟩
  · rw [q, if_neg n10, if_pos rfl] at hK
    cases hq : xQ A 37 k with
    | none =>
      rw [hq] at hK g
      exact ⟨fun _ => ⟨k, rfl, hk, fun _ => hK, fun z => absurd (g.1.symm.trans z) n03⟩, fun z => absurd (g.1.symm.trans z) n01⟩
    | some u =>
      rw [hq] at hK g hT1
      have hK : K (if u < 184 then nI (xN A (u + 120)) else if u < 704 then nI (u - 303) else -1) S := hK
      rcases g with ⟨p1, p2, p3⟩ | ⟨p0, p1, p2, p3⟩ | ⟨p1, p2, p3⟩
      · rw [if_pos p1] at hK
        have o : oW A u := by
          rcases hT1 u rfl with z | z | z
          · exact z
          · omega
          · omega
        have o1 := o.1
        refine ⟨fun z => absurd p2 z, fun _ => ⟨k, rfl, hk, u - 64, p3, by omega, ?_⟩⟩
        rw [(m_row h o).2.1]; exact hK
      · rw [if_neg (by omega), if_pos p1] at hK
        refine ⟨fun _ => ⟨k, rfl, hk, fun z => absurd p2 z, fun _ => ⟨k, rfl, hk, ?_⟩⟩, fun z => absurd (p2.symm.trans z) n31⟩
        rw [p3]; exact hK
      · rw [if_neg (by omega), if_neg (by omega)] at hK
        exact ⟨fun _ => ⟨k, rfl, hk, fun _ => hK, fun z => absurd (p2.symm.trans z) n23⟩, fun z => absurd (p2.symm.trans z) n21⟩
  · rw [q, if_neg n20, if_neg n21, if_pos rfl] at hK
    rw [m_mark h hk]; exact hK
  · rw [q, if_neg n30, if_neg n31, if_neg n32, if_pos rfl] at hK
    unfold fLst at hK
    refine ⟨fun z => ?_, fun z => ?_⟩
    · rw [if_neg (fun y => z ((hM_none g).mpr y))] at hK
      exact ⟨_, m_first h hw hk 10 0 (by omega) (by omega) hK⟩
    · rw [if_pos ((hM_none g).mp z)] at hK
      exact hK
  · rw [if_neg q0, if_neg q1, if_neg q2, if_neg q3] at hK; exact hK
