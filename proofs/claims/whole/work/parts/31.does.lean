/-! what an order does -/
def fDoN (k a b : Nat) (c : Int32) (A : xs_T) : Int32 × xs_T := match k with
  | 0 => (0, sI A 38 a c)
  | 1 => fSplice A a b c
  | 2 => fTurn A a c
  | 3 => fOpen A a c
  | 4 => fShut A a c
  | 5 => fMake A a b c
  | 6 => fTwin A a b
  | 7 => (0, sQ A 37 a (xQ A 37 b))
  | 8 => (0, fSwap a b A)
  | 9 => fHang A a b
  | 10 => fPin A a c
  | 11 => fSeat A a b
  | 12 => fLift A a b
  | _ => (0, A)
def fDo (x1 x2 x3 x4 : Int32) (A : xs_T) : Int32 × xs_T := fDoN x1.toInt.toNat x2.toInt.toNat x3.toInt.toNat x4 A
theorem i_nb {x : Int32} {n : Nat} (h : 0 ≤ x.toInt ∧ x.toInt ≤ n) (hn : n < 2 ^ 31) : ∃ k : Nat, k ≤ n ∧ x = nI k := by
  obtain ⟨k, h1, h2⟩ := i_nat h.1
  subst h2
  rw [nI_toInt h1] at h
  exact ⟨k, by omega, rfl⟩
theorem fDo_nI {k a b : Nat} {x2 x3 x4 : Int32} {A : xs_T} (hk : k < 2 ^ 31) : fDo (nI k) x2 x3 x4 A = fDoN k x2.toInt.toNat x3.toInt.toNat x4 A := by
  unfold fDo
  rw [nI_toInt hk, Int.toNat_natCast]
theorem sp_t {a : Nat} (h : a < 100) : (nI a).toInt.toNat = a := by rw [nI_toInt (by omega), Int.toNat_natCast]
theorem c_perform {nx : Nat} {A S : xs_T} {x1 x2 x3 x4 : Int32} {K : Int32 → xs_T → Prop} (h : CA nx A S) (hw : WF A) (ho : ordOK x1 x2 x3 x4) (hK : CK nx S K (fDo x1 x2 x3 x4 A)) : v_X0_perform x1 x2 x3 x4 S K := by
  unfold v_X0_perform
  refine ⟨fun q => ?_, fun q => ?_, fun q => ?_, fun q => ?_, fun q => ?_, fun q => ?_, fun q => ?_, fun q => ?_, fun q => ?_, fun q => ?_, fun q => ?_, fun q => ?_, fun q => ?_, fun q0 q1 q2 q3 q4 q5 q6 q7 q8 q9 q10 q11 q12 => ?_⟩
  · subst q
    have hk : fDo 0 x2 x3 x4 A = fDoN 0 x2.toInt.toNat x3.toInt.toNat x4 A := by unfold fDo; rw [ti_0]; rfl
    rw [hk] at hK
    unfold ordOK at ho
    rw [ti_0] at ho
    obtain ⟨a, ha, rfl⟩ := i_sp (x := x2) (by omega)
    rw [sp_t (by omega)] at hK
    refine ⟨a, rfl, ha, ?_⟩
    rintro _ rfl
    exact hK _ h.mark' (mfr.I (by decide))
  · subst q
    have hk : fDo 1 x2 x3 x4 A = fDoN 1 x2.toInt.toNat x3.toInt.toNat x4 A := by unfold fDo; rw [ti_1]; rfl
    rw [hk] at hK
    unfold ordOK at ho
    rw [ti_1] at ho
    obtain ⟨a, ha, rfl⟩ := i_sp (x := x2) (by omega)
    rw [sp_t (by omega)] at hK
    obtain ⟨b, hb, rfl⟩ := i_sp (x := x3) (by omega)
    rw [sp_t (by omega)] at hK
    exact c_splice h hw ha hb hK
  · subst q
    have hk : fDo 2 x2 x3 x4 A = fDoN 2 x2.toInt.toNat x3.toInt.toNat x4 A := by unfold fDo; rw [ti_2]; rfl
    rw [hk] at hK
    unfold ordOK at ho
    rw [ti_2] at ho
    obtain ⟨a, ha, rfl⟩ := i_sp (x := x2) (by omega)
    rw [sp_t (by omega)] at hK
    exact c_turn h hw ha hK
  · subst q
    have hk : fDo 3 x2 x3 x4 A = fDoN 3 x2.toInt.toNat x3.toInt.toNat x4 A := by unfold fDo; rw [ti_3]; rfl
    rw [hk] at hK
    unfold ordOK at ho
    rw [ti_3] at ho
    obtain ⟨a, ha, rfl⟩ := i_sp (x := x2) (by omega)
    rw [sp_t (by omega)] at hK
    exact c_open h hw ha hK
  · subst q
    have hk : fDo 4 x2 x3 x4 A = fDoN 4 x2.toInt.toNat x3.toInt.toNat x4 A := by unfold fDo; rw [ti_4]; rfl
    rw [hk] at hK
    unfold ordOK at ho
    rw [ti_4] at ho
    obtain ⟨a, ha, rfl⟩ := i_sp (x := x2) (by omega)
    rw [sp_t (by omega)] at hK
    exact c_shut h hw ha hK
  · subst q
    have hk : fDo 5 x2 x3 x4 A = fDoN 5 x2.toInt.toNat x3.toInt.toNat x4 A := by unfold fDo; rw [ti_5]; rfl
    rw [hk] at hK
    unfold ordOK at ho
    rw [ti_5] at ho
    obtain ⟨a, ha, rfl⟩ := i_sp (x := x2) (by omega)
    rw [sp_t (by omega)] at hK
    obtain ⟨b, hb, rfl⟩ := i_nb (x := x3) (n := 11) (by omega) (by decide)
    rw [sp_t (by omega)] at hK
    exact c_make h hw ha hb hK
  · subst q
    have hk : fDo 6 x2 x3 x4 A = fDoN 6 x2.toInt.toNat x3.toInt.toNat x4 A := by unfold fDo; rw [ti_6]; rfl
    rw [hk] at hK
    unfold ordOK at ho
    rw [ti_6] at ho
    obtain ⟨a, ha, rfl⟩ := i_sp (x := x2) (by omega)
    rw [sp_t (by omega)] at hK
    obtain ⟨b, hb, rfl⟩ := i_sp (x := x3) (by omega)
    rw [sp_t (by omega)] at hK
    exact c_twin h hw ha hb hK
  · subst q
    have hk : fDo 7 x2 x3 x4 A = fDoN 7 x2.toInt.toNat x3.toInt.toNat x4 A := by unfold fDo; rw [ti_7]; rfl
    rw [hk] at hK
    unfold ordOK at ho
    rw [ti_7] at ho
    obtain ⟨a, ha, rfl⟩ := i_sp (x := x2) (by omega)
    rw [sp_t (by omega)] at hK
    obtain ⟨b, hb, rfl⟩ := i_sp (x := x3) (by omega)
    rw [sp_t (by omega)] at hK
    refine ⟨b, rfl, hb, CA_oT h hw (by rw [h.held hb]; exact hw.2.2.2.1 b hb), a, rfl, ha, ?_⟩
    rintro _ rfl
    rw [h.held hb]
    exact hK _ (h.hold (hw.2.2.2.1 b hb)) mfr.Q
  · subst q
    have hk : fDo 8 x2 x3 x4 A = fDoN 8 x2.toInt.toNat x3.toInt.toNat x4 A := by unfold fDo; rw [ti_8]; rfl
    rw [hk] at hK
    unfold ordOK at ho
    rw [ti_8] at ho
    obtain ⟨a, ha, rfl⟩ := i_sp (x := x2) (by omega)
    rw [sp_t (by omega)] at hK
    obtain ⟨b, hb, rfl⟩ := i_sp (x := x3) (by omega)
    rw [sp_t (by omega)] at hK
    exact c_swap h hw ha hb hK
  · subst q
    have hk : fDo 9 x2 x3 x4 A = fDoN 9 x2.toInt.toNat x3.toInt.toNat x4 A := by unfold fDo; rw [ti_9]; rfl
    rw [hk] at hK
    unfold ordOK at ho
    rw [ti_9] at ho
    obtain ⟨a, ha, rfl⟩ := i_sp (x := x2) (by omega)
    rw [sp_t (by omega)] at hK
    obtain ⟨b, hb, rfl⟩ := i_nb (x := x3) (n := 5) (by omega) (by decide)
    rw [sp_t (by omega)] at hK
    exact c_hang h hw ha hb hK
  · subst q
    have hk : fDo 10 x2 x3 x4 A = fDoN 10 x2.toInt.toNat x3.toInt.toNat x4 A := by unfold fDo; rw [ti_10]; rfl
    rw [hk] at hK
    unfold ordOK at ho
    rw [ti_10] at ho
    obtain ⟨a, ha, rfl⟩ := i_sp (x := x2) (by omega)
    rw [sp_t (by omega)] at hK
    exact c_pin h hw ha hK
  · subst q
    have hk : fDo 11 x2 x3 x4 A = fDoN 11 x2.toInt.toNat x3.toInt.toNat x4 A := by unfold fDo; rw [ti_11]; rfl
    rw [hk] at hK
    unfold ordOK at ho
    rw [ti_11] at ho
    obtain ⟨a, ha, rfl⟩ := i_sp (x := x2) (by omega)
    rw [sp_t (by omega)] at hK
    obtain ⟨b, hb, rfl⟩ := i_sp (x := x3) (by omega)
    rw [sp_t (by omega)] at hK
    exact c_seat h hw ha hb hK
  · subst q
    have hk : fDo 12 x2 x3 x4 A = fDoN 12 x2.toInt.toNat x3.toInt.toNat x4 A := by unfold fDo; rw [ti_12]; rfl
    rw [hk] at hK
    unfold ordOK at ho
    rw [ti_12] at ho
    obtain ⟨a, ha, rfl⟩ := i_sp (x := x2) (by omega)
    rw [sp_t (by omega)] at hK
    obtain ⟨b, hb, rfl⟩ := i_sp (x := x3) (by omega)
    rw [sp_t (by omega)] at hK
    exact c_lift h hw ha hb hK
  · have hx : x1.toInt = 13 ∨ x1.toInt = 14 := by
      have hb : 0 ≤ x1.toInt ∧ x1.toInt ≤ 14 := by unfold ordOK at ho; omega
      obtain ⟨k, hk, rfl⟩ := i_nb (n := 14) hb (by decide)
      rcases (show k = 0 ∨ k = 1 ∨ k = 2 ∨ k = 3 ∨ k = 4 ∨ k = 5 ∨ k = 6 ∨ k = 7 ∨ k = 8 ∨ k = 9 ∨ k = 10 ∨ k = 11 ∨ k = 12 ∨ k = 13 ∨ k = 14 by omega) with rfl | rfl | rfl | rfl | rfl | rfl | rfl | rfl | rfl | rfl | rfl | rfl | rfl | rfl | rfl
      · exact absurd rfl q0
      · exact absurd rfl q1
      · exact absurd rfl q2
      · exact absurd rfl q3
      · exact absurd rfl q4
      · exact absurd rfl q5
      · exact absurd rfl q6
      · exact absurd rfl q7
      · exact absurd rfl q8
      · exact absurd rfl q9
      · exact absurd rfl q10
      · exact absurd rfl q11
      · exact absurd rfl q12
      · exact Or.inl rfl
      · exact Or.inr rfl
    have e : fDo x1 x2 x3 x4 A = (0, A) := by
      unfold fDo
      rcases hx with z | z
      · rw [z]; rfl
      · rw [z]; rfl
    rw [e] at hK
    exact hK S h mfr.refl
theorem m_does {fr : Nat → Nat} {A S : xs_T} {x1 x2 x3 x4 : Int32} {K : Int32 → xs_T → Prop} (h : MA fr A S) (hw : WF A) (ho : ordOK x1 x2 x3 x4) (h12 : x1.toInt ≤ 12) (hK : MK S K (fDo x1 x2 x3 x4 A)) : v_X10_does x1 x2 x3 x4 S K := by
  unfold v_X10_does
  refine ⟨fun q => ?_, fun q => ?_, fun q => ?_, fun q => ?_, fun q => ?_, fun q => ?_, fun q => ?_, fun q => ?_, fun q => ?_, fun q => ?_, fun q => ?_, fun q => ?_, fun q0 q1 q2 q3 q4 q5 q6 q7 q8 q9 q10 q11 => ?_⟩
  · subst q
    have hk : fDo 0 x2 x3 x4 A = fDoN 0 x2.toInt.toNat x3.toInt.toNat x4 A := by unfold fDo; rw [ti_0]; rfl
    rw [hk] at hK
    unfold ordOK at ho
    rw [ti_0] at ho
    obtain ⟨a, ha, rfl⟩ := i_sp (x := x2) (by omega)
    rw [sp_t (by omega)] at hK
    refine ⟨a, rfl, ha, ?_⟩
    rintro _ rfl
    exact hK fr _ h.mark' (cfr.I (by decide))
  · subst q
    have hk : fDo 1 x2 x3 x4 A = fDoN 1 x2.toInt.toNat x3.toInt.toNat x4 A := by unfold fDo; rw [ti_1]; rfl
    rw [hk] at hK
    unfold ordOK at ho
    rw [ti_1] at ho
    obtain ⟨a, ha, rfl⟩ := i_sp (x := x2) (by omega)
    rw [sp_t (by omega)] at hK
    obtain ⟨b, hb, rfl⟩ := i_sp (x := x3) (by omega)
    rw [sp_t (by omega)] at hK
    exact m_splice h hw ha hb hK
  · subst q
    have hk : fDo 2 x2 x3 x4 A = fDoN 2 x2.toInt.toNat x3.toInt.toNat x4 A := by unfold fDo; rw [ti_2]; rfl
    rw [hk] at hK
    unfold ordOK at ho
    rw [ti_2] at ho
    obtain ⟨a, ha, rfl⟩ := i_sp (x := x2) (by omega)
    rw [sp_t (by omega)] at hK
    exact m_turn h hw ha hK
  · subst q
    have hk : fDo 3 x2 x3 x4 A = fDoN 3 x2.toInt.toNat x3.toInt.toNat x4 A := by unfold fDo; rw [ti_3]; rfl
    rw [hk] at hK
    unfold ordOK at ho
    rw [ti_3] at ho
    obtain ⟨a, ha, rfl⟩ := i_sp (x := x2) (by omega)
    rw [sp_t (by omega)] at hK
    exact m_open h hw ha hK
  · subst q
    have hk : fDo 4 x2 x3 x4 A = fDoN 4 x2.toInt.toNat x3.toInt.toNat x4 A := by unfold fDo; rw [ti_4]; rfl
    rw [hk] at hK
    unfold ordOK at ho
    rw [ti_4] at ho
    obtain ⟨a, ha, rfl⟩ := i_sp (x := x2) (by omega)
    rw [sp_t (by omega)] at hK
    exact m_shut h hw ha hK
  · subst q
    have hk : fDo 5 x2 x3 x4 A = fDoN 5 x2.toInt.toNat x3.toInt.toNat x4 A := by unfold fDo; rw [ti_5]; rfl
    rw [hk] at hK
    unfold ordOK at ho
    rw [ti_5] at ho
    obtain ⟨a, ha, rfl⟩ := i_sp (x := x2) (by omega)
    rw [sp_t (by omega)] at hK
    obtain ⟨b, hb, rfl⟩ := i_nb (x := x3) (n := 11) (by omega) (by decide)
    rw [sp_t (by omega)] at hK
    exact m_makeOn h hw ha hK
  · subst q
    have hk : fDo 6 x2 x3 x4 A = fDoN 6 x2.toInt.toNat x3.toInt.toNat x4 A := by unfold fDo; rw [ti_6]; rfl
    rw [hk] at hK
    unfold ordOK at ho
    rw [ti_6] at ho
    obtain ⟨a, ha, rfl⟩ := i_sp (x := x2) (by omega)
    rw [sp_t (by omega)] at hK
    obtain ⟨b, hb, rfl⟩ := i_sp (x := x3) (by omega)
    rw [sp_t (by omega)] at hK
    exact m_twin h hw ha hb hK
  · subst q
    have hk : fDo 7 x2 x3 x4 A = fDoN 7 x2.toInt.toNat x3.toInt.toNat x4 A := by unfold fDo; rw [ti_7]; rfl
    rw [hk] at hK
    unfold ordOK at ho
    rw [ti_7] at ho
    obtain ⟨a, ha, rfl⟩ := i_sp (x := x2) (by omega)
    rw [sp_t (by omega)] at hK
    obtain ⟨b, hb, rfl⟩ := i_sp (x := x3) (by omega)
    rw [sp_t (by omega)] at hK
    refine ⟨b, rfl, hb, b, rfl, hb, m_hold ha ?_⟩
    exact hK fr _ (h.hold (m_held h hb)) cfr_hold
  · subst q
    have hk : fDo 8 x2 x3 x4 A = fDoN 8 x2.toInt.toNat x3.toInt.toNat x4 A := by unfold fDo; rw [ti_8]; rfl
    rw [hk] at hK
    unfold ordOK at ho
    rw [ti_8] at ho
    obtain ⟨a, ha, rfl⟩ := i_sp (x := x2) (by omega)
    rw [sp_t (by omega)] at hK
    obtain ⟨b, hb, rfl⟩ := i_sp (x := x3) (by omega)
    rw [sp_t (by omega)] at hK
    exact m_swap h ha hb (fun S' hM hc => hK fr S' hM hc)
  · subst q
    have hk : fDo 9 x2 x3 x4 A = fDoN 9 x2.toInt.toNat x3.toInt.toNat x4 A := by unfold fDo; rw [ti_9]; rfl
    rw [hk] at hK
    unfold ordOK at ho
    rw [ti_9] at ho
    obtain ⟨a, ha, rfl⟩ := i_sp (x := x2) (by omega)
    rw [sp_t (by omega)] at hK
    obtain ⟨b, hb, rfl⟩ := i_nb (x := x3) (n := 5) (by omega) (by decide)
    rw [sp_t (by omega)] at hK
    exact m_hang h hw ha hb hK
  · subst q
    have hk : fDo 10 x2 x3 x4 A = fDoN 10 x2.toInt.toNat x3.toInt.toNat x4 A := by unfold fDo; rw [ti_10]; rfl
    rw [hk] at hK
    unfold ordOK at ho
    rw [ti_10] at ho
    obtain ⟨a, ha, rfl⟩ := i_sp (x := x2) (by omega)
    rw [sp_t (by omega)] at hK
    exact m_pin h hw ha hK
  · subst q
    have hk : fDo 11 x2 x3 x4 A = fDoN 11 x2.toInt.toNat x3.toInt.toNat x4 A := by unfold fDo; rw [ti_11]; rfl
    rw [hk] at hK
    unfold ordOK at ho
    rw [ti_11] at ho
    obtain ⟨a, ha, rfl⟩ := i_sp (x := x2) (by omega)
    rw [sp_t (by omega)] at hK
    obtain ⟨b, hb, rfl⟩ := i_sp (x := x3) (by omega)
    rw [sp_t (by omega)] at hK
    exact m_seat h hw ha hb hK
  · have hx : x1 = 12 := by
      have hb : 0 ≤ x1.toInt ∧ x1.toInt ≤ 12 := by unfold ordOK at ho; omega
      obtain ⟨k, hk, rfl⟩ := i_nb (n := 12) hb (by decide)
      rcases (show k = 0 ∨ k = 1 ∨ k = 2 ∨ k = 3 ∨ k = 4 ∨ k = 5 ∨ k = 6 ∨ k = 7 ∨ k = 8 ∨ k = 9 ∨ k = 10 ∨ k = 11 ∨ k = 12 by omega) with rfl | rfl | rfl | rfl | rfl | rfl | rfl | rfl | rfl | rfl | rfl | rfl | rfl
      · exact absurd rfl q0
      · exact absurd rfl q1
      · exact absurd rfl q2
      · exact absurd rfl q3
      · exact absurd rfl q4
      · exact absurd rfl q5
      · exact absurd rfl q6
      · exact absurd rfl q7
      · exact absurd rfl q8
      · exact absurd rfl q9
      · exact absurd rfl q10
      · exact absurd rfl q11
      · rfl
    subst hx
    have hk : fDo 12 x2 x3 x4 A = fDoN 12 x2.toInt.toNat x3.toInt.toNat x4 A := by unfold fDo; rw [ti_12]; rfl
    rw [hk] at hK
    unfold ordOK at ho
    rw [ti_12] at ho
    obtain ⟨a, ha, rfl⟩ := i_sp (x := x2) (by omega)
    rw [sp_t (by omega)] at hK
    obtain ⟨b, hb, rfl⟩ := i_sp (x := x3) (by omega)
    rw [sp_t (by omega)] at hK
    exact m_lift h hw ha hb hK
theorem ord_k {x1 x2 x3 x4 : Int32} (ho : ordOK x1 x2 x3 x4) : ∃ k : Nat, k ≤ 14 ∧ x1 = nI k := i_nb (n := 14) (by unfold ordOK at ho; omega) (by decide)
theorem WF.does {A : xs_T} {x1 x2 x3 x4 : Int32} (hw : WF A) (ho : ordOK x1 x2 x3 x4) (hc : nA A 2 < nA A 7) : WF (fDo x1 x2 x3 x4 A).2 := by
  obtain ⟨k, hk, rfl⟩ := ord_k ho
  rcases (show k = 0 ∨ k = 1 ∨ k = 2 ∨ k = 3 ∨ k = 4 ∨ k = 5 ∨ k = 6 ∨ k = 7 ∨ k = 8 ∨ k = 9 ∨ k = 10 ∨ k = 11 ∨ k = 12 ∨ k = 13 ∨ k = 14 by omega) with rfl | rfl | rfl | rfl | rfl | rfl | rfl | rfl | rfl | rfl | rfl | rfl | rfl | rfl | rfl
  · have hk : fDo (nI 0) x2 x3 x4 A = fDoN 0 x2.toInt.toNat x3.toInt.toNat x4 A := fDo_nI (a := 0) (b := 0) (by decide)
    rw [hk]
    unfold ordOK at ho
    rw [show (nI 0).toInt = 0 from ti_0] at ho
    obtain ⟨a, ha, rfl⟩ := i_sp (x := x2) (by omega)
    rw [sp_t (by omega)]
    exact hw.mark
  · have hk : fDo (nI 1) x2 x3 x4 A = fDoN 1 x2.toInt.toNat x3.toInt.toNat x4 A := fDo_nI (a := 0) (b := 0) (by decide)
    rw [hk]
    unfold ordOK at ho
    rw [show (nI 1).toInt = 1 from ti_1] at ho
    obtain ⟨a, ha, rfl⟩ := i_sp (x := x2) (by omega)
    rw [sp_t (by omega)]
    obtain ⟨b, hb, rfl⟩ := i_sp (x := x3) (by omega)
    rw [sp_t (by omega)]
    exact hw.splice ha hb
  · have hk : fDo (nI 2) x2 x3 x4 A = fDoN 2 x2.toInt.toNat x3.toInt.toNat x4 A := fDo_nI (a := 0) (b := 0) (by decide)
    rw [hk]
    unfold ordOK at ho
    rw [show (nI 2).toInt = 2 from ti_2] at ho
    obtain ⟨a, ha, rfl⟩ := i_sp (x := x2) (by omega)
    rw [sp_t (by omega)]
    exact hw.turn ha
  · have hk : fDo (nI 3) x2 x3 x4 A = fDoN 3 x2.toInt.toNat x3.toInt.toNat x4 A := fDo_nI (a := 0) (b := 0) (by decide)
    rw [hk]
    unfold ordOK at ho
    rw [show (nI 3).toInt = 3 from ti_3] at ho
    obtain ⟨a, ha, rfl⟩ := i_sp (x := x2) (by omega)
    rw [sp_t (by omega)]
    exact hw.opn ha
  · have hk : fDo (nI 4) x2 x3 x4 A = fDoN 4 x2.toInt.toNat x3.toInt.toNat x4 A := fDo_nI (a := 0) (b := 0) (by decide)
    rw [hk]
    unfold ordOK at ho
    rw [show (nI 4).toInt = 4 from ti_4] at ho
    obtain ⟨a, ha, rfl⟩ := i_sp (x := x2) (by omega)
    rw [sp_t (by omega)]
    exact hw.shut ha
  · have hk : fDo (nI 5) x2 x3 x4 A = fDoN 5 x2.toInt.toNat x3.toInt.toNat x4 A := fDo_nI (a := 0) (b := 0) (by decide)
    rw [hk]
    unfold ordOK at ho
    rw [show (nI 5).toInt = 5 from ti_5] at ho
    obtain ⟨a, ha, rfl⟩ := i_sp (x := x2) (by omega)
    rw [sp_t (by omega)]
    obtain ⟨b, hb, rfl⟩ := i_nb (x := x3) (n := 11) (by omega) (by decide)
    rw [sp_t (by omega)]
    exact hw.make hb
  · have hk : fDo (nI 6) x2 x3 x4 A = fDoN 6 x2.toInt.toNat x3.toInt.toNat x4 A := fDo_nI (a := 0) (b := 0) (by decide)
    rw [hk]
    unfold ordOK at ho
    rw [show (nI 6).toInt = 6 from ti_6] at ho
    obtain ⟨a, ha, rfl⟩ := i_sp (x := x2) (by omega)
    rw [sp_t (by omega)]
    obtain ⟨b, hb, rfl⟩ := i_sp (x := x3) (by omega)
    rw [sp_t (by omega)]
    exact hw.twin hb
  · have hk : fDo (nI 7) x2 x3 x4 A = fDoN 7 x2.toInt.toNat x3.toInt.toNat x4 A := fDo_nI (a := 0) (b := 0) (by decide)
    rw [hk]
    unfold ordOK at ho
    rw [show (nI 7).toInt = 7 from ti_7] at ho
    obtain ⟨a, ha, rfl⟩ := i_sp (x := x2) (by omega)
    rw [sp_t (by omega)]
    obtain ⟨b, hb, rfl⟩ := i_sp (x := x3) (by omega)
    rw [sp_t (by omega)]
    exact hw.share hb
  · have hk : fDo (nI 8) x2 x3 x4 A = fDoN 8 x2.toInt.toNat x3.toInt.toNat x4 A := fDo_nI (a := 0) (b := 0) (by decide)
    rw [hk]
    unfold ordOK at ho
    rw [show (nI 8).toInt = 8 from ti_8] at ho
    obtain ⟨a, ha, rfl⟩ := i_sp (x := x2) (by omega)
    rw [sp_t (by omega)]
    obtain ⟨b, hb, rfl⟩ := i_sp (x := x3) (by omega)
    rw [sp_t (by omega)]
    exact hw.swap ha hb
  · have hk : fDo (nI 9) x2 x3 x4 A = fDoN 9 x2.toInt.toNat x3.toInt.toNat x4 A := fDo_nI (a := 0) (b := 0) (by decide)
    rw [hk]
    unfold ordOK at ho
    rw [show (nI 9).toInt = 9 from ti_9] at ho
    obtain ⟨a, ha, rfl⟩ := i_sp (x := x2) (by omega)
    rw [sp_t (by omega)]
    obtain ⟨b, hb, rfl⟩ := i_nb (x := x3) (n := 5) (by omega) (by decide)
    rw [sp_t (by omega)]
    exact hw.hang hb hc
  · have hk : fDo (nI 10) x2 x3 x4 A = fDoN 10 x2.toInt.toNat x3.toInt.toNat x4 A := fDo_nI (a := 0) (b := 0) (by decide)
    rw [hk]
    unfold ordOK at ho
    rw [show (nI 10).toInt = 10 from ti_10] at ho
    obtain ⟨a, ha, rfl⟩ := i_sp (x := x2) (by omega)
    rw [sp_t (by omega)]
    exact hw.pin ha
  · have hk : fDo (nI 11) x2 x3 x4 A = fDoN 11 x2.toInt.toNat x3.toInt.toNat x4 A := fDo_nI (a := 0) (b := 0) (by decide)
    rw [hk]
    unfold ordOK at ho
    rw [show (nI 11).toInt = 11 from ti_11] at ho
    obtain ⟨a, ha, rfl⟩ := i_sp (x := x2) (by omega)
    rw [sp_t (by omega)]
    obtain ⟨b, hb, rfl⟩ := i_sp (x := x3) (by omega)
    rw [sp_t (by omega)]
    exact hw.seat ha hb
  · have hk : fDo (nI 12) x2 x3 x4 A = fDoN 12 x2.toInt.toNat x3.toInt.toNat x4 A := fDo_nI (a := 0) (b := 0) (by decide)
    rw [hk]
    unfold ordOK at ho
    rw [show (nI 12).toInt = 12 from ti_12] at ho
    obtain ⟨a, ha, rfl⟩ := i_sp (x := x2) (by omega)
    rw [sp_t (by omega)]
    obtain ⟨b, hb, rfl⟩ := i_sp (x := x3) (by omega)
    rw [sp_t (by omega)]
    exact hw.lift ha
  · exact hw
  · exact hw
