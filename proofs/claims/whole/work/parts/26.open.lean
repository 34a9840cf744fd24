theorem m_turn101 {fr : Nat → Nat} {A S0 : xs_T} {u n : Nat} {g : Nat → Int64} {K : Int32 → xs_T → Prop} (h : MA fr A S0) (hw : WF A) (hu : oW A u) (hn : n = xN A (u + 120)) (hK : MK S0 K (0, fW A u 0 n g)) :
    ∀ (m i : Nat) (S : xs_T), i + m = n → mw S0 S → (∀ j, j < n → xL S 22 j = g j) → (∀ q, xL S 5 q = pw (xL S0 5) (fr u + 0) i g q) → v_X10_turn_101 K (m + 1) (nI (u - 64)) (nI n) (nI i) S := by
  have hb := (hw.2.1 u hu).2
  have h0 := hw.1.1
  have hc := hw.1.2.2.1
  have hlt := hu.2
  obtain ⟨r1, r2, r3, r4, r5⟩ := m_row h hu
  intro m
  induction m with
  | zero =>
    intro i S hi hm h22 h5
    rw [v_X10_turn_101]
    have e : i = n := by omega
    subst e
    exact ⟨fun _ => hK fr S (h.pool hw hu hm (by omega) h5) hm.1, fun q => absurd (nI_le (Nat.le_refl i) (by omega)) q⟩
  | succ m ih =>
    intro i S hi hm h22 h5
    rw [v_X10_turn_101]
    refine ⟨fun q => absurd q (nI_ge (by omega) (by omega)), fun _ => ⟨u - 64, rfl, by omega, i, rfl, by omega, fr u + i, by rw [hm.2.2.1, r3, nI_add], by omega, ?_⟩⟩
    rintro _ rfl
    rw [nI_1]
    exact ih (i + 1) _ (by omega) hm.L5 h22 (pw_1 h5 (by omega) (h22 i (by omega)))
theorem m_turn34 {fr : Nat → Nat} {A S0 : xs_T} {u n : Nat} {c : Int32} {K : Int32 → xs_T → Prop} (h : MA fr A S0) (hw : WF A) (hu : oW A u) (hn : n = xN A (u + 120)) (hK : MK S0 K (0, fW A u 0 n (fun i => xL A (u + 120) (((i : Int) + c.toInt) % (n : Int)).toNat))) :
    ∀ (m i : Nat) (S : xs_T), i + m = n → mw S0 S → (∀ j, j < i → xL S 22 j = xL A (u + 120) (((j : Int) + c.toInt) % (n : Int)).toNat) → xL S 5 = xL S0 5 → v_X10_turn_34 K (m + 1) c (nI (u - 64)) (nI n) (nI i) S := by
  have hb := (hw.2.1 u hu).2
  have h0 := hw.1.1
  have hc := hw.1.2.2.1
  have hlt := hu.2
  obtain ⟨r1, r2, r3, r4, r5⟩ := m_row h hu
  intro m
  induction m with
  | zero =>
    intro i S hi hm h22 h5
    rw [v_X10_turn_34]
    have e : i = n := by omega
    subst e
    exact ⟨fun _ => ⟨i + 1, m_turn101 h hw hu hn hK i 0 S (by omega) hm h22 (fun q => by rw [h5, pw_0])⟩, fun q => absurd (nI_le (Nat.le_refl i) (by omega)) q⟩
  | succ m ih =>
    intro i S hi hm h22 h5
    rw [v_X10_turn_34]
    have hn0 : 0 < n := by omega
    have ey : ((nI i).toInt64 + c.toInt64).toInt = (i : Int) + c.toInt := by rw [l_add, nI_toInt (by omega)]
    have et : ((nI i).toInt64 + c.toInt64 - ((nI i).toInt64 + c.toInt64) / (nI n).toInt64 * (nI n).toInt64).toInt = ((i : Int) + c.toInt).tmod n := by
      rw [nI_l (n := n) (by omega), l_rem _ hn0 (by omega), ey]
    have hlb : - (n : Int) < ((i : Int) + c.toInt).tmod n := by
      have := Int.tmod_lt_of_pos (-((i : Int) + c.toInt)) (b := n) (by omega)
      rw [Int.neg_tmod] at this
      omega
    have hub : ((i : Int) + c.toInt).tmod n < n := Int.tmod_lt_of_pos _ (by omega)
    have he := t_emod (y := (i : Int) + c.toInt) hn0
    have hmd := md_lt (y := (i : Int) + c.toInt) hn0
    generalize (nI i).toInt64 + c.toInt64 - ((nI i).toInt64 + c.toInt64) / (nI n).toInt64 * (nI n).toInt64 = t at et ⊢
    have et2 : t.toInt32.toInt = ((i : Int) + c.toInt).tmod n := by rw [l_i32 (by omega) (by omega), et]
    have step : ∀ j, j = fr u + (((i : Int) + c.toInt) % (n : Int)).toNat → v_X10_turn_34 K (m + 1) c (nI (u - 64)) (nI n) (nI i + 1) (sL S 22 i (xL S 5 j)) := fun j hj => by
      rw [nI_1]
      refine ih (i + 1) _ (by omega) hm.L22 (fun q hq => ?_) h5
      rw [gLL]
      by_cases e : q = i
      · subst e
        rw [if_pos ⟨rfl, rfl⟩, h5, hj, r5 _ (by omega)]
      · rw [if_neg (fun z => e z.2)]
        exact h22 q (by omega)
    refine ⟨fun q => absurd q (nI_ge (by omega) (by omega)), fun _ => ⟨?_, fun q => ⟨u - 64, rfl, by omega, fr u + (((i : Int) + c.toInt) % (n : Int)).toNat, ?_, by omega, i, rfl, by omega, ?_⟩, fun q => ⟨u - 64, rfl, by omega, fr u + (((i : Int) + c.toInt) % (n : Int)).toNat, ?_, by omega, i, rfl, by omega, ?_⟩⟩⟩
    · rw [nI_l (by omega)]
      intro z
      have : n = 0 := (lN_eq (b := 0) (by omega) (by decide)).mp z
      omega
    · rw [Int32.le_iff_toInt_le, ti_0, et2] at q
      have := he.1 q
      rw [hm.2.2.1, r3, i_ti (x := t.toInt32) (n := (((i : Int) + c.toInt) % (n : Int)).toNat) (by omega) (by omega), nI_add]
    · rintro _ rfl
      exact step _ rfl
    · rw [Int32.le_iff_toInt_le, ti_0, et2] at q
      have := he.2 (by omega)
      have e2 : (t.toInt32 + nI n).toInt = ((i : Int) + c.toInt).tmod n + n := by
        rw [Int32.toInt_add, et2, nI_toInt (by omega)]
        exact Int.bmod_eq_of_le (by omega) (by omega)
      rw [hm.2.2.1, r3, i_ti (x := t.toInt32 + nI n) (n := (((i : Int) + c.toInt) % (n : Int)).toNat) (by omega) (by omega), nI_add]
    · rintro _ rfl
      exact step _ rfl
theorem m_turn {fr : Nat → Nat} {A S : xs_T} {a : Nat} {c : Int32} {K : Int32 → xs_T → Prop} (h : MA fr A S) (hw : WF A) (ha : a < 10) (hK : MK S K (fTurn A a c)) : v_X10_turn (nI a) c S K := by
  unfold v_X10_turn
  refine ⟨a, rfl, ha, m_onRow h hw ha hK (fun z => ⟨fun q => absurd q (by decide), fun _ => z⟩) (fun u hu hlt hr hK => ⟨fun _ => ⟨u - 64, rfl, by omega, ?_⟩, fun q => absurd (nI_pos' (by omega)) q⟩)⟩
  rw [(m_row h hu).2.1]
  exact ⟨_, m_turn34 h hw hu rfl hK (xN A (u + 120)) 0 S (by omega) mw.refl (fun j hj => absurd hj (Nat.not_lt_zero j)) rfl⟩
/-! opening and shutting -/
def fOpen (A : xs_T) (a : Nat) (c : Int32) : Int32 × xs_T := onRow A a (fun u => if plc (xI A 38 a) c (xN A (u + 120)) then (0, fW A u (xI A 38 a).toInt.toNat (xN A (u + 120) - (xI A 38 a).toInt.toNat) (fun t => if t < c.toInt.toNat then 0 else xL A (u + 120) ((xI A 38 a).toInt.toNat + t - c.toInt.toNat))) else (3, A))
def fShut (A : xs_T) (a : Nat) (c : Int32) : Int32 × xs_T := onRow A a (fun u => if plc (xI A 38 a) c (xN A (u + 120)) then (0, fW A u (xI A 38 a).toInt.toNat (xN A (u + 120) - (xI A 38 a).toInt.toNat) (fun t => if (xI A 38 a).toInt.toNat + t + c.toInt.toNat < xN A (u + 120) then xL A (u + 120) ((xI A 38 a).toInt.toNat + t + c.toInt.toNat) else 0)) else (3, A))
theorem figC0 {A : xs_T} : figC A 0 := ⟨0, Nat.zero_le _, rfl⟩
theorem WF.opn {A : xs_T} {a : Nat} {c : Int32} (h : WF A) (ha : a < 10) : WF (fOpen A a c).2 := h.onRow ha (fun u hu => by
  show WF (if plc (xI A 38 a) c (xN A (u + 120)) then _ else _ : Int32 × xs_T).2
  by_cases e : plc (xI A 38 a) c (xN A (u + 120))
  · rw [if_pos e]
    refine WF.fW h hu (fun hk i hi hi2 => ?_)
    by_cases e2 : i < c.toInt.toNat
    · rw [if_pos e2]; exact figC0
    · rw [if_neg e2]; exact h.2.2.2.2.1 u hu hk _ (by omega)
  · rw [if_neg e]; exact h)
theorem WF.shut {A : xs_T} {a : Nat} {c : Int32} (h : WF A) (ha : a < 10) : WF (fShut A a c).2 := h.onRow ha (fun u hu => by
  show WF (if plc (xI A 38 a) c (xN A (u + 120)) then _ else _ : Int32 × xs_T).2
  by_cases e : plc (xI A 38 a) c (xN A (u + 120))
  · rw [if_pos e]
    refine WF.fW h hu (fun hk i hi hi2 => ?_)
    by_cases e2 : (xI A 38 a).toInt.toNat + i + c.toInt.toNat < xN A (u + 120)
    · rw [if_pos e2]; exact h.2.2.2.2.1 u hu hk _ e2
    · rw [if_neg e2]; exact figC0
  · rw [if_neg e]; exact h)
theorem c_empty_loop {nx : Nat} {A S0 S1 : xs_T} {u b e : Nat} {K : xs_T → Prop} (h : CA nx A S0) (hw : WF A) (hu : oW A u) (he : e ≤ xN A (u + 120))
    (hK : ∀ S', cw u S0 S' → (∀ q, xL S' (u + 120) q = pw (xL S1 (u + 120)) b (e - b) (fun _ => 0) q) → K S') :
    ∀ (m i : Nat) (S : xs_T), b + i + m = e → cw u S0 S → (∀ q, xL S (u + 120) q = pw (xL S1 (u + 120)) b i (fun _ => 0) q) → v_X5_empty_2 K (m + 1) u (nI e) (nI (b + i)) S := by
  have hl := (hw.2.1 u hu).2
  intro m
  induction m with
  | zero =>
    intro i S hi hc hp
    rw [v_X5_empty_2]
    have e1 : b + i = e := by omega
    have e2 : e - b = i := by omega
    rw [e2] at hK
    rw [e1]
    exact ⟨fun _ => hK S hc hp, fun q => absurd (nI_le (Nat.le_refl e) (by omega)) q⟩
  | succ m ih =>
    intro i S hi hc hp
    rw [v_X5_empty_2]
    refine ⟨fun q => absurd q (nI_ge (by omega) (by omega)), fun _ => ⟨cw_oR hc (CA_oR h hw hu), b + i, rfl, by rw [hc.2.2.2.1, c_len h hu]; omega, ?_⟩⟩
    rintro _ rfl
    rw [nI_1, Nat.add_assoc]
    exact ih (i + 1) _ (by omega) hc.L (pw_1 hp rfl rfl)
theorem c_empty {nx : Nat} {A S0 S : xs_T} {u b e : Nat} {K : xs_T → Prop} (h : CA nx A S0) (hw : WF A) (hu : oW A u) (hbe : b ≤ e) (he : e ≤ xN A (u + 120)) (hc : cw u S0 S)
    (hK : ∀ S', cw u S0 S' → (∀ q, xL S' (u + 120) q = pw (xL S (u + 120)) b (e - b) (fun _ => 0) q) → K S') : v_X5_empty u (nI b) (nI e) S K := ⟨_, c_empty_loop h hw hu he hK (e - b) 0 S (by omega) hc (fun q => by rw [pw_0])⟩
theorem c_refusal {nx : Nat} {A S : xs_T} {a : Nat} {c : Int32} {f : Nat → xs_T} {K R : Int32 → xs_T → Prop} (h : CA nx A S) (hw : WF A) (ha : a < 10) (hK : CK nx S K (onRow A a (fun u => if plc (xI A 38 a) c (xN A (u + 120)) then (0, f u) else (3, A)))) (h1 : ∀ r, ¬ r = 0 → K r S → R r S) (h0 : ∀ u, oW A u → fRow A a = some u → plc (xI A 38 a) c (xN A (u + 120)) → CK nx S K (0, f u) → R 0 S) : v_X0_refusalOfPlaces (nI a) c S R := by
  unfold v_X0_refusalOfPlaces
  have n1 : ¬ (1 : Int32) = 0 := by decide
  have n2 : ¬ (2 : Int32) = 0 := by decide
  have n3 : ¬ (3 : Int32) = 0 := by decide
  obtain ⟨g1, g2⟩ := c_onRow h hw ha hK (P := fun u => ∃ j_13 : Nat, nI a = nI j_13 ∧ j_13 < 10 ∧ v_X5_hasPlaces u (xI S 38 j_13) c S (fun (r_17 : Int32) (S_16 : xs_T) => ((r_17 = 0 → R 3 S_16) ∧ (¬ r_17 = 0 → R 0 S_16)))) (fun u hu hr hK => ⟨a, rfl, ha, by
    rw [h.mark ha]
    replace hK : CK nx S K (if plc (xI A 38 a) c (xN A (u + 120)) then (0, f u) else (3, A)) := hK
    refine c_hasPlaces h hw hu (fun p => ⟨fun z => absurd z (by decide), fun _ => ?_⟩) (fun p => ⟨fun _ => ?_, fun z => absurd rfl z⟩)
    · rw [if_pos p] at hK
      exact h0 u hu hr p hK
    · rw [if_neg p] at hK
      exact h1 3 n3 (hK S h mfr.refl)⟩)
  refine ⟨a, rfl, ha, fun q => h1 1 n1 (g1 q), fun u5 q => ?_⟩
  obtain ⟨j, e1, e2, e3, e4, e5⟩ := g2 u5 q
  exact ⟨j, e1, e2, e3, e4, fun z => h1 2 n2 (e5 z)⟩
theorem c_open {nx : Nat} {A S : xs_T} {a : Nat} {c : Int32} {K : Int32 → xs_T → Prop} (h : CA nx A S) (hw : WF A) (ha : a < 10) (hK : CK nx S K (fOpen A a c)) : v_X0_open (nI a) c S K := by
  unfold v_X0_open
  refine c_refusal h hw ha hK (fun r hr z => ⟨fun _ => z, fun y => absurd y hr⟩) (fun u hu hr hp hK => ⟨fun z => absurd rfl z, fun _ => ⟨a, rfl, ha, c_isRow h hw ha (fun v hr2 hv => ⟨a, rfl, ha, ?_⟩) (fun z => by rw [z] at hr; cases hr)⟩⟩)
  have ev : v = u := by rw [hr] at hr2; exact (Option.some.inj hr2).symm
  subst ev
  have hl := (hw.2.1 v hu).2
  obtain ⟨m, n, e1, rfl, e3⟩ := plc_nat hp hl
  rw [e1, nI_toInt (by omega), nI_toInt (by omega), Int.toNat_natCast, Int.toNat_natCast] at hK
  unfold v_X5_open
  rw [h.mark ha, e1, c_len h hu]
  refine ⟨CA_oR h hw hu, m, m + n, xN A (v + 120) - m - n, rfl, nI_add m n, by rw [pk_sub (by omega), pk_sub (by omega)], by omega, by omega, ?_⟩
  rintro _ rfl
  rw [nI_add]
  refine c_empty h hw hu (by omega) (by omega) cw.refl.T (fun S' hc hq => hK S' (h.fW hw hu hc (fun i hi => ?_)) hc.m)
  rw [hq]
  unfold pw
  rw [gLt, if_pos rfl]
  by_cases z : m ≤ i
  · rw [if_pos (c := m ≤ i ∧ i < m + (xN A (v + 120) - m)) (by omega)]
    by_cases y : i < m + n
    · rw [if_pos (by omega), if_pos (by omega)]
    · rw [if_neg (by omega), if_neg (by omega), pk_cpy_in (by omega) (by omega), c_cells h hu (by omega)]
      congr 1
      omega
  · rw [if_neg (by omega), if_neg (by omega), pk_cpy_out (by omega), c_cells h hu hi]
theorem c_shut {nx : Nat} {A S : xs_T} {a : Nat} {c : Int32} {K : Int32 → xs_T → Prop} (h : CA nx A S) (hw : WF A) (ha : a < 10) (hK : CK nx S K (fShut A a c)) : v_X0_shut (nI a) c S K := by
  unfold v_X0_shut
  refine c_refusal h hw ha hK (fun r hr z => ⟨fun _ => z, fun y => absurd y hr⟩) (fun u hu hr hp hK => ⟨fun z => absurd rfl z, fun _ => ⟨a, rfl, ha, c_isRow h hw ha (fun v hr2 hv => ⟨a, rfl, ha, ?_⟩) (fun z => by rw [z] at hr; cases hr)⟩⟩)
  have ev : v = u := by rw [hr] at hr2; exact (Option.some.inj hr2).symm
  subst ev
  have hl := (hw.2.1 v hu).2
  obtain ⟨m, n, e1, rfl, e3⟩ := plc_nat hp hl
  rw [e1, nI_toInt (by omega), nI_toInt (by omega), Int.toNat_natCast, Int.toNat_natCast] at hK
  unfold v_X5_shut
  rw [h.mark ha, e1, c_len h hu]
  refine ⟨CA_oR h hw hu, m + n, m, xN A (v + 120) - m - n, nI_add m n, rfl, by rw [pk_sub (by omega), pk_sub (by omega)], by omega, by omega, ?_⟩
  rintro _ rfl
  have hln : xN (tL S (v + 120) (va_cpy (xL S (v + 120)) (xL S (v + 120)) (m + n) m (xN A (v + 120) - m - n))) (v + 120) = xN A (v + 120) := by rw [gNt]; exact c_len h hu
  rw [hln, pk_sub (by omega)]
  refine c_empty h hw hu (by omega) (by omega) cw.refl.T (fun S' hc hq => hK S' (h.fW hw hu hc (fun i hi => ?_)) hc.m)
  rw [hq]
  unfold pw
  rw [gLt, if_pos rfl]
  by_cases z : m ≤ i
  · rw [if_pos (c := m ≤ i ∧ i < m + (xN A (v + 120) - m)) (by omega)]
    by_cases y : i + n < xN A (v + 120)
    · rw [if_neg (by omega), if_pos (by omega), pk_cpy_in (by omega) (by omega), c_cells h hu (by omega)]
      congr 1
      omega
    · rw [if_pos (by omega), if_neg (by omega)]
  · rw [if_neg (by omega), if_neg (by omega), pk_cpy_out (by omega), c_cells h hu hi]
