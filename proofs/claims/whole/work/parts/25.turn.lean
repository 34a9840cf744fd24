/-! turn -/
theorem t_emod {y : Int} {n : Nat} (hn : 0 < n) : (0 ≤ y.tmod n → y % n = y.tmod n) ∧ (y.tmod n < 0 → y % n = y.tmod n + n) := by
  have h1 : (n : Int) * y.tdiv n + y.tmod n = y := Int.mul_tdiv_add_tmod y n
  have h2 : y.tmod n < n := Int.tmod_lt_of_pos y (by omega)
  have h3 : - (n : Int) < y.tmod n := by
    have := Int.tmod_lt_of_pos (-y) (b := n) (by omega)
    rw [Int.neg_tmod] at this
    omega
  have h4 : y % n = (y.tmod n) % n := by
    conv => lhs; rw [← h1]
    rw [Int.add_comm, Int.add_mul_emod_self_left]
  refine ⟨fun h => ?_, fun h => ?_⟩
  · rw [h4, Int.emod_eq_of_lt h h2]
  · rw [h4]
    have : (y.tmod n + n) % (n : Int) = y.tmod n % n := Int.add_emod_right _ _
    rw [← this, Int.emod_eq_of_lt (by omega) (by omega)]
theorem t_sgn {y : Int} {n : Nat} : (0 ≤ y → 0 ≤ y.tmod n) ∧ (y < 0 → y.tmod n ≤ 0) := by
  refine ⟨fun h => Int.tmod_nonneg _ h, fun h => ?_⟩
  have := Int.tmod_nonneg (n : Int) (show 0 ≤ -y by omega)
  rw [Int.neg_tmod] at this
  omega
theorem t_abs {y : Int} {n : Nat} (hn : 0 < n) {M : Int} (h1 : -M ≤ y) (h2 : y < M) : -M ≤ y.tdiv n ∧ y.tdiv n < M ∧ -M ≤ y.tdiv n * n ∧ y.tdiv n * n < M ∧ y - y.tdiv n * n = y.tmod n := by
  have e : (n : Int) * y.tdiv n + y.tmod n = y := Int.mul_tdiv_add_tmod y n
  rw [Int.mul_comm] at e
  have hs := t_sgn (y := y) (n := n)
  by_cases hy : 0 ≤ y
  · have a := hs.1 hy
    have b : 0 ≤ y.tdiv n := Int.tdiv_nonneg hy (by omega)
    have c : y.tdiv n ≤ y.tdiv n * n := by
      have := Int.mul_le_mul_of_nonneg_left (show (1 : Int) ≤ n by omega) b
      omega
    omega
  · have a := hs.2 (by omega)
    have b : 0 ≤ (-y).tdiv n := Int.tdiv_nonneg (by omega) (by omega)
    rw [Int.neg_tdiv] at b
    have c : -(y.tdiv n) ≤ -(y.tdiv n) * n := by
      have := Int.mul_le_mul_of_nonneg_left (show (1 : Int) ≤ n by omega) b
      omega
    rw [Int.neg_mul] at c
    omega
theorem i_rem (x : Int32) {n : Nat} (h0 : 0 < n) (hn : n < 2 ^ 31) : (x - x / nI n * nI n).toInt = x.toInt.tmod n := by
  have h1 := Int32.toInt_lt x
  have h2 := Int32.le_toInt x
  obtain ⟨a, b, c, d, e⟩ := t_abs (y := x.toInt) h0 (M := 2 ^ 31) (by omega) (by omega)
  have hd : (x / nI n).toInt = x.toInt.tdiv n := by
    rw [Int32.toInt_div, nI_toInt hn]
    exact Int.bmod_eq_of_le (by omega) (by omega)
  have hm : (x / nI n * nI n).toInt = x.toInt.tdiv n * n := by
    rw [Int32.toInt_mul, hd, nI_toInt hn]
    exact Int.bmod_eq_of_le (by omega) (by omega)
  rw [Int32.toInt_sub, hm]
  have h3 : x.toInt.tmod n < n := Int.tmod_lt_of_pos _ (by omega)
  have h4 : - (n : Int) < x.toInt.tmod n := by
    have := Int.tmod_lt_of_pos (-x.toInt) (b := n) (by omega)
    rw [Int.neg_tmod] at this
    omega
  rw [e]
  exact Int.bmod_eq_of_le (by omega) (by omega)
theorem l_rem (x : Int64) {n : Nat} (h0 : 0 < n) (hn : n < 2 ^ 31) : (x - x / lN n * lN n).toInt = x.toInt.tmod n := by
  have h1 := Int64.toInt_lt x
  have h2 := Int64.le_toInt x
  obtain ⟨a, b, c, d, e⟩ := t_abs (y := x.toInt) h0 (M := 2 ^ 63) (by omega) (by omega)
  have hd : (x / lN n).toInt = x.toInt.tdiv n := by
    rw [Int64.toInt_div, lN_toInt hn]
    exact Int.bmod_eq_of_le (by omega) (by omega)
  have hm : (x / lN n * lN n).toInt = x.toInt.tdiv n * n := by
    rw [Int64.toInt_mul, hd, lN_toInt hn]
    exact Int.bmod_eq_of_le (by omega) (by omega)
  rw [Int64.toInt_sub, hm]
  have h3 : x.toInt.tmod n < n := Int.tmod_lt_of_pos _ (by omega)
  have h4 : - (n : Int) < x.toInt.tmod n := by
    have := Int.tmod_lt_of_pos (-x.toInt) (b := n) (by omega)
    rw [Int.neg_tmod] at this
    omega
  rw [e]
  exact Int.bmod_eq_of_le (by omega) (by omega)
theorem i_ti {x : Int32} {n : Nat} (hn : n < 2 ^ 31) (h : x.toInt = n) : x = nI n := by
  rw [← Int32.toInt_inj, h, nI_toInt hn]
theorem l_i32 {x : Int64} (h1 : -2 ^ 31 ≤ x.toInt) (h2 : x.toInt < 2 ^ 31) : x.toInt32.toInt = x.toInt := by
  rw [Int64.toInt_toInt32]
  exact Int.bmod_eq_of_le (by omega) (by omega)
theorem i_nn (x : Int32) : (0 ≤ x) ↔ x.toBitVec.msb = false := by
  rw [Int32.le_iff_toInt_le, ti_0, BitVec.msb_eq_toInt]
  show 0 ≤ x.toBitVec.toInt ↔ _
  simp
theorem s_fmod {x : Int32} {n : Nat} {S : xs_T} {K : Int32 → xs_T → Prop} (h0 : 0 < n) (hn : n < 2 ^ 31) (hK : K (nI (x.toInt % n).toNat) S) : v_J9_floorMod_7cf53 x (nI n) S K := by
  unfold v_J9_floorMod_7cf53
  have hr := i_rem x h0 hn
  have he := t_emod (y := x.toInt) h0
  have hs := t_sgn (y := x.toInt) (n := n)
  have hb : x.toInt.tmod n < n := Int.tmod_lt_of_pos _ (by omega)
  have hem := Int.emod_nonneg x.toInt (show (n : Int) ≠ 0 by omega)
  have hpos : (0 ≤ x ^^^ nI n) ↔ 0 ≤ x.toInt := by
    have e1 := i_nn x
    rw [Int32.le_iff_toInt_le, ti_0] at e1
    rw [i_nn, e1, Int32.toBitVec_xor, BitVec.msb_xor, (i_nn (nI n)).mp (nI_pos' hn)]
    simp
  have hz : (x - x / nI n * nI n = 0) ↔ x.toInt.tmod n = 0 := by
    rw [← Int32.toInt_inj, hr, ti_0]
  refine ⟨nI_ne0 h0 hn, fun q => ?_, fun q => ⟨fun q2 => ?_, fun q2 => ?_⟩⟩
  · have h3 := hs.1 (hpos.mp q)
    rw [i_ti (x := x - x / nI n * nI n) (n := (x.toInt % n).toNat) (by omega) (by rw [hr]; omega)]
    exact hK
  · rw [hz] at q2
    rw [i_ti (x := x - x / nI n * nI n) (n := (x.toInt % n).toNat) (by omega) (by rw [hr]; omega)]
    exact hK
  · rw [hz] at q2
    rw [hpos] at q
    have h3 := hs.2 (by omega)
    have e : (x - x / nI n * nI n + nI n).toInt = x.toInt.tmod n + n := by
      rw [Int32.toInt_add, hr, nI_toInt hn]
      exact Int.bmod_eq_of_le (by omega) (by omega)
    rw [i_ti (x := x - x / nI n * nI n + nI n) (n := (x.toInt % n).toNat) (by omega) (by rw [e]; omega)]
    exact hK
/-- the class wrote only into a row and its spare rows -/
def cw (u : Nat) (S S' : xs_T) : Prop := xF S' = xF S ∧ xI S' = xI S ∧ xQ S' = xQ S ∧ xN S' = xN S ∧ ∀ i, i ≠ u + 120 → i ≠ 39 → xL S' i = xL S i
theorem cw.refl {u : Nat} {S : xs_T} : cw u S S := ⟨rfl, rfl, rfl, rfl, fun _ _ _ => rfl⟩
theorem cw.L {u j : Nat} {x : Int64} {S S' : xs_T} (h : cw u S S') : cw u S (sL S' (u + 120) j x) := ⟨h.1, h.2.1, h.2.2.1, h.2.2.2.1, fun i h1 h2 => (va_up_ne _ _ h1).trans (h.2.2.2.2 i h1 h2)⟩
theorem cw.T {u : Nat} {f : Nat → Int64} {S S' : xs_T} (h : cw u S S') : cw u S (tL S' (u + 120) f) := ⟨h.1, h.2.1, h.2.2.1, h.2.2.2.1, fun i h1 h2 => (va_up_ne _ _ h1).trans (h.2.2.2.2 i h1 h2)⟩
theorem cw.T39 {u : Nat} {f : Nat → Int64} {S S' : xs_T} (h : cw u S S') : cw u S (tL S' 39 f) := ⟨h.1, h.2.1, h.2.2.1, h.2.2.2.1, fun i h1 h2 => (va_up_ne _ _ h2).trans (h.2.2.2.2 i h1 h2)⟩
theorem cw.m {u : Nat} {S S' : xs_T} (h : cw u S S') : mfr S S' := fun i hi => ⟨by rw [h.1], by rw [h.2.1], h.2.2.2.2 i (by omega) (by omega)⟩
theorem cw_oR {u v : Nat} {S S' : xs_T} (h : cw u S S') (ho : oR S v) : oR S' v := by
  unfold oR at *
  rw [h.2.2.2.1]
  exact ho
theorem CA.rw {nx : Nat} {A S S' : xs_T} {u : Nat} {g : Nat → Int64} (h : CA nx A S) (hw : WF A) (hu : oW A u) (hc : cw u S S') (hg : ∀ i, i < xN A (u + 120) → xL S' (u + 120) i = g i) : CA nx (tL A (u + 120) g) S' := by
  obtain ⟨c1, c2, c3, c4, c5, c6, c7⟩ := h
  obtain ⟨w1, w2, w3, w4, w5⟩ := hc
  have h64 := hu.1
  have hlt := hu.2
  have hn := hw.1.1
  refine ⟨?_, ?_, ?_, ?_, fun v hv => ⟨?_, ?_, fun i hi => ?_⟩, ?_, c7.1, ?_, ?_, fun j hj => ⟨?_, fun i hi => ?_⟩⟩
  · unfold CAs at *; rw [w1, w4]; exact c1
  · unfold CAt at *; rw [w2]; exact c2
  · unfold CAh at *; rw [w2, w3]; exact c3
  · unfold CAg at *; rw [w1, w3]; exact c4
  · rw [w1]; exact (c5 v hv).1
  · rw [w4]; exact (c5 v hv).2.1
  · rw [gLt]
    by_cases e : v = u
    · subst e
      rw [if_pos rfl]
      exact hg i hi
    · have h64v := hv.1
      rw [if_neg (by omega), w5 _ (by omega) (by omega)]
      exact (c5 v hv).2.2 i hi
  · unfold CAq at *; rw [w3]; exact c6
  · rw [w1]; exact c7.2.1
  · rw [w1]; exact c7.2.2.1
  · rw [w3]; exact (c7.2.2.2 j hj).1
  · rw [gLt, if_neg (by omega), w5 _ (by omega) (by omega)]
    exact (c7.2.2.2 j hj).2 i hi
theorem CA.fW {nx : Nat} {A S S' : xs_T} {u b k : Nat} {g : Nat → Int64} (h : CA nx A S) (hw : WF A) (hu : oW A u) (hc : cw u S S') (hg : ∀ i, i < xN A (u + 120) → xL S' (u + 120) i = if b ≤ i ∧ i < b + k then g (i - b) else xL A (u + 120) i) : CA nx (fW A u b k g) S' := h.rw hw hu hc hg
theorem c_cells {nx : Nat} {A S : xs_T} {u : Nat} (h : CA nx A S) (hu : oW A u) {i : Nat} (hi : i < xN A (u + 120)) : xL S (u + 120) i = xL A (u + 120) i := (h.2.2.2.2.1 u hu).2.2 i hi
/-- copyTo a spare row -/
theorem c_copyTo {nx : Nat} {A S : xs_T} {u b : Nat} {K : xs_T → Prop} (h : CA nx A S) (hw : WF A) (hu : oW A u) (hb : b = 36 ∨ b = 39) (hK : ∀ f, (∀ i, i < xN A (u + 120) → f i = xL A (u + 120) i) → K (tL S b f)) : v_X5_copyTo u b S K := by
  unfold v_X5_copyTo
  have hl := (hw.2.1 u hu).2
  have haN : aN S b = 64 := by rcases hb with rfl | rfl <;> rfl
  refine ⟨CA_oR h hw hu, by rcases hb with rfl | rfl; exact Or.inl rfl; exact Or.inr (Or.inl rfl), 0, 0, xN A (u + 120), rfl, rfl, by rw [c_len h hu], by rw [c_len h hu]; omega, by rw [haN]; omega, ?_⟩
  rintro _ rfl
  refine hK _ (fun i hi => ?_)
  rw [pk_cpy_in (by omega) (by omega), ← c_cells h hu hi]
  congr 1
  omega
def fTurn (A : xs_T) (a : Nat) (c : Int32) : Int32 × xs_T := onRow A a (fun u => (0, fW A u 0 (xN A (u + 120)) (fun i => xL A (u + 120) (((i : Int) + c.toInt) % (xN A (u + 120) : Int)).toNat)))
theorem md_lt {y : Int} {n : Nat} (h : 0 < n) : (y % (n : Int)).toNat < n := by
  have h1 := Int.emod_nonneg y (show (n : Int) ≠ 0 by omega)
  have h2 := Int.emod_lt_of_pos y (show (0 : Int) < n by omega)
  omega
theorem WF.onRow {A : xs_T} {a : Nat} {f : Nat → Int32 × xs_T} (h : WF A) (ha : a < 10) (hf : ∀ u, oW A u → WF (f u).2) : WF (onRow A a f).2 := by
  by_cases h1 : xQ A 37 a = none
  · rw [onRow_n h1]; exact h
  · cases h2 : fRow A a with
    | none => rw [onRow_o h1 h2]; exact h
    | some u => rw [onRow_s h1 h2]; exact hf u (fRow_s h ha h2).2
theorem WF.turn {A : xs_T} {a : Nat} {c : Int32} (h : WF A) (ha : a < 10) : WF (fTurn A a c).2 := h.onRow ha (fun u hu => WF.fW h hu (fun hk i hi hi2 => h.2.2.2.2.1 u hu hk _ (md_lt (by omega))))
theorem md_add {i n : Nat} {c : Int} (h : 0 < n) : (((i : Int) + c) % (n : Int)).toNat = (i + (c % n).toNat) % n := by
  have h1 := Int.emod_nonneg c (show (n : Int) ≠ 0 by omega)
  have h2 := Int.emod_nonneg ((i : Int) + c) (show (n : Int) ≠ 0 by omega)
  have e : ((i : Int) + c) % (n : Int) = ((i : Int) + c % n) % n := (Int.add_emod_emod _ _ _).symm
  have e2 : ((i + (c % n).toNat : Nat) : Int) = (i : Int) + c % n := by omega
  rw [e, ← e2]
  omega
theorem c_turn_loop {nx : Nat} {A S0 : xs_T} {u r n : Nat} {K : xs_T → Prop} {g : Nat → Int64} (h : CA nx A S0) (hw : WF A) (hu : oW A u) (hn : n = xN A (u + 120)) (hr : r < n) (hgg : ∀ i, i < n → g i = xL A (u + 120) ((i + r) % n))
    (hK : ∀ S', cw u S0 S' → (∀ q, xL S' (u + 120) q = pw (xL S0 (u + 120)) 0 n g q) → K S') :
    ∀ (m i : Nat) (S : xs_T), i + m = n → cw u S0 S → (∀ j, j < n → xL S 39 j = xL A (u + 120) j) → (∀ q, xL S (u + 120) q = pw (xL S0 (u + 120)) 0 i g q) → v_X5_turn_26 K (m + 1) u 39 (nI n) (nI r) (nI i) S := by
  have hl := (hw.2.1 u hu).2
  intro m
  induction m with
  | zero =>
    intro i S hi hc h39 hp
    rw [v_X5_turn_26]
    have e : i = n := by omega
    subst e
    exact ⟨fun _ => hK S hc hp, fun q => absurd (nI_le (Nat.le_refl i) (by omega)) q⟩
  | succ m ih =>
    intro i S hi hc h39 hp
    rw [v_X5_turn_26]
    refine ⟨fun q => absurd q (nI_ge (by omega) (by omega)), fun _ => ⟨cw_oR hc (CA_oR h hw hu), nI_ne0 (by omega) (by omega), Or.inr (Or.inl rfl), (i + r) % n, by rw [nI_add, pk_rem (by omega) (by omega) (by omega)], ?_, i, rfl, by rw [hc.2.2.2.1, c_len h hu]; omega, ?_⟩⟩
    · have : (i + r) % n < n := Nat.mod_lt _ (by omega)
      show _ < 64
      omega
    · rintro _ rfl
      rw [nI_1]
      refine ih (i + 1) _ (by omega) hc.L (fun j hj => ?_) (pw_1 hp (by omega) ?_)
      · rw [gLL, if_neg (by omega)]; exact h39 j hj
      · rw [hgg i (by omega), h39 _ (Nat.mod_lt _ (by omega))]
theorem c_turn {nx : Nat} {A S : xs_T} {a : Nat} {c : Int32} {K : Int32 → xs_T → Prop} (h : CA nx A S) (hw : WF A) (ha : a < 10) (hK : CK nx S K (fTurn A a c)) : v_X0_turn (nI a) c S K := by
  unfold v_X0_turn
  refine ⟨a, rfl, ha, c_onRow h hw ha hK (fun u hu hr hK => ?_)⟩
  unfold v_X5_turn
  have hl := (hw.2.1 u hu).2
  rw [c_len h hu]
  refine ⟨CA_oR h hw hu, fun q => ?_, fun q => ?_⟩
  · have h0 : 0 < xN A (u + 120) := by
      rcases Nat.eq_zero_or_pos (xN A (u + 120)) with z | z
      · rw [z] at q; exact absurd rfl q
      · exact z
    refine s_fmod h0 (by omega) (c_copyTo h hw hu (Or.inr rfl) (fun f hf => ⟨_, c_turn_loop h hw hu rfl (md_lt h0) (fun i hi => rfl) (fun S'' hc2 hp => ?_) (xN A (u + 120)) 0 (tL S 39 f) (by omega) cw.refl.T39 hf (fun q => by rw [gLt, if_neg (by have := hu.1; omega), pw_0])⟩))
    refine hK S'' (h.fW hw hu hc2 (fun i hi => ?_)) hc2.m
    rw [hp]
    unfold pw
    rw [if_pos (by omega), if_pos (by omega)]
    show xL A (u + 120) _ = xL A (u + 120) _
    rw [md_add h0]
  · have z : xN A (u + 120) = 0 := nI_inj (by omega) (by omega) q
    refine hK S (h.fW hw hu cw.refl (fun i hi => ?_)) mfr.refl
    omega
