/-! shifts of longs -/
theorem l_amt : ∀ k, k < 64 → (((nI k).toInt64 &&& 63 : Int64).toBitVec.smod 64).toNat = k := by decide +kernel
theorem l_nat (n : Nat) : (lN n).toBitVec.toNat = n % 2 ^ 64 := by
  show (BitVec.ofNat 64 n).toNat = _
  rw [BitVec.toNat_ofNat]
theorem l_shl {m k : Nat} (hk : k < 64) : lN m <<< ((nI k).toInt64 &&& 63) = lN (m * 2 ^ k) := by
  rw [← Int64.toBitVec_inj, ← BitVec.toNat_inj, Int64.toBitVec_shiftLeft, BitVec.shiftLeft_eq', BitVec.toNat_shiftLeft, l_amt k hk, l_nat, l_nat, Nat.shiftLeft_eq, Nat.mod_mul_mod]
theorem l_shr {m k : Nat} (hm : m < 2 ^ 63) (hk : k < 64) : lN m >>> ((nI k).toInt64 &&& 63) = lN (m / 2 ^ k) := by
  have hd : m / 2 ^ k ≤ m := Nat.div_le_self _ _
  rw [← Int64.toInt_inj, pk_lT (n := m / 2 ^ k) (by omega)]
  show (lN m >>> ((nI k).toInt64 &&& 63)).toBitVec.toInt = _
  rw [Int64.toBitVec_shiftRight, BitVec.sshiftRight_eq', BitVec.toInt_sshiftRight, l_amt k hk]
  show (lN m).toInt >>> k = _
  rw [pk_lT hm, Int.shiftRight_eq_div_pow]
  norm_cast
theorem l_or {v k : Nat} (hv : v < 2 ^ k) (hk : k < 64) : lN v ||| lN (2 ^ k) = lN (2 ^ k + v) := by
  have h2 : 2 ^ k < 2 ^ 64 := Nat.pow_lt_pow_right (by decide) hk
  rw [← Int64.toBitVec_inj, ← BitVec.toNat_inj, Int64.toBitVec_or, BitVec.toNat_or, l_nat, l_nat, l_nat, Nat.mod_eq_of_lt (show v < 2 ^ 64 by omega), Nat.mod_eq_of_lt h2, Nat.or_comm]
  have := Nat.two_pow_add_eq_or_of_lt hv 1
  rw [Nat.mul_one] at this
  rw [← this]
  have h3 : 2 ^ k ≤ 2 ^ 63 := Nat.pow_le_pow_right (by decide) (by omega)
  rw [Nat.mod_eq_of_lt (by omega)]
theorem l_odd {m : Nat} (hm : m < 2 ^ 63) : (lN m &&& 1 = 1) ↔ m % 2 = 1 := by
  have e : lN m &&& 1 = lN (m % 2) := by
    rw [← Int64.toBitVec_inj, ← BitVec.toNat_inj, Int64.toBitVec_and, BitVec.toNat_and, l_nat, l_nat]
    show m % 2 ^ 64 &&& 1 = _
    rw [Nat.and_one_is_mod]
    omega
  rw [e]
  exact pk_lEQ (b := 1) (by omega) (by decide)
/-- topBit -/
theorem s_top {a : Nat} {S : xs_T} {K : Int32 → xs_T → Prop} (h0 : a ≠ 0) (ha : a < 2 ^ 32) (hK : K (nI a.log2) S) : v_X4_topBit (lN a) S K := by
  have hl : a.log2 < 32 := (Nat.log2_lt h0).mpr ha
  have key : ∀ m i : Nat, i + m = 32 → 1 ≤ i → v_X4_topBit_4 K (m + 1) (lN a) (nI (min a.log2 (i - 1))) (nI i) S := by
    intro m
    induction m with
    | zero =>
      intro i hi h1
      rw [v_X4_topBit_4]
      have e : i = 32 := by omega
      subst e
      refine ⟨fun _ => ?_, fun q => absurd (nI_le (Nat.le_refl 32) (by decide)) q⟩
      rw [Nat.min_eq_left (by omega)]
      exact hK
    | succ m ih =>
      intro i hi h1
      rw [v_X4_topBit_4]
      refine ⟨fun q => absurd q (nI_ge (a := i) (b := 32) (by omega) (by decide)), fun _ => ?_⟩
      rw [l_shr (by omega) (by omega), nI_1]
      have hp : 0 < 2 ^ i := Nat.two_pow_pos i
      have hd : a / 2 ^ i ≤ a := Nat.div_le_self _ _
      have e : lN (a / 2 ^ i) = 0 ↔ a.log2 < i := by
        rw [show (0 : Int64) = lN 0 from rfl, pk_lEQ (by omega) (by decide), Nat.log2_lt h0, Nat.div_eq_zero_iff]
        omega
      rw [e]
      refine ⟨fun q => ?_, fun q => ?_⟩
      · have := ih (i + 1) (by omega) (by omega)
        rw [Nat.min_eq_left (by omega)] at this ⊢
        exact this
      · have := ih (i + 1) (by omega) (by omega)
        rw [Nat.min_eq_right (by omega)] at this
        exact this
  have := key 31 1 (by omega) (by omega)
  rw [Nat.min_eq_right (by omega)] at this
  exact ⟨_, this⟩
theorem s_abs {c : Int32} {S : xs_T} {K : Int64 → xs_T → Prop} (hK : K (lN c.toInt.natAbs) S) : v_J9_abs_067f4 c.toInt64 S K := by
  unfold v_J9_abs_067f4
  have h1 := Int32.toInt_lt c
  have h2 := Int32.le_toInt c
  have h0 : (0 : Int64).toInt = 0 := by decide
  refine ⟨fun q => ?_, fun q => ?_⟩
  · rw [Int64.le_iff_toInt_le, l_ti, h0] at q
    have e : c.toInt64 = lN c.toInt.natAbs := by
      rw [← Int64.toInt_inj, l_ti, pk_lT (by omega)]
      omega
    rw [e]
    exact hK
  · rw [Int64.le_iff_toInt_le, l_ti, h0] at q
    have e : -c.toInt64 = lN c.toInt.natAbs := by
      rw [← Int64.toInt_inj, Int64.toInt_neg, l_ti, pk_lT (by omega), Int.bmod_eq_of_le (by omega) (by omega)]
      omega
    rw [e]
    exact hK
/-! what an int's bits are -/
theorem fp_lead {a : Nat} (h : a ≠ 0) : FP.Core.leading a 1 = a.log2 := by
  have e : Nat.log2 1 = 0 := by decide +kernel
  unfold FP.Core.leading
  rw [e]
  have e1 : ((a.log2 : Int) - ((0 : Nat) : Int)).toNat = a.log2 := by omega
  have e2 : (-((a.log2 : Int) - ((0 : Nat) : Int))).toNat = 0 := by omega
  show (if 1 * 2 ^ ((a.log2 : Int) - ((0 : Nat) : Int)).toNat ≤ a * 2 ^ (-((a.log2 : Int) - ((0 : Nat) : Int))).toNat then ((a.log2 : Int) - ((0 : Nat) : Int)) else ((a.log2 : Int) - ((0 : Nat) : Int)) - 1) = _
  rw [e1, e2, if_pos (by rw [Nat.one_mul, Nat.pow_zero, Nat.mul_one]; exact Nat.log2_self_le h)]
  omega
theorem fp_near1 (n : Nat) : FP.Core.nearest n 1 = n := by
  unfold FP.Core.nearest
  rw [Nat.mod_one, if_pos (by omega), Nat.div_one]
theorem fp_pow {a L p : Nat} (h1 : 2 ^ L ≤ a) (h2 : a < 2 ^ (L + 1)) (hp : L ≤ p) : 2 ^ p ≤ a * 2 ^ (p - L) ∧ a * 2 ^ (p - L) < 2 ^ (p + 1) := by
  have e : 2 ^ L * 2 ^ (p - L) = 2 ^ p := by rw [← Nat.pow_add]; congr 1; omega
  have e2 : 2 ^ (L + 1) * 2 ^ (p - L) = 2 ^ (p + 1) := by rw [← Nat.pow_add]; congr 1; omega
  refine ⟨?_, ?_⟩
  · rw [← e]; exact Nat.mul_le_mul_right _ h1
  · rw [← e2]; exact Nat.mul_lt_mul_of_pos_right h2 (Nat.two_pow_pos _)
theorem fp_64 {i : Int} (h0 : i ≠ 0) (h1 : i.natAbs < 2 ^ 32) : FP.Core.fromInt FP.Core.b64 i = (if i < 0 then 2 ^ 63 else 0) + ((i.natAbs.log2 + 1023) * 2 ^ 52 + i.natAbs * 2 ^ (52 - i.natAbs.log2) - 2 ^ 52) := by
  have ha : i.natAbs ≠ 0 := by omega
  have hl : i.natAbs.log2 < 32 := (Nat.log2_lt ha).mpr h1
  have hA := Nat.log2_self_le ha
  have hB : i.natAbs < 2 ^ (i.natAbs.log2 + 1) := Nat.lt_log2_self
  obtain ⟨b1, b2⟩ := fp_pow hA hB (p := 52) (by omega)
  have hq : FP.Core.quantum FP.Core.b64 i.natAbs 1 0 = (i.natAbs.log2 : Int) - 52 := by
    unfold FP.Core.quantum
    rw [fp_lead ha]
    show max (-1074 : Int) ((i.natAbs.log2 : Int) + 0 - ((53 : Nat) - 1 : Int)) = _
    omega
  unfold FP.Core.fromInt FP.Core.round FP.Core.ofInt
  show FP.Core.encode FP.Core.b64 (FP.Core.roundRatio FP.Core.b64 (decide (i < 0)) i.natAbs 1 0) = _
  unfold FP.Core.roundRatio
  rw [if_neg ha, hq]
  unfold FP.Core.roundAt FP.Core.unitsNum FP.Core.unitsDen
  rw [show (0 - ((i.natAbs.log2 : Int) - 52)).toNat = 52 - i.natAbs.log2 by omega, show ((i.natAbs.log2 : Int) - 52 - 0).toNat = 0 by omega, Nat.pow_zero, Nat.mul_one, fp_near1]
  unfold FP.Core.settle FP.Core.bound
  rw [if_pos (show i.natAbs * 2 ^ (52 - i.natAbs.log2) < 2 ^ FP.Core.b64.p from b2), if_pos (show (i.natAbs.log2 : Int) - 52 ≤ FP.Core.b64.qmax from (by show _ ≤ (971 : Int); omega))]
  show (if i.natAbs * 2 ^ (52 - i.natAbs.log2) < 2 ^ 52 then _ else ((decide (i < 0)).toNat * 2048 + (((i.natAbs.log2 : Int) - 52 - (-1074)).toNat + 1)) * 2 ^ 52 + (i.natAbs * 2 ^ (52 - i.natAbs.log2) - 2 ^ 52)) = _
  rw [if_neg (by omega), show ((i.natAbs.log2 : Int) - 52 - (-1074)).toNat + 1 = i.natAbs.log2 + 1023 by omega]
  by_cases hi : i < 0
  · rw [if_pos hi, decide_eq_true hi]
    show (1 * 2048 + _) * _ + _ = _
    omega
  · rw [if_neg hi, decide_eq_false hi]
    show (0 * 2048 + _) * _ + _ = _
    omega
/-- the significand of a float -/
def fc_ (a : Nat) : Nat := if a.log2 ≤ 23 then a * 2 ^ (23 - a.log2) else FP.Core.nearest a (2 ^ (a.log2 - 23))
theorem fc_bd {a : Nat} (h0 : a ≠ 0) (h1 : a < 2 ^ 32) : 2 ^ 23 ≤ fc_ a ∧ fc_ a ≤ 2 ^ 24 := by
  have hl : a.log2 < 32 := (Nat.log2_lt h0).mpr h1
  have hA := Nat.log2_self_le h0
  have hB : a < 2 ^ (a.log2 + 1) := Nat.lt_log2_self
  unfold fc_
  by_cases e : a.log2 ≤ 23
  · rw [if_pos e]
    obtain ⟨b1, b2⟩ := fp_pow hA hB e
    exact ⟨b1, by omega⟩
  · rw [if_neg e]
    have e1 : 2 ^ a.log2 = 2 ^ 23 * 2 ^ (a.log2 - 23) := by rw [← Nat.pow_add]; congr 1; omega
    have e2 : 2 ^ (a.log2 + 1) = 2 ^ 24 * 2 ^ (a.log2 - 23) := by rw [← Nat.pow_add]; congr 1; omega
    rw [e1] at hA
    rw [e2] at hB
    have hp : 0 < 2 ^ (a.log2 - 23) := Nat.two_pow_pos _
    have d1 : 2 ^ 23 ≤ a / 2 ^ (a.log2 - 23) := (Nat.le_div_iff_mul_le hp).mpr hA
    have d2 : a / 2 ^ (a.log2 - 23) < 2 ^ 24 := (Nat.div_lt_iff_lt_mul hp).mpr hB
    unfold FP.Core.nearest
    split
    · omega
    · split <;> omega
theorem fp_32 {i : Int} (h0 : i ≠ 0) (h1 : i.natAbs < 2 ^ 32) : FP.Core.fromInt FP.Core.b32 i = (if i < 0 then 2 ^ 31 else 0) + ((i.natAbs.log2 + 127) * 2 ^ 23 + fc_ i.natAbs - 2 ^ 23) := by
  have ha : i.natAbs ≠ 0 := by omega
  have hl : i.natAbs.log2 < 32 := (Nat.log2_lt ha).mpr h1
  obtain ⟨b1, b2⟩ := fc_bd ha h1
  have hq : FP.Core.quantum FP.Core.b32 i.natAbs 1 0 = (i.natAbs.log2 : Int) - 23 := by
    unfold FP.Core.quantum
    rw [fp_lead ha]
    show max (-149 : Int) ((i.natAbs.log2 : Int) + 0 - ((24 : Nat) - 1 : Int)) = _
    omega
  have hu : FP.Core.nearest (FP.Core.unitsNum i.natAbs 0 ((i.natAbs.log2 : Int) - 23)) (FP.Core.unitsDen 1 0 ((i.natAbs.log2 : Int) - 23)) = fc_ i.natAbs := by
    unfold FP.Core.unitsNum FP.Core.unitsDen fc_
    by_cases e : i.natAbs.log2 ≤ 23
    · rw [if_pos e, show (0 - ((i.natAbs.log2 : Int) - 23)).toNat = 23 - i.natAbs.log2 by omega, show ((i.natAbs.log2 : Int) - 23 - 0).toNat = 0 by omega, Nat.pow_zero, Nat.mul_one, fp_near1]
    · rw [if_neg e, show (0 - ((i.natAbs.log2 : Int) - 23)).toNat = 0 by omega, show ((i.natAbs.log2 : Int) - 23 - 0).toNat = i.natAbs.log2 - 23 by omega, Nat.pow_zero, Nat.mul_one, Nat.one_mul]
  unfold FP.Core.fromInt FP.Core.round FP.Core.ofInt
  show FP.Core.encode FP.Core.b32 (FP.Core.roundRatio FP.Core.b32 (decide (i < 0)) i.natAbs 1 0) = _
  unfold FP.Core.roundRatio
  rw [if_neg ha, hq]
  unfold FP.Core.roundAt
  rw [hu]
  unfold FP.Core.settle FP.Core.bound
  generalize fc_ i.natAbs = c at b1 b2
  by_cases e : c < 2 ^ 24
  · rw [if_pos (show c < 2 ^ FP.Core.b32.p from e), if_pos (show (i.natAbs.log2 : Int) - 23 ≤ FP.Core.b32.qmax from (by show _ ≤ (104 : Int); omega))]
    show (if c < 2 ^ 23 then _ else ((decide (i < 0)).toNat * 256 + (((i.natAbs.log2 : Int) - 23 - (-149)).toNat + 1)) * 2 ^ 23 + (c - 2 ^ 23)) = _
    rw [if_neg (by omega), show ((i.natAbs.log2 : Int) - 23 - (-149)).toNat + 1 = i.natAbs.log2 + 127 by omega]
    by_cases hi : i < 0
    · rw [if_pos hi, decide_eq_true hi]
      show (1 * 256 + _) * _ + _ = _
      omega
    · rw [if_neg hi, decide_eq_false hi]
      show (0 * 256 + _) * _ + _ = _
      omega
  · rw [if_neg (show ¬ c < 2 ^ FP.Core.b32.p from e), if_pos (show (i.natAbs.log2 : Int) - 23 + 1 ≤ FP.Core.b32.qmax from (by show _ ≤ (104 : Int); omega))]
    show ((decide (i < 0)).toNat * 256 + (((i.natAbs.log2 : Int) - 23 + 1 - (-149)).toNat + 1)) * 2 ^ 23 + (2 ^ 23 - 2 ^ 23) = _
    rw [show ((i.natAbs.log2 : Int) - 23 + 1 - (-149)).toNat + 1 = i.natAbs.log2 + 128 by omega]
    by_cases hi : i < 0
    · rw [if_pos hi, decide_eq_true hi]
      show (1 * 256 + _) * _ + _ = _
      omega
    · rw [if_neg hi, decide_eq_false hi]
      show (0 * 256 + _) * _ + _ = _
      omega
/-- the class's bits -/
def bF (c : Int32) : Int32 := nI (FP.Core.fromInt FP.Core.b32 c.toInt)
def bD (c : Int32) : Int64 := lN (FP.Core.fromInt FP.Core.b64 c.toInt)
theorem i_abs (c : Int32) : c.toInt.natAbs < 2 ^ 32 := by
  have h1 := Int32.toInt_lt c
  have h2 := Int32.le_toInt c
  omega
theorem i_zero {c : Int32} : c = 0 ↔ c.toInt = 0 := by rw [← Int32.toInt_inj, ti_0]
theorem bF0 : bF 0 = 0 := by decide +kernel
theorem bD0 : bD 0 = 0 := by decide +kernel
theorem s_dbits {c : Int32} {S : xs_T} {K : Int64 → xs_T → Prop} (hK : K (bD c) S) : v_X4_doubleBits c S K := by
  unfold v_X4_doubleBits
  refine ⟨fun q => s_abs (s_top ?_ (i_abs c) ?_), fun q => by rw [q, bD0] at hK; exact hK⟩
  · rw [i_zero] at q; omega
  rw [i_zero] at q
  have ha : c.toInt.natAbs ≠ 0 := by omega
  have hl : c.toInt.natAbs.log2 < 32 := (Nat.log2_lt ha).mpr (i_abs c)
  obtain ⟨b1, b2⟩ := fp_pow (Nat.log2_self_le ha) (Nat.lt_log2_self (n := c.toInt.natAbs)) (p := 52) (by omega)
  unfold bD at hK
  rw [fp_64 q (i_abs c)] at hK
  have e1 : (nI c.toInt.natAbs.log2).toInt64 + 1023 = lN (c.toInt.natAbs.log2 + 1023) := by
    rw [nI_l (by omega)]
    exact lN_add _ 1023
  have e2 : (52 : Int32) - nI c.toInt.natAbs.log2 = nI (52 - c.toInt.natAbs.log2) := pk_sub (a := 52) (by omega)
  have e3 : (52 : Int32) = nI 52 := rfl
  have e4 : (4503599627370496 : Int64) = lN (2 ^ 52) := by decide +kernel
  have e5 : (-9223372036854775808 : Int64) = lN (2 ^ 63) := by decide +kernel
  have e6 : lN (c.toInt.natAbs.log2 + 1023) <<< ((52 : Int32).toInt64 &&& 63) = lN ((c.toInt.natAbs.log2 + 1023) * 2 ^ 52) := l_shl (k := 52) (by decide)
  rw [e1, e2, e6, l_shl (by omega), lN_add, e4, lN_sub (by omega), e5]
  have h0 : (0 : Int32) ≤ c ↔ 0 ≤ c.toInt := by rw [Int32.le_iff_toInt_le, ti_0]
  refine ⟨fun z => ?_, fun z => ?_⟩
  · rw [h0] at z
    rw [if_neg (by omega), Nat.zero_add] at hK
    exact hK
  · rw [h0] at z
    rw [if_pos (by omega)] at hK
    rw [l_or (by omega) (by decide)]
    exact hK
theorem s_near {a s : Nat} {S : xs_T} {K : Int64 → xs_T → Prop} (ha : a < 2 ^ 32) (h1 : 1 ≤ s) (hs : s < 32) (hK : K (lN (FP.Core.nearest a (2 ^ s))) S) : v_X4_shiftedToNearest (lN a) (nI s) S K := by
  unfold v_X4_shiftedToNearest v_X4_shiftedToNearest_46 v_X4_shiftedToNearest_42 v_X4_shiftedToNearest_47
  have hp : 0 < 2 ^ s := Nat.two_pow_pos _
  have hd : a / 2 ^ s ≤ a := Nat.div_le_self _ _
  have hdm := Nat.div_add_mod a (2 ^ s)
  rw [Nat.mul_comm] at hdm
  have hml := Nat.mod_lt a hp
  have e1 : nI s - 1 = nI (s - 1) := pk_sub (b := 1) h1
  have e2 : (1 : Int64) <<< ((nI (s - 1)).toInt64 &&& 63) = lN (2 ^ (s - 1)) := by
    have := l_shl (m := 1) (k := s - 1) (by omega)
    rw [Nat.one_mul] at this
    exact this
  have e3 : 2 ^ s = 2 * 2 ^ (s - 1) := by rw [← Nat.pow_succ']; congr 1; omega
  have hh : 2 ^ (s - 1) < 2 ^ 32 := Nat.pow_lt_pow_right (by decide) (by omega)
  rw [e1, e2, l_shr (by omega) (by omega), l_shl (by omega), lN_sub (by omega), show a - a / 2 ^ s * 2 ^ s = a % 2 ^ s by omega, pk_lLT (by omega) (by omega), pk_lEQ (by omega) (by omega), l_odd (by omega)]
  unfold FP.Core.nearest at hK
  have n01 : ¬ (1 : Int32) = 0 := by decide
  refine ⟨fun q => ⟨fun z => absurd z n01, fun _ => ?_⟩, fun q => ⟨fun q2 => ⟨fun _ => ?_, fun z => absurd rfl z⟩, fun q2 => ⟨fun q3 => ⟨fun _ => ?_, fun z => absurd rfl z⟩, fun q3 => ⟨fun z => absurd z n01, fun _ => ?_⟩⟩⟩⟩
  · rw [if_neg (by omega), if_pos (by omega)] at hK
    rw [lN_1]; exact hK
  · rw [if_pos (by omega)] at hK
    exact hK
  · rw [if_neg (by omega), if_neg (by omega), show a / 2 ^ s % 2 = 0 by omega] at hK
    exact hK
  · rw [if_neg (by omega), if_neg (by omega), q3] at hK
    rw [lN_1]; exact hK
theorem s_fbits {c : Int32} {S : xs_T} {K : Int32 → xs_T → Prop} (hK : K (bF c) S) : v_X4_floatBits c S K := by
  unfold v_X4_floatBits
  refine ⟨fun q => s_abs (s_top ?_ (i_abs c) ?_), fun q => by rw [q, bF0] at hK; exact hK⟩
  · rw [i_zero] at q; omega
  rw [i_zero] at q
  have ha : c.toInt.natAbs ≠ 0 := by omega
  have hl : c.toInt.natAbs.log2 < 32 := (Nat.log2_lt ha).mpr (i_abs c)
  have hbd := fc_bd ha (i_abs c)
  unfold bF at hK
  rw [fp_32 q (i_abs c)] at hK
  have h0 : (0 : Int32) ≤ c ↔ 0 ≤ c.toInt := by rw [Int32.le_iff_toInt_le, ti_0]
  have e5 : (2147483648 : Int64) = lN (2 ^ 31) := by decide +kernel
  have e4 : (8388608 : Int64) = lN (2 ^ 23) := by decide +kernel
  have fin : v_X4_floatBits_40 K c (nI c.toInt.natAbs.log2) (lN (fc_ c.toInt.natAbs)) S := by
    unfold v_X4_floatBits_40
    have e1 : nI c.toInt.natAbs.log2 + 127 = nI (c.toInt.natAbs.log2 + 127) := nI_add _ 127
    have e6 : lN (c.toInt.natAbs.log2 + 127) <<< ((23 : Int32).toInt64 &&& 63) = lN ((c.toInt.natAbs.log2 + 127) * 2 ^ 23) := l_shl (k := 23) (by decide)
    rw [e1, nI_l (by omega), e6, lN_add, e4, lN_sub (by omega), e5]
    refine ⟨fun z => ?_, fun z => ?_⟩
    · rw [h0] at z
      rw [if_neg (by omega), Nat.zero_add] at hK
      rw [lN_i]
      exact hK
    · rw [h0] at z
      rw [if_pos (by omega)] at hK
      rw [l_or (by omega) (by decide), lN_i]
      exact hK
  have i23 : 23 < nI c.toInt.natAbs.log2 ↔ 23 < c.toInt.natAbs.log2 := nI_ltI (a := 23) (by decide) (by omega)
  refine ⟨fun z => ?_, fun z => ?_⟩
  · rw [i23] at z
    have e2 : nI c.toInt.natAbs.log2 - 23 = nI (c.toInt.natAbs.log2 - 23) := pk_sub (b := 23) (by omega)
    rw [e2]
    refine s_near (i_abs c) (by omega) (by omega) ?_
    unfold fc_ at fin
    rw [if_neg (by omega)] at fin
    exact fin
  · rw [i23] at z
    have e2 : (23 : Int32) - nI c.toInt.natAbs.log2 = nI (23 - c.toInt.natAbs.log2) := pk_sub (a := 23) (by omega)
    rw [e2, l_shl (by omega)]
    unfold fc_ at fin
    rw [if_pos (by omega)] at fin
    exact fin
theorem fp_self (f : FP.Core.Fmt) {n : Nat} (h : ¬ FP.Core.fieldE f n = f.exps - 1) : FP.Core.cmp f n n = some .eq := by
  have e : ∃ s c q, FP.Core.decode f n = .fin s c q := by
    unfold FP.Core.decode
    rw [if_neg h]
    by_cases h2 : FP.Core.fieldE f n = 0
    · rw [if_pos h2]; exact ⟨_, _, _, rfl⟩
    · rw [if_neg h2]; exact ⟨_, _, _, rfl⟩
  obtain ⟨s, c, q, e⟩ := e
  unfold FP.Core.cmp
  rw [e]
  show some (compare (FP.Core.signed s (FP.Core.inUnits c q (min q q))) (FP.Core.signed s (FP.Core.inUnits c q (min q q)))) = _
  congr 1
  simp [compare, compareOfLessAndEq]
theorem fp_n32 (c : Int32) : FP.fcmp (FP.i2f c) (FP.i2f c) = some .eq := by
  by_cases q : c = 0
  · subst q; decide +kernel
  rw [i_zero] at q
  have ha : c.toInt.natAbs ≠ 0 := by omega
  have hl : c.toInt.natAbs.log2 < 32 := (Nat.log2_lt ha).mpr (i_abs c)
  have hbd := fc_bd ha (i_abs c)
  refine fp_self _ ?_
  show ¬ (UInt32.ofNat (FP.Core.fromInt FP.Core.b32 c.toInt)).toNat / 2 ^ 23 % 256 = 256 - 1
  rw [UInt32.toNat_ofNat', fp_32 q (i_abs c)]
  by_cases hi : c.toInt < 0
  · rw [if_pos hi]; omega
  · rw [if_neg hi]; omega
theorem fp_n64 (c : Int32) : FP.dcmp (FP.i2d c) (FP.i2d c) = some .eq := by
  by_cases q : c = 0
  · subst q; decide +kernel
  rw [i_zero] at q
  have ha : c.toInt.natAbs ≠ 0 := by omega
  have hl : c.toInt.natAbs.log2 < 32 := (Nat.log2_lt ha).mpr (i_abs c)
  obtain ⟨b1, b2⟩ := fp_pow (Nat.log2_self_le ha) (Nat.lt_log2_self (n := c.toInt.natAbs)) (p := 52) (by omega)
  refine fp_self _ ?_
  show ¬ (UInt64.ofNat (FP.Core.fromInt FP.Core.b64 c.toInt)).toNat / 2 ^ 52 % 2048 = 2048 - 1
  rw [UInt64.toNat_ofNat', fp_64 q (i_abs c)]
  by_cases hi : c.toInt < 0
  · rw [if_pos hi]; omega
  · rw [if_neg hi]; omega
theorem s_m32 {c : Int32} {S : xs_T} {K : Int32 → xs_T → Prop} (hK : K (bF c) S) : v_Jxf58ca_floatToIntBits_5c35a (FP.i2f c) S K := by
  unfold v_Jxf58ca_floatToIntBits_5c35a v_Jxf58ca_isNaN_12338
  rw [fp_n32 c]
  exact ⟨fun _ => ⟨fun z => absurd rfl z, fun _ => hK⟩, fun z => absurd rfl z⟩
theorem s_m64 {c : Int32} {S : xs_T} {K : Int64 → xs_T → Prop} (hK : K (bD c) S) : v_Jxe99ae_doubleToLongBits_ccdee (FP.i2d c) S K := by
  unfold v_Jxe99ae_doubleToLongBits_ccdee v_Jxe99ae_isNaN_b9ae7
  rw [fp_n64 c]
  exact ⟨fun _ => ⟨fun z => absurd rfl z, fun _ => hK⟩, fun z => absurd rfl z⟩
/-! pin -/
def cutV (k : Nat) (c : Int32) : Int64 := if k = 0 then (if c = 0 then 0 else 1) else if k = 1 then (c.toInt8.toInt32).toInt64 else if k = 2 then (c &&& 65535).toInt64 else if k = 3 then (c.toInt16.toInt32).toInt64 else if k = 6 then (bF c).toInt64 else if k = 7 then bD c else c.toInt64
theorem c_cutTo {k : Nat} {c : Int32} {S : xs_T} {K : Int64 → xs_T → Prop} (hk : k < 8) (hK : K (cutV k c) S) : v_X4_cutToKind (nI k) c S K := by
  unfold v_X4_cutToKind
  unfold cutV at hK
  have e : ∀ j : Nat, j < 20 → (nI k = nI j ↔ k = j) := fun j hj => nI_eq (by omega) (by omega)
  have e0 : nI k = 0 ↔ k = 0 := e 0 (by decide)
  have e1 : nI k = 1 ↔ k = 1 := e 1 (by decide)
  have e2 : nI k = 2 ↔ k = 2 := e 2 (by decide)
  have e3 : nI k = 3 ↔ k = 3 := e 3 (by decide)
  have e6 : nI k = 6 ↔ k = 6 := e 6 (by decide)
  have e7 : nI k = 7 ↔ k = 7 := e 7 (by decide)
  have ch : (c.toUInt32 % 65536).toInt32 = c &&& 65535 := by rw [pk_char, pk_and c 16 (by decide)]
  simp only [e0, e1, e2, e3, e6, e7]
  rw [ch]
  refine ⟨fun q => ?_, fun q => ?_, fun q => ?_, fun q => ?_, fun q => s_fbits ?_, fun q => s_dbits ?_, fun q0 q1 q2 q3 q6 q7 => ?_⟩
  · rw [if_pos q] at hK
    exact ⟨fun z => by rw [if_pos z] at hK; exact hK, fun z => by rw [if_neg z] at hK; exact hK⟩
  · rw [if_neg (by omega), if_pos q] at hK; exact hK
  · rw [if_neg (by omega), if_neg (by omega), if_pos q] at hK; exact hK
  · rw [if_neg (by omega), if_neg (by omega), if_neg (by omega), if_pos q] at hK; exact hK
  · rw [if_neg (by omega), if_neg (by omega), if_neg (by omega), if_neg (by omega), if_pos q] at hK; exact hK
  · rw [if_neg (by omega), if_neg (by omega), if_neg (by omega), if_neg (by omega), if_neg (by omega), if_pos q] at hK; exact hK
  · rw [if_neg q0, if_neg q1, if_neg q2, if_neg q3, if_neg q6, if_neg q7] at hK; exact hK
theorem m_cutTo {k : Nat} {c : Int32} {S : xs_T} {K : Int64 → xs_T → Prop} (hk : k < 8) (hK : K (cutV k c) S) : v_X10_cutTo (nI k) c S K := by
  unfold v_X10_cutTo
  unfold cutV at hK
  have e : ∀ j : Nat, j < 20 → (nI k = nI j ↔ k = j) := fun j hj => nI_eq (by omega) (by omega)
  have e0 : nI k = 0 ↔ k = 0 := e 0 (by decide)
  have e1 : nI k = 1 ↔ k = 1 := e 1 (by decide)
  have e2 : nI k = 2 ↔ k = 2 := e 2 (by decide)
  have e3 : nI k = 3 ↔ k = 3 := e 3 (by decide)
  have e4 : nI k = 4 ↔ k = 4 := e 4 (by decide)
  have e5 : nI k = 5 ↔ k = 5 := e 5 (by decide)
  have e6 : nI k = 6 ↔ k = 6 := e 6 (by decide)
  simp only [e0, e1, e2, e3, e4, e5, e6]
  refine ⟨fun q => ?_, fun q => ?_, fun q => ?_, fun q => ?_, fun q => ?_, fun q => s_m32 ?_, fun q0 q1 q2 q3 q4 q5 q6 => s_m64 ?_⟩
  · rw [if_pos q] at hK
    exact ⟨fun z => by rw [if_pos z] at hK; exact hK, fun z => by rw [if_neg z] at hK; exact hK⟩
  · rw [if_neg (by omega), if_pos q] at hK; exact hK
  · rw [if_neg (by omega), if_neg (by omega), if_pos q] at hK; exact hK
  · rw [if_neg (by omega), if_neg (by omega), if_neg (by omega), if_pos q] at hK; exact hK
  · rw [if_neg (by omega), if_neg (by omega), if_neg (by omega), if_neg (by omega), if_neg (by omega), if_neg (by omega)] at hK; exact hK
  · rw [if_neg (by omega), if_neg (by omega), if_neg (by omega), if_neg (by omega), if_pos q] at hK; exact hK
  · rw [if_neg (by omega), if_neg (by omega), if_neg (by omega), if_neg (by omega), if_neg (by omega), if_pos (by omega)] at hK; exact hK
def fPin (A : xs_T) (a : Nat) (c : Int32) : Int32 × xs_T := onRow A a (fun u => if xN A u < 8 then (if inR (xI A 38 a) (xN A (u + 120)) then (0, fW A u (xI A 38 a).toInt.toNat 1 (fun _ => cutV (xN A u) c)) else (3, A)) else (2, A))
theorem WF.pin {A : xs_T} {a : Nat} {c : Int32} (h : WF A) (ha : a < 10) : WF (fPin A a c).2 := h.onRow ha (fun u hu => by
  show WF (if xN A u < 8 then _ else _ : Int32 × xs_T).2
  by_cases e : xN A u < 8
  · rw [if_pos e]
    by_cases e2 : inR (xI A 38 a) (xN A (u + 120))
    · rw [if_pos e2]; exact WF.fW h hu (fun hk => absurd hk (by omega))
    · rw [if_neg e2]; exact h
  · rw [if_neg e]; exact h)
theorem c_pin {nx : Nat} {A S : xs_T} {a : Nat} {c : Int32} {K : Int32 → xs_T → Prop} (h : CA nx A S) (hw : WF A) (ha : a < 10) (hK : CK nx S K (fPin A a c)) : v_X0_pin (nI a) c S K := by
  unfold v_X0_pin
  refine ⟨a, rfl, ha, c_onRow h hw ha hK (fun u hu hr hK => ?_)⟩
  replace hK : CK nx S K (if xN A u < 8 then (if inR (xI A 38 a) (xN A (u + 120)) then (0, fW A u (xI A 38 a).toInt.toNat 1 (fun _ => cutV (xN A u) c)) else (3, A)) else (2, A)) := hK
  have hl := (hw.2.1 u hu).2
  refine c_isFig2 h hw hu (fun q => by rw [if_neg (by omega)] at hK; exact hK S h mfr.refl) (fun q => ⟨a, rfl, ha, ?_⟩)
  rw [if_pos q] at hK
  rw [h.mark ha]
  refine c_hasPlace h hw hu (fun i e hi => ⟨fun _ => ⟨a, rfl, ha, ?_⟩, fun z => absurd z (by decide)⟩) (fun e => ⟨fun z => absurd rfl z, fun _ => by rw [if_neg e] at hK; exact hK S h mfr.refl⟩)
  rw [e, if_pos (by rw [inR, nI_toInt (by omega)]; omega), nI_toInt (by omega), Int.toNat_natCast] at hK
  rw [c_kind h hu]
  refine c_cutTo q ⟨i, by rw [h.mark ha, e], by rw [c_len h hu]; exact hi, ?_⟩
  rintro _ rfl
  exact hK _ (c_put h hw hu) (mfr.L (by omega))
theorem m_pin {fr : Nat → Nat} {A S : xs_T} {a : Nat} {c : Int32} {K : Int32 → xs_T → Prop} (h : MA fr A S) (hw : WF A) (ha : a < 10) (hK : MK S K (fPin A a c)) : v_X10_pin (nI a) c S K := by
  unfold v_X10_pin
  have m1 : (-1 : Int32) < 0 := by decide
  have h0 := hw.1.1
  have hc := hw.1.2.2.1
  refine ⟨a, rfl, ha, m_onRow h hw ha hK (fun z => ⟨fun _ => z, fun q => absurd m1 q⟩) (fun u hu hlt hr hK => ⟨fun q => absurd q (nI_pos (by omega)), fun _ => ⟨u - 64, rfl, by omega, ?_⟩⟩)⟩
  have hb2 := hw.2.1 u hu
  obtain ⟨r1, r2, r3, r4, r5⟩ := m_row h hu
  have i1 : nI (xN A u) < 8 ↔ xN A u < 8 := nI_ltI (b := 8) (by omega) (by decide)
  replace hK : MK S K (if xN A u < 8 then (if inR (xI A 38 a) (xN A (u + 120)) then (0, fW A u (xI A 38 a).toInt.toNat 1 (fun _ => cutV (xN A u) c)) else (3, A)) else (2, A)) := hK
  rw [r1]
  refine ⟨fun q => ⟨a, rfl, ha, u - 64, rfl, by omega, ?_⟩, fun q => by rw [if_neg (by rw [i1] at q; exact q)] at hK; exact hK fr S h cfr.refl⟩
  rw [i1] at q
  rw [if_pos q] at hK
  rw [r2, m_mark h ha]
  refine m_place hw hu (fun i e hi => ⟨u - 64, rfl, by omega, a, rfl, ha, u - 64, rfl, by omega, ?_⟩) (fun e => by rw [if_neg e] at hK; exact hK fr S h cfr.refl)
  rw [e, if_pos (by rw [inR, nI_toInt (by omega)]; omega), nI_toInt (by omega), Int.toNat_natCast] at hK
  rw [r1]
  refine m_cutTo q ⟨fr u + i, by rw [r3, m_mark h ha, e, nI_add], by omega, ?_⟩
  rintro _ rfl
  exact hK fr _ (m_put h hw hu hi) (cfr.L (by decide))
