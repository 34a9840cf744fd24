/-! small numbers as Ints -/
theorem ti_0 : (0 : Int32).toInt = 0 := by decide
theorem ti_1 : (1 : Int32).toInt = 1 := by decide
theorem ti_2 : (2 : Int32).toInt = 2 := by decide
theorem ti_3 : (3 : Int32).toInt = 3 := by decide
theorem ti_4 : (4 : Int32).toInt = 4 := by decide
theorem ti_5 : (5 : Int32).toInt = 5 := by decide
theorem ti_6 : (6 : Int32).toInt = 6 := by decide
theorem ti_7 : (7 : Int32).toInt = 7 := by decide
theorem ti_8 : (8 : Int32).toInt = 8 := by decide
theorem ti_9 : (9 : Int32).toInt = 9 := by decide
theorem ti_10 : (10 : Int32).toInt = 10 := by decide
theorem ti_11 : (11 : Int32).toInt = 11 := by decide
theorem ti_12 : (12 : Int32).toInt = 12 := by decide
theorem ti_13 : (13 : Int32).toInt = 13 := by decide
theorem ti_14 : (14 : Int32).toInt = 14 := by decide
theorem ti_15 : (15 : Int32).toInt = 15 := by decide
theorem ti_20 : (20 : Int32).toInt = 20 := by decide
theorem ti_60 : (60 : Int32).toInt = 60 := by decide
theorem ti_64 : (64 : Int32).toInt = 64 := by decide
theorem ti_120 : (120 : Int32).toInt = 120 := by decide
theorem ti_300 : (300 : Int32).toInt = 300 := by decide
theorem ti_400 : (400 : Int32).toInt = 400 := by decide
theorem ti_3000 : (3000 : Int32).toInt = 3000 := by decide
theorem ti_4000 : (4000 : Int32).toInt = 4000 := by decide
theorem ti_m1 : (-1 : Int32).toInt = -1 := by decide
theorem s_in {x1 x2 x3 : Int32} {S : xs_T} {K : Int32 → xs_T → Prop} (h1 : x2.toInt ≤ x1.toInt ∧ x1.toInt ≤ x3.toInt → K 1 S) (h0 : ¬ (x2.toInt ≤ x1.toInt ∧ x1.toInt ≤ x3.toInt) → K 0 S) : v_X10_in x1 x2 x3 S K := by
  unfold v_X10_in
  refine ⟨fun c => h0 ?_, fun c => ⟨fun d => h0 ?_, fun d => h1 ?_⟩⟩
  all_goals first | (simp only [Int32.lt_iff_toInt_lt] at *; done) | (simp only [Int32.lt_iff_toInt_lt] at *; omega) | omega
theorem s_within {x1 x2 x3 : Int32} {S : xs_T} {K : Int32 → xs_T → Prop} (h1 : x2.toInt ≤ x1.toInt ∧ x1.toInt ≤ x3.toInt → K 1 S) (h0 : ¬ (x2.toInt ≤ x1.toInt ∧ x1.toInt ≤ x3.toInt) → K 0 S) : v_X9_isWithin x1 x2 x3 S K := s_in h1 h0
theorem s_in2 {x1 x2 x3 : Int32} {S : xs_T} {P Q : xs_T → Prop} (h1 : x2.toInt ≤ x1.toInt ∧ x1.toInt ≤ x3.toInt → Q S) (h0 : ¬ (x2.toInt ≤ x1.toInt ∧ x1.toInt ≤ x3.toInt) → P S) : v_X10_in x1 x2 x3 S (fun r S => (r = 0 → P S) ∧ (¬ r = 0 → Q S)) := s_in (fun c => ⟨fun q => absurd q (by decide), fun _ => h1 c⟩) (fun c => ⟨fun _ => h0 c, fun q => absurd rfl q⟩)
theorem s_in3 {x1 x2 x3 : Int32} {S : xs_T} {P Q : xs_T → Prop} (h1 : x2.toInt ≤ x1.toInt ∧ x1.toInt ≤ x3.toInt → Q S) (h0 : ¬ (x2.toInt ≤ x1.toInt ∧ x1.toInt ≤ x3.toInt) → P S) : v_X10_in x1 x2 x3 S (fun r S => (¬ r = 0 → Q S) ∧ (r = 0 → P S)) := s_in (fun c => ⟨fun _ => h1 c, fun q => absurd q (by decide)⟩) (fun c => ⟨fun q => absurd rfl q, fun _ => h0 c⟩)
theorem s_within2 {x1 x2 x3 : Int32} {S : xs_T} {P Q : xs_T → Prop} (h1 : x2.toInt ≤ x1.toInt ∧ x1.toInt ≤ x3.toInt → Q S) (h0 : ¬ (x2.toInt ≤ x1.toInt ∧ x1.toInt ≤ x3.toInt) → P S) : v_X9_isWithin x1 x2 x3 S (fun r S => (r = 0 → P S) ∧ (¬ r = 0 → Q S)) := s_in2 h1 h0
theorem s_spin {x1 : Int32} {S : xs_T} {K : Int32 → xs_T → Prop} (h1 : 0 ≤ x1.toInt ∧ x1.toInt ≤ 9 → K 1 S) (h0 : ¬ (0 ≤ x1.toInt ∧ x1.toInt ≤ 9) → K 0 S) : v_X9_isSpindle x1 S K := by
  unfold v_X9_isSpindle
  exact s_within (fun c => ⟨Or.inr rfl, h1 c⟩) (fun c => ⟨Or.inl rfl, h0 c⟩)
theorem s_spin2 {x1 : Int32} {S : xs_T} {P Q : xs_T → Prop} (h1 : 0 ≤ x1.toInt ∧ x1.toInt ≤ 9 → Q S) (h0 : ¬ (0 ≤ x1.toInt ∧ x1.toInt ≤ 9) → P S) : v_X9_isSpindle x1 S (fun r S => (r = 0 → P S) ∧ (¬ r = 0 → Q S)) := s_spin (fun c => ⟨fun q => absurd q (by decide), fun _ => h1 c⟩) (fun c => ⟨fun _ => h0 c, fun q => absurd rfl q⟩)
theorem s_told {x1 x2 x3 x4 : Int32} {S : xs_T} {K : Int32 → xs_T → Prop} (h1 : ordOK x1 x2 x3 x4 → K 1 S) (h0 : ¬ ordOK x1 x2 x3 x4 → K 0 S) : v_X9_isAsTold x1 x2 x3 x4 S K := by
  unfold v_X9_isAsTold
  unfold ordOK at h1 h0
  simp only [← Int32.toInt_inj (x := x1), ti_0, ti_1, ti_2, ti_3, ti_4, ti_5, ti_6, ti_7, ti_8, ti_9, ti_10, ti_11, ti_12, ti_13, ti_14, ti_15, ti_20, ti_60, ti_64, ti_120, ti_300, ti_400, ti_3000, ti_4000, ti_m1]
  refine ⟨fun c => s_spin (fun d => ⟨Or.inr rfl, h1 ?_⟩) (fun d => ⟨Or.inl rfl, h0 ?_⟩), fun c => s_spin2 (fun d => s_spin2 (fun e => h1 ?_) (fun e => h0 ?_)) (fun d => h0 ?_), fun c => s_spin2 (fun d => s_within2 (fun e => h1 ?_) (fun e => h0 ?_)) (fun d => h0 ?_), fun c => s_spin2 (fun d => s_within2 (fun e => h1 ?_) (fun e => h0 ?_)) (fun d => h0 ?_), fun c => s_within2 (fun d => s_within2 (fun e => h1 ?_) (fun e => h0 ?_)) (fun d => h0 ?_), fun c => s_within2 (fun d => s_within2 (fun e => h1 ?_) (fun e => h0 ?_)) (fun d => h0 ?_), fun a0 a1 a2 a3 a4 a5 a6 a7 a8 a9 b0 b1 b2 b3 b4 => h0 ?_⟩
  all_goals first | (simp only [ti_0, ti_1, ti_2, ti_3, ti_4, ti_5, ti_6, ti_7, ti_8, ti_9, ti_10, ti_11, ti_12, ti_13, ti_14, ti_15, ti_20, ti_60, ti_64, ti_120, ti_300, ti_400, ti_3000, ti_4000, ti_m1] at *; done) | (simp only [ti_0, ti_1, ti_2, ti_3, ti_4, ti_5, ti_6, ti_7, ti_8, ti_9, ti_10, ti_11, ti_12, ti_13, ti_14, ti_15, ti_20, ti_60, ti_64, ti_120, ti_300, ti_400, ti_3000, ti_4000, ti_m1] at *; omega) | omega
theorem s_ord155 {x1 x2 t0 : Int32} {S : xs_T} {K : Int32 → xs_T → Prop} (h1 : (0 ≤ x1.toInt ∧ x1.toInt ≤ 12) ∧ (0 ≤ x2.toInt ∧ x2.toInt ≤ 9) ∧ ¬ t0 = 0 → K 1 S) (h0 : ¬ ((0 ≤ x1.toInt ∧ x1.toInt ≤ 12) ∧ (0 ≤ x2.toInt ∧ x2.toInt ≤ 9) ∧ ¬ t0 = 0) → K 0 S) : v_X10_isOrder_155 K x1 x2 t0 S := by
  unfold v_X10_isOrder_155
  refine s_in2 (fun c => s_in2 (fun d => ⟨fun e => h0 ?_, fun e => h1 ⟨c, d, e⟩⟩) (fun d => h0 (fun q => d q.2.1))) (fun c => h0 (fun q => c q.1))
  exact fun q => q.2.2 e
theorem s_ord103 {x1 x2 x3 t0 : Int32} {S : xs_T} {K : Int32 → xs_T → Prop} (h1 : (0 ≤ x1.toInt ∧ x1.toInt ≤ 12) ∧ (0 ≤ x2.toInt ∧ x2.toInt ≤ 9) ∧ (t0 = 0 ∨ (0 ≤ x3.toInt ∧ x3.toInt ≤ 9)) ∧ (¬ t0 = 0 ∨ ((¬ x1.toInt = 5 ∨ (0 ≤ x3.toInt ∧ x3.toInt ≤ 11)) ∧ (¬ x1.toInt = 9 ∨ (0 ≤ x3.toInt ∧ x3.toInt ≤ 5)))) → K 1 S) (h0 : ¬ ((0 ≤ x1.toInt ∧ x1.toInt ≤ 12) ∧ (0 ≤ x2.toInt ∧ x2.toInt ≤ 9) ∧ (t0 = 0 ∨ (0 ≤ x3.toInt ∧ x3.toInt ≤ 9)) ∧ (¬ t0 = 0 ∨ ((¬ x1.toInt = 5 ∨ (0 ≤ x3.toInt ∧ x3.toInt ≤ 11)) ∧ (¬ x1.toInt = 9 ∨ (0 ≤ x3.toInt ∧ x3.toInt ≤ 5))))) → K 0 S) : v_X10_isOrder_103 K x1 x2 x3 t0 S := by
  have e5 : x1 = 5 ↔ x1.toInt = 5 := by rw [← Int32.toInt_inj, ti_5]
  have e9 : x1 = 9 ↔ x1.toInt = 9 := by rw [← Int32.toInt_inj, ti_9]
  have n10 : ¬ (1 : Int32) = 0 := by decide
  unfold v_X10_isOrder_103 v_X10_isOrder_150
  simp only [e5, e9]
  refine ⟨fun c => ⟨fun d => ⟨fun e => s_ord155 (fun f => h1 ?_) (fun f => h0 ?_), fun e => s_in2 (fun g => s_ord155 (fun f => h1 ?_) (fun f => h0 ?_)) (fun g => s_ord155 (fun f => h1 ?_) (fun f => h0 ?_))⟩, fun d => s_in (fun g => s_ord155 (fun f => h1 ?_) (fun f => h0 ?_)) (fun g => s_ord155 (fun f => h1 ?_) (fun f => h0 ?_))⟩, fun c => s_in (fun g => s_ord155 (fun f => h1 ?_) (fun f => h0 ?_)) (fun g => s_ord155 (fun f => h1 ?_) (fun f => h0 ?_))⟩
  all_goals first | (simp only [ti_0, ti_1, ti_2, ti_3, ti_4, ti_5, ti_6, ti_7, ti_8, ti_9, ti_10, ti_11, ti_12, ti_13, ti_14, ti_15, ti_20, ti_60, ti_64, ti_120, ti_300, ti_400, ti_3000, ti_4000, ti_m1, n10, c, not_true_eq_false, not_false_eq_true, and_true, true_and, and_false, false_and, or_true, true_or, or_false, false_or] at *; done) | (simp only [ti_0, ti_1, ti_2, ti_3, ti_4, ti_5, ti_6, ti_7, ti_8, ti_9, ti_10, ti_11, ti_12, ti_13, ti_14, ti_15, ti_20, ti_60, ti_64, ti_120, ti_300, ti_400, ti_3000, ti_4000, ti_m1, n10, c, not_true_eq_false, not_false_eq_true, and_true, true_and, and_false, false_and, or_true, true_or, or_false, false_or] at *; omega) | omega
theorem s_isOrder {x1 x2 x3 x4 : Int32} {S : xs_T} {K : Int32 → xs_T → Prop} (h1 : ordOK x1 x2 x3 x4 → K 1 S) (h0 : ¬ ordOK x1 x2 x3 x4 → K 0 S) : v_X10_isOrder x1 x2 x3 x4 S K := by
  unfold v_X10_isOrder v_X10_isOrder_98
  unfold ordOK at h1 h0
  have n10 : ¬ (1 : Int32) = 0 := by decide
  simp only [← Int32.toInt_inj (x := x1), ti_0, ti_1, ti_2, ti_3, ti_4, ti_5, ti_6, ti_7, ti_8, ti_9, ti_10, ti_11, ti_12, ti_13, ti_14, ti_15, ti_20, ti_60, ti_64, ti_120, ti_300, ti_400, ti_3000, ti_4000, ti_m1]
  refine ⟨fun a => ⟨fun b => ⟨fun c => s_ord103 (fun f => h1 ?_) (fun f => h0 ?_), fun c => ⟨fun c1 => s_ord103 (fun f => h1 ?_) (fun f => h0 ?_), fun c1 => ⟨fun c2 => s_ord103 (fun f => h1 ?_) (fun f => h0 ?_), fun c2 => ⟨fun c3 => s_ord103 (fun f => h1 ?_) (fun f => h0 ?_), fun c3 => ⟨fun c4 => s_ord103 (fun f => h1 ?_) (fun f => h0 ?_), fun c4 => ⟨fun c5 => s_ord103 (fun f => h1 ?_) (fun f => h0 ?_), fun c5 => s_ord103 (fun f => h1 ?_) (fun f => h0 ?_)⟩⟩⟩⟩⟩⟩, fun b => s_in2 (fun c => s_in2 (fun d => h1 ?_) (fun d => h0 ?_)) (fun c => h0 ?_)⟩, fun a => s_in2 (fun c => s_in2 (fun d => h1 ?_) (fun d => h0 ?_)) (fun c => h0 ?_)⟩
  all_goals first | (simp only [ti_0, ti_1, ti_2, ti_3, ti_4, ti_5, ti_6, ti_7, ti_8, ti_9, ti_10, ti_11, ti_12, ti_13, ti_14, ti_15, ti_20, ti_60, ti_64, ti_120, ti_300, ti_400, ti_3000, ti_4000, ti_m1, n10, not_true_eq_false, not_false_eq_true, and_true, true_and, and_false, false_and, or_true, true_or, or_false, false_or] at *; done) | (simp only [ti_0, ti_1, ti_2, ti_3, ti_4, ti_5, ti_6, ti_7, ti_8, ti_9, ti_10, ti_11, ti_12, ti_13, ti_14, ti_15, ti_20, ti_60, ti_64, ti_120, ti_300, ti_400, ti_3000, ti_4000, ti_m1, n10, not_true_eq_false, not_false_eq_true, and_true, true_and, and_false, false_and, or_true, true_or, or_false, false_or] at *; omega) | omega
