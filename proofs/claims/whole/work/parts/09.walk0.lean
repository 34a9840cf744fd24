def v_X8_append (x1 : Int32) (x2 : Int32) (x3 : Int32) (x4 : Int32) (S : xs_T) (K : Int32 → xs_T → Prop) : Prop := ∃ j_1 : Nat, (xF S 34 5) = nI j_1 ∧ j_1 < 60 ∧ ∀ S_4 : xs_T, S_4 = sI S 42 j_1 (x1) → ∃ j_6 : Nat, (xF S 34 5) = nI j_6 ∧ j_6 < 60 ∧ ∀ S_9 : xs_T, S_9 = sI S_4 43 j_6 (x2) → ∃ j_11 : Nat, (xF S 34 5) = nI j_11 ∧ j_11 < 60 ∧ ∀ S_14 : xs_T, S_14 = sI S_9 44 j_11 (x3) → ∃ j_16 : Nat, (xF S 34 5) = nI j_16 ∧ j_16 < 60 ∧ ∀ S_19 : xs_T, S_19 = sI S_14 45 j_16 (x4) → ∀ S_21 : xs_T, S_21 = sF S_19 34 5 (((xF S_19 34 5) + 1)) → K ((xF S 34 5)) S_21
set_option maxHeartbeats 4000000 in
set_option maxRecDepth 100000 in
theorem c_X8_append (l : Launch) (Z : xz_T) (et : Nat → Nat) (S : xs_T) (x1 : Int32) (x2 : Int32) (x3 : Int32) (x4 : Int32) (K : Int32 → xs_T → Prop) (h : v_X8_append x1 x2 x3 x4 S K) : Met l yX8_append (wq yX8_append cX8_append 6 (some .int)) { frames := 0, cells := 0, slots := 0, locals := 0 } (xPc Z et S [.ref (et (34)), .int (x1), .int (x2), .int (x3), .int (x4)]) (xQi Z et S.2.2.2.2 K) 0 0 (fun q => Z.2.2.1 ≤ q) := by
  refine Met.ofW (cc := cX8_append) (maxL := 6) (ret := (some .int)) (by decide +kernel) rfl ?_
  intro p e s m args below meth c s₁ B hml hv0
  obtain ⟨rfl, hk, hw⟩ := hv0
  have X : CallFix p m c cX8_append 6 s _ (wq yX8_append cX8_append 6 (some .int)) RX8 := ⟨B.exec, B.bytes, hml, findClass_of_methodNamed B.named, atoms_spec (ws := (wq yX8_append cX8_append 6 (some .int))) B.pre⟩
  have hr := B.returns
  have hlocks := B.notSynchronized
  have hl : xl Z [] := fun _ h => by cases h
  have hNN : S.2.2.2.2 = S.2.2.2.2 := rfl
  have hv := lv_entry [.ref (et (34)), .int (x1), .int (x2), .int (x3), .int (x4)] (n := 6) (Nat.le_of_ble_eq_true rfl)
  rw [lg_entry_eq]
  generalize (lg_sl [.ref (et (34)), .int (x1), .int (x2), .int (x3), .int (x4)] ++ List.replicate (6 - (lg_sl [.ref (et (34)), .int (x1), .int (x2), .int (x3), .int (x4)]).length) Slot.unset).toArray = ls at hv ⊢
  replace hv : lv_has ls 6 [(0, .ref (et (34))), (1, .int (x1)), (2, .int (x2)), (3, .int (x3)), (4, .int (x4))] := hv
  unfold v_X8_append at h
  refine lv_aload_n X.1 X.2.1 dX8_append_0 rfl (lv_at hv 0 rfl) ?_
  refine xw_get X hk hw (i := 34) 5 xe_34 rfl tlX8 (by decide) rfl tw_127 dX8_append_1 ?_
  refine lv_istore (lv' := [(5, .int ((xF S 34 5))), (0, .ref (et (34))), (1, .int (x1)), (2, .int (x2)), (3, .int (x3)), (4, .int (x4))]) X.1 X.2.1 dX8_append_4 hv (by decide) rfl (fun ls hv => ?_)
  refine lv_aload_n X.1 X.2.1 dX8_append_6 rfl (lv_at hv 1 rfl) ?_
  refine xw_get X hk hw (i := 34) 0 xe_34 rfl tlX8 (by decide) rfl tw_118 dX8_append_7 ?_
  refine lv_iload X.1 X.2.1 dX8_append_10 (lv_at hv 0 rfl) ?_
  refine lv_iload_n X.1 X.2.1 dX8_append_12 rfl (lv_at hv 2 rfl) ?_
  obtain ⟨j_1, e_2, b_3, h⟩ := h
  refine xw_ist X hk hw hl xe_42 rfl e_2 b_3 (by decide) dX8_append_13 (fun H locs hw hl => ?_)
  obtain ⟨S_4, e_5⟩ : ∃ T : xs_T, T = sI S 42 j_1 (x1) := ⟨_, rfl⟩
  rw [← e_5] at hw
  replace h := h S_4 e_5
  have hN : S_4.2.2.2.2 = S.2.2.2.2 := by rw [e_5]; rfl
  replace hNN := hN.trans hNN
  refine lv_aload_n X.1 X.2.1 dX8_append_14 rfl (lv_at hv 1 rfl) ?_
  refine xw_get X hk hw (i := 34) 1 xe_34 rfl tlX8 (by decide) rfl tw_120 dX8_append_15 ?_
  refine lv_iload X.1 X.2.1 dX8_append_18 (lv_at hv 0 rfl) ?_
  refine lv_iload_n X.1 X.2.1 dX8_append_20 rfl (lv_at hv 3 rfl) ?_
  obtain ⟨j_6, e_7, b_8, h⟩ := h
  refine xw_ist X hk hw hl xe_43 rfl e_7 b_8 (by decide) dX8_append_21 (fun H locs hw hl => ?_)
  obtain ⟨S_9, e_10⟩ : ∃ T : xs_T, T = sI S_4 43 j_6 (x2) := ⟨_, rfl⟩
  rw [← e_10] at hw
  replace h := h S_9 e_10
  have hN : S_9.2.2.2.2 = S_4.2.2.2.2 := by rw [e_10]; rfl
  replace hNN := hN.trans hNN
  refine lv_aload_n X.1 X.2.1 dX8_append_22 rfl (lv_at hv 1 rfl) ?_
  refine xw_get X hk hw (i := 34) 2 xe_34 rfl tlX8 (by decide) rfl tw_122 dX8_append_23 ?_
  refine lv_iload X.1 X.2.1 dX8_append_26 (lv_at hv 0 rfl) ?_
  refine lv_iload_n X.1 X.2.1 dX8_append_28 rfl (lv_at hv 4 rfl) ?_
  obtain ⟨j_11, e_12, b_13, h⟩ := h
  refine xw_ist X hk hw hl xe_44 rfl e_12 b_13 (by decide) dX8_append_29 (fun H locs hw hl => ?_)
  obtain ⟨S_14, e_15⟩ : ∃ T : xs_T, T = sI S_9 44 j_11 (x3) := ⟨_, rfl⟩
  rw [← e_15] at hw
  replace h := h S_14 e_15
  have hN : S_14.2.2.2.2 = S_9.2.2.2.2 := by rw [e_15]; rfl
  replace hNN := hN.trans hNN
  refine lv_aload_n X.1 X.2.1 dX8_append_30 rfl (lv_at hv 1 rfl) ?_
  refine xw_get X hk hw (i := 34) 3 xe_34 rfl tlX8 (by decide) rfl tw_124 dX8_append_31 ?_
  refine lv_iload X.1 X.2.1 dX8_append_34 (lv_at hv 0 rfl) ?_
  refine lv_iload X.1 X.2.1 dX8_append_36 (lv_at hv 5 rfl) ?_
  obtain ⟨j_16, e_17, b_18, h⟩ := h
  refine xw_ist X hk hw hl xe_45 rfl e_17 b_18 (by decide) dX8_append_38 (fun H locs hw hl => ?_)
  obtain ⟨S_19, e_20⟩ : ∃ T : xs_T, T = sI S_14 45 j_16 (x4) := ⟨_, rfl⟩
  rw [← e_20] at hw
  replace h := h S_19 e_20
  have hN : S_19.2.2.2.2 = S_14.2.2.2.2 := by rw [e_20]; rfl
  replace hNN := hN.trans hNN
  refine lv_aload_n X.1 X.2.1 dX8_append_39 rfl (lv_at hv 1 rfl) ?_
  refine lv_dup X.1 X.2.1 dX8_append_40 rfl ?_
  refine xw_get X hk hw (i := 34) 5 xe_34 rfl tlX8 (by decide) rfl tw_127 dX8_append_41 ?_
  refine lv_iconst (v := 1) X.1 X.2.1 dX8_append_44 (by decide) ?_
  refine lv_iadd X.1 X.2.1 dX8_append_45 ?_
  refine xw_put X hk hw hl (i := 34) 5 xe_34 rfl rfl tlX8 tyX8 tyX8_ok nmX8 (by decide) tw_127 rfl rfl (Nat.le_of_ble_eq_true rfl) dX8_append_46 (fun H locs hw hl => ?_)
  obtain ⟨S_21, e_22⟩ : ∃ T : xs_T, T = sF S_19 34 5 (((xF S_19 34 5) + 1)) := ⟨_, rfl⟩
  rw [← e_22] at hw
  replace h := h S_21 e_22
  have hN : S_21.2.2.2.2 = S_19.2.2.2.2 := by rw [e_22]; rfl
  replace hNN := hN.trans hNN
  refine lv_iload X.1 X.2.1 dX8_append_49 (lv_at hv 0 rfl) ?_
  exact xt_i X hr hlocks hNN hw hl h dX8_append_51
def v_X9_isWithin (x1 : Int32) (x2 : Int32) (x3 : Int32) (S : xs_T) (K : Int32 → xs_T → Prop) : Prop := ((x1 < x2 → K (0) S) ∧ (¬ x1 < x2 → ((x3 < x1 → K (0) S) ∧ (¬ x3 < x1 → K (1) S))))
set_option maxHeartbeats 4000000 in
set_option maxRecDepth 100000 in
theorem c_X9_isWithin (l : Launch) (Z : xz_T) (et : Nat → Nat) (S : xs_T) (x1 : Int32) (x2 : Int32) (x3 : Int32) (K : Int32 → xs_T → Prop) (h : v_X9_isWithin x1 x2 x3 S K) : Met l yX9_isWithin (wq yX9_isWithin cX9_isWithin 3 (some .boolean)) { frames := 0, cells := 0, slots := 0, locals := 0 } (xPc Z et S [.int (x1), .int (x2), .int (x3)]) (xQi Z et S.2.2.2.2 K) 0 0 (fun q => Z.2.2.1 ≤ q) := by
  refine Met.ofW (cc := cX9_isWithin) (maxL := 3) (ret := (some .boolean)) (by decide +kernel) rfl ?_
  intro p e s m args below meth c s₁ B hml hv0
  obtain ⟨rfl, hk, hw⟩ := hv0
  have X : CallFix p m c cX9_isWithin 3 s _ (wq yX9_isWithin cX9_isWithin 3 (some .boolean)) RX9 := ⟨B.exec, B.bytes, hml, findClass_of_methodNamed B.named, atoms_spec (ws := (wq yX9_isWithin cX9_isWithin 3 (some .boolean))) B.pre⟩
  have hr := B.returns
  have hlocks := B.notSynchronized
  have hl : xl Z [] := fun _ h => by cases h
  have hNN : S.2.2.2.2 = S.2.2.2.2 := rfl
  have hv := lv_entry [.int (x1), .int (x2), .int (x3)] (n := 3) (Nat.le_of_ble_eq_true rfl)
  rw [lg_entry_eq]
  generalize (lg_sl [.int (x1), .int (x2), .int (x3)] ++ List.replicate (3 - (lg_sl [.int (x1), .int (x2), .int (x3)]).length) Slot.unset).toArray = ls at hv ⊢
  replace hv : lv_has ls 3 [(0, .int (x1)), (1, .int (x2)), (2, .int (x3))] := hv
  unfold v_X9_isWithin at h
  refine lv_iload_n X.1 X.2.1 dX9_isWithin_0 rfl (lv_at hv 0 rfl) ?_
  refine lv_iload_n X.1 X.2.1 dX9_isWithin_1 rfl (lv_at hv 1 rfl) ?_
  refine lv_icmp_lt (tgt := 14) X.1 X.2.1 dX9_isWithin_2 (by decide) (fun c_1 => ?_) (fun c_1 => ?_)
  · skip
    replace h := h.1 c_1
    refine lv_iconst (v := 0) X.1 X.2.1 dX9_isWithin_14 (by decide) ?_
    exact xt_z X hr hlocks hNN hw hl (by decide) h dX9_isWithin_15
  · skip
    replace h := h.2 c_1
    refine lv_iload_n X.1 X.2.1 dX9_isWithin_5 rfl (lv_at hv 0 rfl) ?_
    refine lv_iload_n X.1 X.2.1 dX9_isWithin_6 rfl (lv_at hv 2 rfl) ?_
    refine lv_icmp_gt (tgt := 14) X.1 X.2.1 dX9_isWithin_7 (by decide) (fun c_2 => ?_) (fun c_2 => ?_)
    · skip
      replace h := h.1 c_2
      refine lv_iconst (v := 0) X.1 X.2.1 dX9_isWithin_14 (by decide) ?_
      exact xt_z X hr hlocks hNN hw hl (by decide) h dX9_isWithin_15
    · skip
      replace h := h.2 c_2
      refine lv_iconst (v := 1) X.1 X.2.1 dX9_isWithin_10 (by decide) ?_
      refine lv_goto (tgt := 15) X.1 X.2.1 dX9_isWithin_11 (by decide) ?_
      exact xt_z X hr hlocks hNN hw hl (by decide) h dX9_isWithin_15
def v_X9_isSpindle (x1 : Int32) (S : xs_T) (K : Int32 → xs_T → Prop) : Prop := v_X9_isWithin (x1) (0) (9) S (fun (r_2 : Int32) (S_1 : xs_T) => (r_2 = 0 ∨ r_2 = 1) ∧ K (r_2) S_1)
set_option maxHeartbeats 4000000 in
set_option maxRecDepth 100000 in
theorem c_X9_isSpindle (l : Launch) (Z : xz_T) (et : Nat → Nat) (S : xs_T) (x1 : Int32) (K : Int32 → xs_T → Prop) (h : v_X9_isSpindle x1 S K) : Met l yX9_isSpindle (wq yX9_isSpindle cX9_isSpindle 1 (some .boolean)) { frames := 1, cells := 0, slots := 0, locals := 22 } (xPc Z et S [.int (x1)]) (xQi Z et S.2.2.2.2 K) 0 0 (fun q => Z.2.2.1 ≤ q) := by
  refine Met.ofW (cc := cX9_isSpindle) (maxL := 1) (ret := (some .boolean)) (by decide +kernel) rfl ?_
  intro p e s m args below meth c s₁ B hml hv0
  obtain ⟨rfl, hk, hw⟩ := hv0
  have X : CallFix p m c cX9_isSpindle 1 s _ (wq yX9_isSpindle cX9_isSpindle 1 (some .boolean)) RX9 := ⟨B.exec, B.bytes, hml, findClass_of_methodNamed B.named, atoms_spec (ws := (wq yX9_isSpindle cX9_isSpindle 1 (some .boolean))) B.pre⟩
  have hr := B.returns
  have hlocks := B.notSynchronized
  have hl : xl Z [] := fun _ h => by cases h
  have hNN : S.2.2.2.2 = S.2.2.2.2 := rfl
  have hv := lv_entry [.int (x1)] (n := 1) (Nat.le_of_ble_eq_true rfl)
  rw [lg_entry_eq]
  generalize (lg_sl [.int (x1)] ++ List.replicate (1 - (lg_sl [.int (x1)]).length) Slot.unset).toArray = ls at hv ⊢
  replace hv : lv_has ls 1 [(0, .int (x1))] := hv
  unfold v_X9_isSpindle at h
  refine lv_iload_n X.1 X.2.1 dX9_isSpindle_0 rfl (lv_at hv 0 rfl) ?_
  refine lv_iconst (v := 0) X.1 X.2.1 dX9_isSpindle_1 (by decide) ?_
  refine lv_bipush (v := 9) X.1 X.2.1 dX9_isSpindle_2 (by decide) ?_
  refine xc_i (xr_S (n := 3) X hk hw hv.1 (c_X9_isWithin l Z et S (x1) (0) (9) _ h) (tb_S tw_204 tw_202 tw_203 tw_39) rfl rfl (by decide +kernel) ⟨Nat.le_of_ble_eq_true rfl, Nat.le_of_ble_eq_true rfl⟩ rfl (Nat.le_of_ble_eq_true rfl) dX9_isSpindle_4 ⟨Nat.le_of_ble_eq_true rfl, Nat.le_of_ble_eq_true rfl⟩) hl (fun r_2 S_1 H locs h hN hw hl => ?_)
  replace hNN := hN.trans hNN
  obtain ⟨c_3, h⟩ := h
  exact xt_z X hr hlocks hNN hw hl c_3 h dX9_isSpindle_7
def v_X9_isAsTold (x1 : Int32) (x2 : Int32) (x3 : Int32) (x4 : Int32) (S : xs_T) (K : Int32 → xs_T → Prop) : Prop := (((x1 = 0 ∨ x1 = 2 ∨ x1 = 3 ∨ x1 = 4 ∨ x1 = 10) → v_X9_isSpindle (x2) S (fun (r_2 : Int32) (S_1 : xs_T) => (r_2 = 0 ∨ r_2 = 1) ∧ K (r_2) S_1)) ∧ ((x1 = 1 ∨ x1 = 6 ∨ x1 = 7 ∨ x1 = 8 ∨ x1 = 11 ∨ x1 = 12) → v_X9_isSpindle (x2) S (fun (r_5 : Int32) (S_4 : xs_T) => ((r_5 = 0 → K (0) S_4) ∧ (¬ r_5 = 0 → v_X9_isSpindle (x3) S_4 (fun (r_8 : Int32) (S_7 : xs_T) => ((r_8 = 0 → K (0) S_7) ∧ (¬ r_8 = 0 → K (1) S_7))))))) ∧ ((x1 = 5) → v_X9_isSpindle (x2) S (fun (r_11 : Int32) (S_10 : xs_T) => ((r_11 = 0 → K (0) S_10) ∧ (¬ r_11 = 0 → v_X9_isWithin (x3) (0) (11) S_10 (fun (r_14 : Int32) (S_13 : xs_T) => ((r_14 = 0 → K (0) S_13) ∧ (¬ r_14 = 0 → K (1) S_13))))))) ∧ ((x1 = 9) → v_X9_isSpindle (x2) S (fun (r_17 : Int32) (S_16 : xs_T) => ((r_17 = 0 → K (0) S_16) ∧ (¬ r_17 = 0 → v_X9_isWithin (x3) (0) (5) S_16 (fun (r_20 : Int32) (S_19 : xs_T) => ((r_20 = 0 → K (0) S_19) ∧ (¬ r_20 = 0 → K (1) S_19))))))) ∧ ((x1 = 13) → v_X9_isWithin (x2) (0) (5) S (fun (r_23 : Int32) (S_22 : xs_T) => ((r_23 = 0 → K (0) S_22) ∧ (¬ r_23 = 0 → v_X9_isWithin (x4) (0) (60) S_22 (fun (r_26 : Int32) (S_25 : xs_T) => ((r_26 = 0 → K (0) S_25) ∧ (¬ r_26 = 0 → K (1) S_25))))))) ∧ ((x1 = 14) → v_X9_isWithin (x3) (1) (60) S (fun (r_29 : Int32) (S_28 : xs_T) => ((r_29 = 0 → K (0) S_28) ∧ (¬ r_29 = 0 → v_X9_isWithin (x4) (0) (20) S_28 (fun (r_32 : Int32) (S_31 : xs_T) => ((r_32 = 0 → K (0) S_31) ∧ (¬ r_32 = 0 → K (1) S_31))))))) ∧ (¬ x1 = 0 → ¬ x1 = 2 → ¬ x1 = 3 → ¬ x1 = 4 → ¬ x1 = 10 → ¬ x1 = 1 → ¬ x1 = 6 → ¬ x1 = 7 → ¬ x1 = 8 → ¬ x1 = 11 → ¬ x1 = 12 → ¬ x1 = 5 → ¬ x1 = 9 → ¬ x1 = 13 → ¬ x1 = 14 → K (0) S))
set_option maxHeartbeats 4000000 in
set_option maxRecDepth 100000 in
theorem c_X9_isAsTold (l : Launch) (Z : xz_T) (et : Nat → Nat) (S : xs_T) (x1 : Int32) (x2 : Int32) (x3 : Int32) (x4 : Int32) (K : Int32 → xs_T → Prop) (h : v_X9_isAsTold x1 x2 x3 x4 S K) : Met l yX9_isAsTold (wq yX9_isAsTold cX9_isAsTold 4 (some .boolean)) { frames := 2, cells := 0, slots := 0, locals := 42 } (xPc Z et S [.int (x1), .int (x2), .int (x3), .int (x4)]) (xQi Z et S.2.2.2.2 K) 0 0 (fun q => Z.2.2.1 ≤ q) := by
  refine Met.ofW (cc := cX9_isAsTold) (maxL := 4) (ret := (some .boolean)) (by decide +kernel) rfl ?_
  intro p e s m args below meth c s₁ B hml hv0
  obtain ⟨rfl, hk, hw⟩ := hv0
  have X : CallFix p m c cX9_isAsTold 4 s _ (wq yX9_isAsTold cX9_isAsTold 4 (some .boolean)) RX9 := ⟨B.exec, B.bytes, hml, findClass_of_methodNamed B.named, atoms_spec (ws := (wq yX9_isAsTold cX9_isAsTold 4 (some .boolean))) B.pre⟩
  have hr := B.returns
  have hlocks := B.notSynchronized
  have hl : xl Z [] := fun _ h => by cases h
  have hNN : S.2.2.2.2 = S.2.2.2.2 := rfl
  have hv := lv_entry [.int (x1), .int (x2), .int (x3), .int (x4)] (n := 4) (Nat.le_of_ble_eq_true rfl)
  rw [lg_entry_eq]
  generalize (lg_sl [.int (x1), .int (x2), .int (x3), .int (x4)] ++ List.replicate (4 - (lg_sl [.int (x1), .int (x2), .int (x3), .int (x4)]).length) Slot.unset).toArray = ls at hv ⊢
  replace hv : lv_has ls 4 [(0, .int (x1)), (1, .int (x2)), (2, .int (x3)), (3, .int (x4))] := hv
  unfold v_X9_isAsTold at h
  refine lv_iload_n X.1 X.2.1 dX9_isAsTold_0 rfl (lv_at hv 0 rfl) ?_
  have hsw := h
  by_cases k_0 : x1 = 0
  · have h := hsw.1 ((Or.inl k_0))
    refine lv_tableIn (off := 75) (tgt := 76) X.1 X.2.1 dX9_isAsTold_1 (by rw [k_0]; decide) (by rw [k_0]; decide) (by rw [k_0]; rfl) (by decide) ?_
    refine lv_iload_n X.1 X.2.1 dX9_isAsTold_76 rfl (lv_at hv 1 rfl) ?_
    refine xc_i (xr_S (n := 1) X hk hw hv.1 (c_X9_isSpindle l Z et S (x2) _ h) (tb_S tw_201 tw_199 tw_200 tw_39) rfl rfl (by decide +kernel) ⟨Nat.le_of_ble_eq_true rfl, Nat.le_of_ble_eq_true rfl⟩ rfl (Nat.le_of_ble_eq_true rfl) dX9_isAsTold_77 ⟨Nat.le_of_ble_eq_true rfl, Nat.le_of_ble_eq_true rfl⟩) hl (fun r_2 S_1 H locs h hN hw hl => ?_)
    replace hNN := hN.trans hNN
    obtain ⟨c_3, h⟩ := h
    exact xt_z X hr hlocks hNN hw hl c_3 h dX9_isAsTold_80
  by_cases k_2 : x1 = 2
  · have h := hsw.1 (Or.inr ((Or.inl k_2)))
    refine lv_tableIn (off := 75) (tgt := 76) X.1 X.2.1 dX9_isAsTold_1 (by rw [k_2]; decide) (by rw [k_2]; decide) (by rw [k_2]; rfl) (by decide) ?_
    refine lv_iload_n X.1 X.2.1 dX9_isAsTold_76 rfl (lv_at hv 1 rfl) ?_
    refine xc_i (xr_S (n := 1) X hk hw hv.1 (c_X9_isSpindle l Z et S (x2) _ h) (tb_S tw_201 tw_199 tw_200 tw_39) rfl rfl (by decide +kernel) ⟨Nat.le_of_ble_eq_true rfl, Nat.le_of_ble_eq_true rfl⟩ rfl (Nat.le_of_ble_eq_true rfl) dX9_isAsTold_77 ⟨Nat.le_of_ble_eq_true rfl, Nat.le_of_ble_eq_true rfl⟩) hl (fun r_2 S_1 H locs h hN hw hl => ?_)
    replace hNN := hN.trans hNN
    obtain ⟨c_3, h⟩ := h
    exact xt_z X hr hlocks hNN hw hl c_3 h dX9_isAsTold_80
  by_cases k_3 : x1 = 3
  · have h := hsw.1 (Or.inr (Or.inr ((Or.inl k_3))))
    refine lv_tableIn (off := 75) (tgt := 76) X.1 X.2.1 dX9_isAsTold_1 (by rw [k_3]; decide) (by rw [k_3]; decide) (by rw [k_3]; rfl) (by decide) ?_
    refine lv_iload_n X.1 X.2.1 dX9_isAsTold_76 rfl (lv_at hv 1 rfl) ?_
    refine xc_i (xr_S (n := 1) X hk hw hv.1 (c_X9_isSpindle l Z et S (x2) _ h) (tb_S tw_201 tw_199 tw_200 tw_39) rfl rfl (by decide +kernel) ⟨Nat.le_of_ble_eq_true rfl, Nat.le_of_ble_eq_true rfl⟩ rfl (Nat.le_of_ble_eq_true rfl) dX9_isAsTold_77 ⟨Nat.le_of_ble_eq_true rfl, Nat.le_of_ble_eq_true rfl⟩) hl (fun r_2 S_1 H locs h hN hw hl => ?_)
    replace hNN := hN.trans hNN
    obtain ⟨c_3, h⟩ := h
    exact xt_z X hr hlocks hNN hw hl c_3 h dX9_isAsTold_80
  by_cases k_4 : x1 = 4
  · have h := hsw.1 (Or.inr (Or.inr (Or.inr ((Or.inl k_4)))))
    refine lv_tableIn (off := 75) (tgt := 76) X.1 X.2.1 dX9_isAsTold_1 (by rw [k_4]; decide) (by rw [k_4]; decide) (by rw [k_4]; rfl) (by decide) ?_
    refine lv_iload_n X.1 X.2.1 dX9_isAsTold_76 rfl (lv_at hv 1 rfl) ?_
    refine xc_i (xr_S (n := 1) X hk hw hv.1 (c_X9_isSpindle l Z et S (x2) _ h) (tb_S tw_201 tw_199 tw_200 tw_39) rfl rfl (by decide +kernel) ⟨Nat.le_of_ble_eq_true rfl, Nat.le_of_ble_eq_true rfl⟩ rfl (Nat.le_of_ble_eq_true rfl) dX9_isAsTold_77 ⟨Nat.le_of_ble_eq_true rfl, Nat.le_of_ble_eq_true rfl⟩) hl (fun r_2 S_1 H locs h hN hw hl => ?_)
    replace hNN := hN.trans hNN
    obtain ⟨c_3, h⟩ := h
    exact xt_z X hr hlocks hNN hw hl c_3 h dX9_isAsTold_80
  by_cases k_10 : x1 = 10
  · have h := hsw.1 (Or.inr (Or.inr (Or.inr (Or.inr (k_10)))))
    refine lv_tableIn (off := 75) (tgt := 76) X.1 X.2.1 dX9_isAsTold_1 (by rw [k_10]; decide) (by rw [k_10]; decide) (by rw [k_10]; rfl) (by decide) ?_
    refine lv_iload_n X.1 X.2.1 dX9_isAsTold_76 rfl (lv_at hv 1 rfl) ?_
    refine xc_i (xr_S (n := 1) X hk hw hv.1 (c_X9_isSpindle l Z et S (x2) _ h) (tb_S tw_201 tw_199 tw_200 tw_39) rfl rfl (by decide +kernel) ⟨Nat.le_of_ble_eq_true rfl, Nat.le_of_ble_eq_true rfl⟩ rfl (Nat.le_of_ble_eq_true rfl) dX9_isAsTold_77 ⟨Nat.le_of_ble_eq_true rfl, Nat.le_of_ble_eq_true rfl⟩) hl (fun r_2 S_1 H locs h hN hw hl => ?_)
    replace hNN := hN.trans hNN
    obtain ⟨c_3, h⟩ := h
    exact xt_z X hr hlocks hNN hw hl c_3 h dX9_isAsTold_80
  by_cases k_1 : x1 = 1
  · have h := hsw.2.1 ((Or.inl k_1))
    refine lv_tableIn (off := 80) (tgt := 81) X.1 X.2.1 dX9_isAsTold_1 (by rw [k_1]; decide) (by rw [k_1]; decide) (by rw [k_1]; rfl) (by decide) ?_
    refine lv_iload_n X.1 X.2.1 dX9_isAsTold_81 rfl (lv_at hv 1 rfl) ?_
    refine xc_i (xr_S (n := 1) X hk hw hv.1 (c_X9_isSpindle l Z et S (x2) _ h) (tb_S tw_201 tw_199 tw_200 tw_39) rfl rfl (by decide +kernel) ⟨Nat.le_of_ble_eq_true rfl, Nat.le_of_ble_eq_true rfl⟩ rfl (Nat.le_of_ble_eq_true rfl) dX9_isAsTold_82 ⟨Nat.le_of_ble_eq_true rfl, Nat.le_of_ble_eq_true rfl⟩) hl (fun r_5 S_4 H locs h hN hw hl => ?_)
    replace hNN := hN.trans hNN
    refine lv_if_eq (tgt := 99) X.1 X.2.1 dX9_isAsTold_85 (by decide) (fun c_6 => ?_) (fun c_6 => ?_)
    · skip
      replace h := h.1 c_6
      refine lv_iconst (v := 0) X.1 X.2.1 dX9_isAsTold_99 (by decide) ?_
      exact xt_z X hr hlocks hNN hw hl (by decide) h dX9_isAsTold_100
    · skip
      replace h := h.2 c_6
      refine lv_iload_n X.1 X.2.1 dX9_isAsTold_88 rfl (lv_at hv 2 rfl) ?_
      refine xc_i (xr_S (n := 1) X hk hw hv.1 (c_X9_isSpindle l Z et S_4 (x3) _ h) (tb_S tw_201 tw_199 tw_200 tw_39) rfl rfl (by decide +kernel) ⟨Nat.le_of_ble_eq_true rfl, Nat.le_of_ble_eq_true rfl⟩ rfl (Nat.le_of_ble_eq_true rfl) dX9_isAsTold_89 ⟨Nat.le_of_ble_eq_true rfl, Nat.le_of_ble_eq_true rfl⟩) hl (fun r_8 S_7 H locs h hN hw hl => ?_)
      replace hNN := hN.trans hNN
      refine lv_if_eq (tgt := 99) X.1 X.2.1 dX9_isAsTold_92 (by decide) (fun c_9 => ?_) (fun c_9 => ?_)
      · skip
        replace h := h.1 c_9
        refine lv_iconst (v := 0) X.1 X.2.1 dX9_isAsTold_99 (by decide) ?_
        exact xt_z X hr hlocks hNN hw hl (by decide) h dX9_isAsTold_100
      · skip
        replace h := h.2 c_9
        refine lv_iconst (v := 1) X.1 X.2.1 dX9_isAsTold_95 (by decide) ?_
        refine lv_goto (tgt := 100) X.1 X.2.1 dX9_isAsTold_96 (by decide) ?_
        exact xt_z X hr hlocks hNN hw hl (by decide) h dX9_isAsTold_100
  by_cases k_6 : x1 = 6
  · have h := hsw.2.1 (Or.inr ((Or.inl k_6)))
    refine lv_tableIn (off := 80) (tgt := 81) X.1 X.2.1 dX9_isAsTold_1 (by rw [k_6]; decide) (by rw [k_6]; decide) (by rw [k_6]; rfl) (by decide) ?_
    refine lv_iload_n X.1 X.2.1 dX9_isAsTold_81 rfl (lv_at hv 1 rfl) ?_
    refine xc_i (xr_S (n := 1) X hk hw hv.1 (c_X9_isSpindle l Z et S (x2) _ h) (tb_S tw_201 tw_199 tw_200 tw_39) rfl rfl (by decide +kernel) ⟨Nat.le_of_ble_eq_true rfl, Nat.le_of_ble_eq_true rfl⟩ rfl (Nat.le_of_ble_eq_true rfl) dX9_isAsTold_82 ⟨Nat.le_of_ble_eq_true rfl, Nat.le_of_ble_eq_true rfl⟩) hl (fun r_5 S_4 H locs h hN hw hl => ?_)
    replace hNN := hN.trans hNN
    refine lv_if_eq (tgt := 99) X.1 X.2.1 dX9_isAsTold_85 (by decide) (fun c_6 => ?_) (fun c_6 => ?_)
    · skip
      replace h := h.1 c_6
      refine lv_iconst (v := 0) X.1 X.2.1 dX9_isAsTold_99 (by decide) ?_
      exact xt_z X hr hlocks hNN hw hl (by decide) h dX9_isAsTold_100
    · skip
      replace h := h.2 c_6
      refine lv_iload_n X.1 X.2.1 dX9_isAsTold_88 rfl (lv_at hv 2 rfl) ?_
      refine xc_i (xr_S (n := 1) X hk hw hv.1 (c_X9_isSpindle l Z et S_4 (x3) _ h) (tb_S tw_201 tw_199 tw_200 tw_39) rfl rfl (by decide +kernel) ⟨Nat.le_of_ble_eq_true rfl, Nat.le_of_ble_eq_true rfl⟩ rfl (Nat.le_of_ble_eq_true rfl) dX9_isAsTold_89 ⟨Nat.le_of_ble_eq_true rfl, Nat.le_of_ble_eq_true rfl⟩) hl (fun r_8 S_7 H locs h hN hw hl => ?_)
      replace hNN := hN.trans hNN
      refine lv_if_eq (tgt := 99) X.1 X.2.1 dX9_isAsTold_92 (by decide) (fun c_9 => ?_) (fun c_9 => ?_)
      · skip
        replace h := h.1 c_9
        refine lv_iconst (v := 0) X.1 X.2.1 dX9_isAsTold_99 (by decide) ?_
        exact xt_z X hr hlocks hNN hw hl (by decide) h dX9_isAsTold_100
      · skip
        replace h := h.2 c_9
        refine lv_iconst (v := 1) X.1 X.2.1 dX9_isAsTold_95 (by decide) ?_
        refine lv_goto (tgt := 100) X.1 X.2.1 dX9_isAsTold_96 (by decide) ?_
        exact xt_z X hr hlocks hNN hw hl (by decide) h dX9_isAsTold_100
  by_cases k_7 : x1 = 7
  · have h := hsw.2.1 (Or.inr (Or.inr ((Or.inl k_7))))
    refine lv_tableIn (off := 80) (tgt := 81) X.1 X.2.1 dX9_isAsTold_1 (by rw [k_7]; decide) (by rw [k_7]; decide) (by rw [k_7]; rfl) (by decide) ?_
    refine lv_iload_n X.1 X.2.1 dX9_isAsTold_81 rfl (lv_at hv 1 rfl) ?_
    refine xc_i (xr_S (n := 1) X hk hw hv.1 (c_X9_isSpindle l Z et S (x2) _ h) (tb_S tw_201 tw_199 tw_200 tw_39) rfl rfl (by decide +kernel) ⟨Nat.le_of_ble_eq_true rfl, Nat.le_of_ble_eq_true rfl⟩ rfl (Nat.le_of_ble_eq_true rfl) dX9_isAsTold_82 ⟨Nat.le_of_ble_eq_true rfl, Nat.le_of_ble_eq_true rfl⟩) hl (fun r_5 S_4 H locs h hN hw hl => ?_)
    replace hNN := hN.trans hNN
    refine lv_if_eq (tgt := 99) X.1 X.2.1 dX9_isAsTold_85 (by decide) (fun c_6 => ?_) (fun c_6 => ?_)
    · skip
      replace h := h.1 c_6
      refine lv_iconst (v := 0) X.1 X.2.1 dX9_isAsTold_99 (by decide) ?_
      exact xt_z X hr hlocks hNN hw hl (by decide) h dX9_isAsTold_100
    · skip
      replace h := h.2 c_6
      refine lv_iload_n X.1 X.2.1 dX9_isAsTold_88 rfl (lv_at hv 2 rfl) ?_
      refine xc_i (xr_S (n := 1) X hk hw hv.1 (c_X9_isSpindle l Z et S_4 (x3) _ h) (tb_S tw_201 tw_199 tw_200 tw_39) rfl rfl (by decide +kernel) ⟨Nat.le_of_ble_eq_true rfl, Nat.le_of_ble_eq_true rfl⟩ rfl (Nat.le_of_ble_eq_true rfl) dX9_isAsTold_89 ⟨Nat.le_of_ble_eq_true rfl, Nat.le_of_ble_eq_true rfl⟩) hl (fun r_8 S_7 H locs h hN hw hl => ?_)
      replace hNN := hN.trans hNN
      refine lv_if_eq (tgt := 99) X.1 X.2.1 dX9_isAsTold_92 (by decide) (fun c_9 => ?_) (fun c_9 => ?_)
      · skip
        replace h := h.1 c_9
        refine lv_iconst (v := 0) X.1 X.2.1 dX9_isAsTold_99 (by decide) ?_
        exact xt_z X hr hlocks hNN hw hl (by decide) h dX9_isAsTold_100
      · skip
        replace h := h.2 c_9
        refine lv_iconst (v := 1) X.1 X.2.1 dX9_isAsTold_95 (by decide) ?_
        refine lv_goto (tgt := 100) X.1 X.2.1 dX9_isAsTold_96 (by decide) ?_
        exact xt_z X hr hlocks hNN hw hl (by decide) h dX9_isAsTold_100
  by_cases k_8 : x1 = 8
  · have h := hsw.2.1 (Or.inr (Or.inr (Or.inr ((Or.inl k_8)))))
    refine lv_tableIn (off := 80) (tgt := 81) X.1 X.2.1 dX9_isAsTold_1 (by rw [k_8]; decide) (by rw [k_8]; decide) (by rw [k_8]; rfl) (by decide) ?_
    refine lv_iload_n X.1 X.2.1 dX9_isAsTold_81 rfl (lv_at hv 1 rfl) ?_
    refine xc_i (xr_S (n := 1) X hk hw hv.1 (c_X9_isSpindle l Z et S (x2) _ h) (tb_S tw_201 tw_199 tw_200 tw_39) rfl rfl (by decide +kernel) ⟨Nat.le_of_ble_eq_true rfl, Nat.le_of_ble_eq_true rfl⟩ rfl (Nat.le_of_ble_eq_true rfl) dX9_isAsTold_82 ⟨Nat.le_of_ble_eq_true rfl, Nat.le_of_ble_eq_true rfl⟩) hl (fun r_5 S_4 H locs h hN hw hl => ?_)
    replace hNN := hN.trans hNN
    refine lv_if_eq (tgt := 99) X.1 X.2.1 dX9_isAsTold_85 (by decide) (fun c_6 => ?_) (fun c_6 => ?_)
    · skip
      replace h := h.1 c_6
      refine lv_iconst (v := 0) X.1 X.2.1 dX9_isAsTold_99 (by decide) ?_
      exact xt_z X hr hlocks hNN hw hl (by decide) h dX9_isAsTold_100
    · skip
      replace h := h.2 c_6
      refine lv_iload_n X.1 X.2.1 dX9_isAsTold_88 rfl (lv_at hv 2 rfl) ?_
      refine xc_i (xr_S (n := 1) X hk hw hv.1 (c_X9_isSpindle l Z et S_4 (x3) _ h) (tb_S tw_201 tw_199 tw_200 tw_39) rfl rfl (by decide +kernel) ⟨Nat.le_of_ble_eq_true rfl, Nat.le_of_ble_eq_true rfl⟩ rfl (Nat.le_of_ble_eq_true rfl) dX9_isAsTold_89 ⟨Nat.le_of_ble_eq_true rfl, Nat.le_of_ble_eq_true rfl⟩) hl (fun r_8 S_7 H locs h hN hw hl => ?_)
      replace hNN := hN.trans hNN
      refine lv_if_eq (tgt := 99) X.1 X.2.1 dX9_isAsTold_92 (by decide) (fun c_9 => ?_) (fun c_9 => ?_)
      · skip
        replace h := h.1 c_9
        refine lv_iconst (v := 0) X.1 X.2.1 dX9_isAsTold_99 (by decide) ?_
        exact xt_z X hr hlocks hNN hw hl (by decide) h dX9_isAsTold_100
      · skip
        replace h := h.2 c_9
        refine lv_iconst (v := 1) X.1 X.2.1 dX9_isAsTold_95 (by decide) ?_
        refine lv_goto (tgt := 100) X.1 X.2.1 dX9_isAsTold_96 (by decide) ?_
        exact xt_z X hr hlocks hNN hw hl (by decide) h dX9_isAsTold_100
  by_cases k_11 : x1 = 11
  · have h := hsw.2.1 (Or.inr (Or.inr (Or.inr (Or.inr ((Or.inl k_11))))))
    refine lv_tableIn (off := 80) (tgt := 81) X.1 X.2.1 dX9_isAsTold_1 (by rw [k_11]; decide) (by rw [k_11]; decide) (by rw [k_11]; rfl) (by decide) ?_
    refine lv_iload_n X.1 X.2.1 dX9_isAsTold_81 rfl (lv_at hv 1 rfl) ?_
    refine xc_i (xr_S (n := 1) X hk hw hv.1 (c_X9_isSpindle l Z et S (x2) _ h) (tb_S tw_201 tw_199 tw_200 tw_39) rfl rfl (by decide +kernel) ⟨Nat.le_of_ble_eq_true rfl, Nat.le_of_ble_eq_true rfl⟩ rfl (Nat.le_of_ble_eq_true rfl) dX9_isAsTold_82 ⟨Nat.le_of_ble_eq_true rfl, Nat.le_of_ble_eq_true rfl⟩) hl (fun r_5 S_4 H locs h hN hw hl => ?_)
    replace hNN := hN.trans hNN
    refine lv_if_eq (tgt := 99) X.1 X.2.1 dX9_isAsTold_85 (by decide) (fun c_6 => ?_) (fun c_6 => ?_)
    · skip
      replace h := h.1 c_6
      refine lv_iconst (v := 0) X.1 X.2.1 dX9_isAsTold_99 (by decide) ?_
      exact xt_z X hr hlocks hNN hw hl (by decide) h dX9_isAsTold_100
    · skip
      replace h := h.2 c_6
      refine lv_iload_n X.1 X.2.1 dX9_isAsTold_88 rfl (lv_at hv 2 rfl) ?_
      refine xc_i (xr_S (n := 1) X hk hw hv.1 (c_X9_isSpindle l Z et S_4 (x3) _ h) (tb_S tw_201 tw_199 tw_200 tw_39) rfl rfl (by decide +kernel) ⟨Nat.le_of_ble_eq_true rfl, Nat.le_of_ble_eq_true rfl⟩ rfl (Nat.le_of_ble_eq_true rfl) dX9_isAsTold_89 ⟨Nat.le_of_ble_eq_true rfl, Nat.le_of_ble_eq_true rfl⟩) hl (fun r_8 S_7 H locs h hN hw hl => ?_)
      replace hNN := hN.trans hNN
      refine lv_if_eq (tgt := 99) X.1 X.2.1 dX9_isAsTold_92 (by decide) (fun c_9 => ?_) (fun c_9 => ?_)
      · skip
        replace h := h.1 c_9
        refine lv_iconst (v := 0) X.1 X.2.1 dX9_isAsTold_99 (by decide) ?_
        exact xt_z X hr hlocks hNN hw hl (by decide) h dX9_isAsTold_100
      · skip
        replace h := h.2 c_9
        refine lv_iconst (v := 1) X.1 X.2.1 dX9_isAsTold_95 (by decide) ?_
        refine lv_goto (tgt := 100) X.1 X.2.1 dX9_isAsTold_96 (by decide) ?_
        exact xt_z X hr hlocks hNN hw hl (by decide) h dX9_isAsTold_100
  by_cases k_12 : x1 = 12
  · have h := hsw.2.1 (Or.inr (Or.inr (Or.inr (Or.inr (Or.inr (k_12))))))
    refine lv_tableIn (off := 80) (tgt := 81) X.1 X.2.1 dX9_isAsTold_1 (by rw [k_12]; decide) (by rw [k_12]; decide) (by rw [k_12]; rfl) (by decide) ?_
    refine lv_iload_n X.1 X.2.1 dX9_isAsTold_81 rfl (lv_at hv 1 rfl) ?_
    refine xc_i (xr_S (n := 1) X hk hw hv.1 (c_X9_isSpindle l Z et S (x2) _ h) (tb_S tw_201 tw_199 tw_200 tw_39) rfl rfl (by decide +kernel) ⟨Nat.le_of_ble_eq_true rfl, Nat.le_of_ble_eq_true rfl⟩ rfl (Nat.le_of_ble_eq_true rfl) dX9_isAsTold_82 ⟨Nat.le_of_ble_eq_true rfl, Nat.le_of_ble_eq_true rfl⟩) hl (fun r_5 S_4 H locs h hN hw hl => ?_)
    replace hNN := hN.trans hNN
    refine lv_if_eq (tgt := 99) X.1 X.2.1 dX9_isAsTold_85 (by decide) (fun c_6 => ?_) (fun c_6 => ?_)
    · skip
      replace h := h.1 c_6
      refine lv_iconst (v := 0) X.1 X.2.1 dX9_isAsTold_99 (by decide) ?_
      exact xt_z X hr hlocks hNN hw hl (by decide) h dX9_isAsTold_100
    · skip
      replace h := h.2 c_6
      refine lv_iload_n X.1 X.2.1 dX9_isAsTold_88 rfl (lv_at hv 2 rfl) ?_
      refine xc_i (xr_S (n := 1) X hk hw hv.1 (c_X9_isSpindle l Z et S_4 (x3) _ h) (tb_S tw_201 tw_199 tw_200 tw_39) rfl rfl (by decide +kernel) ⟨Nat.le_of_ble_eq_true rfl, Nat.le_of_ble_eq_true rfl⟩ rfl (Nat.le_of_ble_eq_true rfl) dX9_isAsTold_89 ⟨Nat.le_of_ble_eq_true rfl, Nat.le_of_ble_eq_true rfl⟩) hl (fun r_8 S_7 H locs h hN hw hl => ?_)
      replace hNN := hN.trans hNN
      refine lv_if_eq (tgt := 99) X.1 X.2.1 dX9_isAsTold_92 (by decide) (fun c_9 => ?_) (fun c_9 => ?_)
      · skip
        replace h := h.1 c_9
        refine lv_iconst (v := 0) X.1 X.2.1 dX9_isAsTold_99 (by decide) ?_
        exact xt_z X hr hlocks hNN hw hl (by decide) h dX9_isAsTold_100
      · skip
        replace h := h.2 c_9
        refine lv_iconst (v := 1) X.1 X.2.1 dX9_isAsTold_95 (by decide) ?_
        refine lv_goto (tgt := 100) X.1 X.2.1 dX9_isAsTold_96 (by decide) ?_
        exact xt_z X hr hlocks hNN hw hl (by decide) h dX9_isAsTold_100
  by_cases k_5 : x1 = 5
  · have h := hsw.2.2.1 k_5
    refine lv_tableIn (off := 100) (tgt := 101) X.1 X.2.1 dX9_isAsTold_1 (by rw [k_5]; decide) (by rw [k_5]; decide) (by rw [k_5]; rfl) (by decide) ?_
    refine lv_iload_n X.1 X.2.1 dX9_isAsTold_101 rfl (lv_at hv 1 rfl) ?_
    refine xc_i (xr_S (n := 1) X hk hw hv.1 (c_X9_isSpindle l Z et S (x2) _ h) (tb_S tw_201 tw_199 tw_200 tw_39) rfl rfl (by decide +kernel) ⟨Nat.le_of_ble_eq_true rfl, Nat.le_of_ble_eq_true rfl⟩ rfl (Nat.le_of_ble_eq_true rfl) dX9_isAsTold_102 ⟨Nat.le_of_ble_eq_true rfl, Nat.le_of_ble_eq_true rfl⟩) hl (fun r_11 S_10 H locs h hN hw hl => ?_)
    replace hNN := hN.trans hNN
    refine lv_if_eq (tgt := 122) X.1 X.2.1 dX9_isAsTold_105 (by decide) (fun c_12 => ?_) (fun c_12 => ?_)
    · skip
      replace h := h.1 c_12
      refine lv_iconst (v := 0) X.1 X.2.1 dX9_isAsTold_122 (by decide) ?_
      exact xt_z X hr hlocks hNN hw hl (by decide) h dX9_isAsTold_123
    · skip
      replace h := h.2 c_12
      refine lv_iload_n X.1 X.2.1 dX9_isAsTold_108 rfl (lv_at hv 2 rfl) ?_
      refine lv_iconst (v := 0) X.1 X.2.1 dX9_isAsTold_109 (by decide) ?_
      refine lv_bipush (v := 11) X.1 X.2.1 dX9_isAsTold_110 (by decide) ?_
      refine xc_i (xr_S (n := 3) X hk hw hv.1 (c_X9_isWithin l Z et S_10 (x3) (0) (11) _ h) (tb_S tw_204 tw_202 tw_203 tw_39) rfl rfl (by decide +kernel) ⟨Nat.le_of_ble_eq_true rfl, Nat.le_of_ble_eq_true rfl⟩ rfl (Nat.le_of_ble_eq_true rfl) dX9_isAsTold_112 ⟨Nat.le_of_ble_eq_true rfl, Nat.le_of_ble_eq_true rfl⟩) hl (fun r_14 S_13 H locs h hN hw hl => ?_)
      replace hNN := hN.trans hNN
      refine lv_if_eq (tgt := 122) X.1 X.2.1 dX9_isAsTold_115 (by decide) (fun c_15 => ?_) (fun c_15 => ?_)
      · skip
        replace h := h.1 c_15
        refine lv_iconst (v := 0) X.1 X.2.1 dX9_isAsTold_122 (by decide) ?_
        exact xt_z X hr hlocks hNN hw hl (by decide) h dX9_isAsTold_123
      · skip
        replace h := h.2 c_15
        refine lv_iconst (v := 1) X.1 X.2.1 dX9_isAsTold_118 (by decide) ?_
        refine lv_goto (tgt := 123) X.1 X.2.1 dX9_isAsTold_119 (by decide) ?_
        exact xt_z X hr hlocks hNN hw hl (by decide) h dX9_isAsTold_123
  by_cases k_9 : x1 = 9
  · have h := hsw.2.2.2.1 k_9
    refine lv_tableIn (off := 123) (tgt := 124) X.1 X.2.1 dX9_isAsTold_1 (by rw [k_9]; decide) (by rw [k_9]; decide) (by rw [k_9]; rfl) (by decide) ?_
    refine lv_iload_n X.1 X.2.1 dX9_isAsTold_124 rfl (lv_at hv 1 rfl) ?_
    refine xc_i (xr_S (n := 1) X hk hw hv.1 (c_X9_isSpindle l Z et S (x2) _ h) (tb_S tw_201 tw_199 tw_200 tw_39) rfl rfl (by decide +kernel) ⟨Nat.le_of_ble_eq_true rfl, Nat.le_of_ble_eq_true rfl⟩ rfl (Nat.le_of_ble_eq_true rfl) dX9_isAsTold_125 ⟨Nat.le_of_ble_eq_true rfl, Nat.le_of_ble_eq_true rfl⟩) hl (fun r_17 S_16 H locs h hN hw hl => ?_)
    replace hNN := hN.trans hNN
    refine lv_if_eq (tgt := 144) X.1 X.2.1 dX9_isAsTold_128 (by decide) (fun c_18 => ?_) (fun c_18 => ?_)
    · skip
      replace h := h.1 c_18
      refine lv_iconst (v := 0) X.1 X.2.1 dX9_isAsTold_144 (by decide) ?_
      exact xt_z X hr hlocks hNN hw hl (by decide) h dX9_isAsTold_145
    · skip
      replace h := h.2 c_18
      refine lv_iload_n X.1 X.2.1 dX9_isAsTold_131 rfl (lv_at hv 2 rfl) ?_
      refine lv_iconst (v := 0) X.1 X.2.1 dX9_isAsTold_132 (by decide) ?_
      refine lv_iconst (v := 5) X.1 X.2.1 dX9_isAsTold_133 (by decide) ?_
      refine xc_i (xr_S (n := 3) X hk hw hv.1 (c_X9_isWithin l Z et S_16 (x3) (0) (5) _ h) (tb_S tw_204 tw_202 tw_203 tw_39) rfl rfl (by decide +kernel) ⟨Nat.le_of_ble_eq_true rfl, Nat.le_of_ble_eq_true rfl⟩ rfl (Nat.le_of_ble_eq_true rfl) dX9_isAsTold_134 ⟨Nat.le_of_ble_eq_true rfl, Nat.le_of_ble_eq_true rfl⟩) hl (fun r_20 S_19 H locs h hN hw hl => ?_)
      replace hNN := hN.trans hNN
      refine lv_if_eq (tgt := 144) X.1 X.2.1 dX9_isAsTold_137 (by decide) (fun c_21 => ?_) (fun c_21 => ?_)
      · skip
        replace h := h.1 c_21
        refine lv_iconst (v := 0) X.1 X.2.1 dX9_isAsTold_144 (by decide) ?_
        exact xt_z X hr hlocks hNN hw hl (by decide) h dX9_isAsTold_145
      · skip
        replace h := h.2 c_21
        refine lv_iconst (v := 1) X.1 X.2.1 dX9_isAsTold_140 (by decide) ?_
        refine lv_goto (tgt := 145) X.1 X.2.1 dX9_isAsTold_141 (by decide) ?_
        exact xt_z X hr hlocks hNN hw hl (by decide) h dX9_isAsTold_145
  by_cases k_13 : x1 = 13
  · have h := hsw.2.2.2.2.1 k_13
    refine lv_tableIn (off := 145) (tgt := 146) X.1 X.2.1 dX9_isAsTold_1 (by rw [k_13]; decide) (by rw [k_13]; decide) (by rw [k_13]; rfl) (by decide) ?_
    refine lv_iload_n X.1 X.2.1 dX9_isAsTold_146 rfl (lv_at hv 1 rfl) ?_
    refine lv_iconst (v := 0) X.1 X.2.1 dX9_isAsTold_147 (by decide) ?_
    refine lv_iconst (v := 5) X.1 X.2.1 dX9_isAsTold_148 (by decide) ?_
    refine xc_i (xr_S (n := 3) X hk hw hv.1 (c_X9_isWithin l Z et S (x2) (0) (5) _ h) (tb_S tw_204 tw_202 tw_203 tw_39) rfl rfl (by decide +kernel) ⟨Nat.le_of_ble_eq_true rfl, Nat.le_of_ble_eq_true rfl⟩ rfl (Nat.le_of_ble_eq_true rfl) dX9_isAsTold_149 ⟨Nat.le_of_ble_eq_true rfl, Nat.le_of_ble_eq_true rfl⟩) hl (fun r_23 S_22 H locs h hN hw hl => ?_)
    replace hNN := hN.trans hNN
    refine lv_if_eq (tgt := 169) X.1 X.2.1 dX9_isAsTold_152 (by decide) (fun c_24 => ?_) (fun c_24 => ?_)
    · skip
      replace h := h.1 c_24
      refine lv_iconst (v := 0) X.1 X.2.1 dX9_isAsTold_169 (by decide) ?_
      exact xt_z X hr hlocks hNN hw hl (by decide) h dX9_isAsTold_170
    · skip
      replace h := h.2 c_24
      refine lv_iload_n X.1 X.2.1 dX9_isAsTold_155 rfl (lv_at hv 3 rfl) ?_
      refine lv_iconst (v := 0) X.1 X.2.1 dX9_isAsTold_156 (by decide) ?_
      refine lv_bipush (v := 60) X.1 X.2.1 dX9_isAsTold_157 (by decide) ?_
      refine xc_i (xr_S (n := 3) X hk hw hv.1 (c_X9_isWithin l Z et S_22 (x4) (0) (60) _ h) (tb_S tw_204 tw_202 tw_203 tw_39) rfl rfl (by decide +kernel) ⟨Nat.le_of_ble_eq_true rfl, Nat.le_of_ble_eq_true rfl⟩ rfl (Nat.le_of_ble_eq_true rfl) dX9_isAsTold_159 ⟨Nat.le_of_ble_eq_true rfl, Nat.le_of_ble_eq_true rfl⟩) hl (fun r_26 S_25 H locs h hN hw hl => ?_)
      replace hNN := hN.trans hNN
      refine lv_if_eq (tgt := 169) X.1 X.2.1 dX9_isAsTold_162 (by decide) (fun c_27 => ?_) (fun c_27 => ?_)
      · skip
        replace h := h.1 c_27
        refine lv_iconst (v := 0) X.1 X.2.1 dX9_isAsTold_169 (by decide) ?_
        exact xt_z X hr hlocks hNN hw hl (by decide) h dX9_isAsTold_170
      · skip
        replace h := h.2 c_27
        refine lv_iconst (v := 1) X.1 X.2.1 dX9_isAsTold_165 (by decide) ?_
        refine lv_goto (tgt := 170) X.1 X.2.1 dX9_isAsTold_166 (by decide) ?_
        exact xt_z X hr hlocks hNN hw hl (by decide) h dX9_isAsTold_170
  by_cases k_14 : x1 = 14
  · have h := hsw.2.2.2.2.2.1 k_14
    refine lv_tableIn (off := 170) (tgt := 171) X.1 X.2.1 dX9_isAsTold_1 (by rw [k_14]; decide) (by rw [k_14]; decide) (by rw [k_14]; rfl) (by decide) ?_
    refine lv_iload_n X.1 X.2.1 dX9_isAsTold_171 rfl (lv_at hv 2 rfl) ?_
    refine lv_iconst (v := 1) X.1 X.2.1 dX9_isAsTold_172 (by decide) ?_
    refine lv_bipush (v := 60) X.1 X.2.1 dX9_isAsTold_173 (by decide) ?_
    refine xc_i (xr_S (n := 3) X hk hw hv.1 (c_X9_isWithin l Z et S (x3) (1) (60) _ h) (tb_S tw_204 tw_202 tw_203 tw_39) rfl rfl (by decide +kernel) ⟨Nat.le_of_ble_eq_true rfl, Nat.le_of_ble_eq_true rfl⟩ rfl (Nat.le_of_ble_eq_true rfl) dX9_isAsTold_175 ⟨Nat.le_of_ble_eq_true rfl, Nat.le_of_ble_eq_true rfl⟩) hl (fun r_29 S_28 H locs h hN hw hl => ?_)
    replace hNN := hN.trans hNN
    refine lv_if_eq (tgt := 195) X.1 X.2.1 dX9_isAsTold_178 (by decide) (fun c_30 => ?_) (fun c_30 => ?_)
    · skip
      replace h := h.1 c_30
      refine lv_iconst (v := 0) X.1 X.2.1 dX9_isAsTold_195 (by decide) ?_
      exact xt_z X hr hlocks hNN hw hl (by decide) h dX9_isAsTold_196
    · skip
      replace h := h.2 c_30
      refine lv_iload_n X.1 X.2.1 dX9_isAsTold_181 rfl (lv_at hv 3 rfl) ?_
      refine lv_iconst (v := 0) X.1 X.2.1 dX9_isAsTold_182 (by decide) ?_
      refine lv_bipush (v := 20) X.1 X.2.1 dX9_isAsTold_183 (by decide) ?_
      refine xc_i (xr_S (n := 3) X hk hw hv.1 (c_X9_isWithin l Z et S_28 (x4) (0) (20) _ h) (tb_S tw_204 tw_202 tw_203 tw_39) rfl rfl (by decide +kernel) ⟨Nat.le_of_ble_eq_true rfl, Nat.le_of_ble_eq_true rfl⟩ rfl (Nat.le_of_ble_eq_true rfl) dX9_isAsTold_185 ⟨Nat.le_of_ble_eq_true rfl, Nat.le_of_ble_eq_true rfl⟩) hl (fun r_32 S_31 H locs h hN hw hl => ?_)
      replace hNN := hN.trans hNN
      refine lv_if_eq (tgt := 195) X.1 X.2.1 dX9_isAsTold_188 (by decide) (fun c_33 => ?_) (fun c_33 => ?_)
      · skip
        replace h := h.1 c_33
        refine lv_iconst (v := 0) X.1 X.2.1 dX9_isAsTold_195 (by decide) ?_
        exact xt_z X hr hlocks hNN hw hl (by decide) h dX9_isAsTold_196
      · skip
        replace h := h.2 c_33
        refine lv_iconst (v := 1) X.1 X.2.1 dX9_isAsTold_191 (by decide) ?_
        refine lv_goto (tgt := 196) X.1 X.2.1 dX9_isAsTold_192 (by decide) ?_
        exact xt_z X hr hlocks hNN hw hl (by decide) h dX9_isAsTold_196
  have h := hsw.2.2.2.2.2.2 k_0 k_2 k_3 k_4 k_10 k_1 k_6 k_7 k_8 k_11 k_12 k_5 k_9 k_13 k_14
  have n_0 := lv_neT k_0 (a := 0) (by decide)
  have n_2 := lv_neT k_2 (a := 2) (by decide)
  have n_3 := lv_neT k_3 (a := 3) (by decide)
  have n_4 := lv_neT k_4 (a := 4) (by decide)
  have n_10 := lv_neT k_10 (a := 10) (by decide)
  have n_1 := lv_neT k_1 (a := 1) (by decide)
  have n_6 := lv_neT k_6 (a := 6) (by decide)
  have n_7 := lv_neT k_7 (a := 7) (by decide)
  have n_8 := lv_neT k_8 (a := 8) (by decide)
  have n_11 := lv_neT k_11 (a := 11) (by decide)
  have n_12 := lv_neT k_12 (a := 12) (by decide)
  have n_5 := lv_neT k_5 (a := 5) (by decide)
  have n_9 := lv_neT k_9 (a := 9) (by decide)
  have n_13 := lv_neT k_13 (a := 13) (by decide)
  have n_14 := lv_neT k_14 (a := 14) (by decide)
  refine lv_tableOut (tgt := 197) X.1 X.2.1 dX9_isAsTold_1 (by omega) (by decide) ?_
  refine lv_iconst (v := 0) X.1 X.2.1 dX9_isAsTold_197 (by decide) ?_
  exact xt_z X hr hlocks hNN hw hl (by decide) h dX9_isAsTold_198
def v_X9_order (x1 : Int32) (x2 : Int32) (x3 : Int32) (x4 : Int32) (S : xs_T) (K : Int32 → xs_T → Prop) : Prop := v_X9_isAsTold (x1) (x2) (x3) (x4) S (fun (r_2 : Int32) (S_1 : xs_T) => ((r_2 = 0 → K ((-1)) S_1) ∧ (¬ r_2 = 0 → (((xF S_1 34 5) < 60 → v_X8_append (x1) (x2) (x3) (x4) S_1 (fun (r_6 : Int32) (S_5 : xs_T) => K (r_6) S_5)) ∧ (¬ (xF S_1 34 5) < 60 → K ((-1)) S_1)))))
set_option maxHeartbeats 4000000 in
set_option maxRecDepth 100000 in
theorem c_X9_order (l : Launch) (Z : xz_T) (et : Nat → Nat) (S : xs_T) (x1 : Int32) (x2 : Int32) (x3 : Int32) (x4 : Int32) (K : Int32 → xs_T → Prop) (h : v_X9_order x1 x2 x3 x4 S K) : Met l yX9_order (wq yX9_order cX9_order 5 (some .int)) { frames := 3, cells := 0, slots := 0, locals := 65 } (xPc Z et S [.ref (et (32)), .int (x1), .int (x2), .int (x3), .int (x4)]) (xQi Z et S.2.2.2.2 K) 0 0 (fun q => Z.2.2.1 ≤ q) := by
  refine Met.ofW (cc := cX9_order) (maxL := 5) (ret := (some .int)) (by decide +kernel) rfl ?_
  intro p e s m args below meth c s₁ B hml hv0
  obtain ⟨rfl, hk, hw⟩ := hv0
  have X : CallFix p m c cX9_order 5 s _ (wq yX9_order cX9_order 5 (some .int)) RX9 := ⟨B.exec, B.bytes, hml, findClass_of_methodNamed B.named, atoms_spec (ws := (wq yX9_order cX9_order 5 (some .int))) B.pre⟩
  have hr := B.returns
  have hlocks := B.notSynchronized
  have hl : xl Z [] := fun _ h => by cases h
  have hNN : S.2.2.2.2 = S.2.2.2.2 := rfl
  have hv := lv_entry [.ref (et (32)), .int (x1), .int (x2), .int (x3), .int (x4)] (n := 5) (Nat.le_of_ble_eq_true rfl)
  rw [lg_entry_eq]
  generalize (lg_sl [.ref (et (32)), .int (x1), .int (x2), .int (x3), .int (x4)] ++ List.replicate (5 - (lg_sl [.ref (et (32)), .int (x1), .int (x2), .int (x3), .int (x4)]).length) Slot.unset).toArray = ls at hv ⊢
  replace hv : lv_has ls 5 [(0, .ref (et (32))), (1, .int (x1)), (2, .int (x2)), (3, .int (x3)), (4, .int (x4))] := hv
  unfold v_X9_order at h
  refine lv_iload_n X.1 X.2.1 dX9_order_0 rfl (lv_at hv 1 rfl) ?_
  refine lv_iload_n X.1 X.2.1 dX9_order_1 rfl (lv_at hv 2 rfl) ?_
  refine lv_iload_n X.1 X.2.1 dX9_order_2 rfl (lv_at hv 3 rfl) ?_
  refine lv_iload X.1 X.2.1 dX9_order_3 (lv_at hv 4 rfl) ?_
  refine xc_i (xr_S (n := 4) X hk hw hv.1 (c_X9_isAsTold l Z et S (x1) (x2) (x3) (x4) _ h) (tb_S tw_198 tw_196 tw_197 tw_39) rfl rfl (by decide +kernel) ⟨Nat.le_of_ble_eq_true rfl, Nat.le_of_ble_eq_true rfl⟩ rfl (Nat.le_of_ble_eq_true rfl) dX9_order_5 ⟨Nat.le_of_ble_eq_true rfl, Nat.le_of_ble_eq_true rfl⟩) hl (fun r_2 S_1 H locs h hN hw hl => ?_)
  replace hNN := hN.trans hNN
  refine lv_if_eq (tgt := 23) X.1 X.2.1 dX9_order_8 (by decide) (fun c_3 => ?_) (fun c_3 => ?_)
  · skip
    replace h := h.1 c_3
    refine lv_iconst (v := (-1)) X.1 X.2.1 dX9_order_23 (by decide) ?_
    exact xt_i X hr hlocks hNN hw hl h dX9_order_24
  · skip
    replace h := h.2 c_3
    refine lv_aload_n X.1 X.2.1 dX9_order_11 rfl (lv_at hv 0 rfl) ?_
    refine xw_get X hk hw (i := 32) 1 xe_32 rfl tlX9 (by decide) rfl tw_165 dX9_order_12 ?_
    refine xw_getN X hk hw (i := 34) 5 xe_34 rfl tlX8 (by decide) rfl xn_13 dX9_order_15 ?_
    refine lv_bipush (v := 60) X.1 X.2.1 dX9_order_18 (by decide) ?_
    refine lv_icmp_lt (tgt := 25) X.1 X.2.1 dX9_order_20 (by decide) (fun c_4 => ?_) (fun c_4 => ?_)
    · skip
      replace h := h.1 c_4
      refine lv_aload_n X.1 X.2.1 dX9_order_25 rfl (lv_at hv 0 rfl) ?_
      refine xw_get X hk hw (i := 32) 1 xe_32 rfl tlX9 (by decide) rfl tw_165 dX9_order_26 ?_
      refine lv_iload_n X.1 X.2.1 dX9_order_29 rfl (lv_at hv 1 rfl) ?_
      refine lv_iload_n X.1 X.2.1 dX9_order_30 rfl (lv_at hv 2 rfl) ?_
      refine lv_iload_n X.1 X.2.1 dX9_order_31 rfl (lv_at hv 3 rfl) ?_
      refine lv_iload X.1 X.2.1 dX9_order_32 (lv_at hv 4 rfl) ?_
      refine xc_i (xr_V (n := 4) (As := [.int (x1), .int (x2), .int (x3), .int (x4)]) (i := 34) X hk hw hv.1 (c_X8_append l Z et S_1 (x1) (x2) (x3) (x4) _ h) (tb_V tw_208 tw_205 tw_206 tw_207 tw_42) xe_34 rfl rfl rfl rfl (by decide +kernel) ⟨Nat.le_of_ble_eq_true rfl, Nat.le_of_ble_eq_true rfl⟩ rfl (Nat.le_of_ble_eq_true rfl) dX9_order_34 ⟨Nat.le_of_ble_eq_true rfl, Nat.le_of_ble_eq_true rfl⟩) hl (fun r_6 S_5 H locs h hN hw hl => ?_)
      replace hNN := hN.trans hNN
      exact xt_i X hr hlocks hNN hw hl h dX9_order_37
    · skip
      replace h := h.2 c_4
      refine lv_iconst (v := (-1)) X.1 X.2.1 dX9_order_23 (by decide) ?_
      exact xt_i X hr hlocks hNN hw hl h dX9_order_24
def v_X9_cut (x1 : Int32) (S : xs_T) (K : Int32 → xs_T → Prop) : Prop := ((x1 < 0 → K (0) S) ∧ (¬ x1 < 0 → ((x1 ≤ (xF S 34 5) → ∀ S_3 : xs_T, S_3 = sF S 34 5 (x1) → K (1) S_3) ∧ (¬ x1 ≤ (xF S 34 5) → K (0) S))))
set_option maxHeartbeats 4000000 in
set_option maxRecDepth 100000 in
theorem c_X9_cut (l : Launch) (Z : xz_T) (et : Nat → Nat) (S : xs_T) (x1 : Int32) (K : Int32 → xs_T → Prop) (h : v_X9_cut x1 S K) : Met l yX9_cut (wq yX9_cut cX9_cut 2 (some .boolean)) { frames := 0, cells := 0, slots := 0, locals := 0 } (xPc Z et S [.ref (et (32)), .int (x1)]) (xQi Z et S.2.2.2.2 K) 0 0 (fun q => Z.2.2.1 ≤ q) := by
  refine Met.ofW (cc := cX9_cut) (maxL := 2) (ret := (some .boolean)) (by decide +kernel) rfl ?_
  intro p e s m args below meth c s₁ B hml hv0
  obtain ⟨rfl, hk, hw⟩ := hv0
  have X : CallFix p m c cX9_cut 2 s _ (wq yX9_cut cX9_cut 2 (some .boolean)) RX9 := ⟨B.exec, B.bytes, hml, findClass_of_methodNamed B.named, atoms_spec (ws := (wq yX9_cut cX9_cut 2 (some .boolean))) B.pre⟩
  have hr := B.returns
  have hlocks := B.notSynchronized
  have hl : xl Z [] := fun _ h => by cases h
  have hNN : S.2.2.2.2 = S.2.2.2.2 := rfl
  have hv := lv_entry [.ref (et (32)), .int (x1)] (n := 2) (Nat.le_of_ble_eq_true rfl)
  rw [lg_entry_eq]
  generalize (lg_sl [.ref (et (32)), .int (x1)] ++ List.replicate (2 - (lg_sl [.ref (et (32)), .int (x1)]).length) Slot.unset).toArray = ls at hv ⊢
  replace hv : lv_has ls 2 [(0, .ref (et (32))), (1, .int (x1))] := hv
  unfold v_X9_cut at h
  refine lv_iload_n X.1 X.2.1 dX9_cut_0 rfl (lv_at hv 1 rfl) ?_
  refine lv_if_lt (tgt := 15) X.1 X.2.1 dX9_cut_1 (by decide) (fun c_1 => ?_) (fun c_1 => ?_)
  · skip
    replace h := h.1 c_1
    refine lv_iconst (v := 0) X.1 X.2.1 dX9_cut_15 (by decide) ?_
    exact xt_z X hr hlocks hNN hw hl (by decide) h dX9_cut_16
  · skip
    replace h := h.2 c_1
    refine lv_iload_n X.1 X.2.1 dX9_cut_4 rfl (lv_at hv 1 rfl) ?_
    refine lv_aload_n X.1 X.2.1 dX9_cut_5 rfl (lv_at hv 0 rfl) ?_
    refine xw_get X hk hw (i := 32) 1 xe_32 rfl tlX9 (by decide) rfl tw_165 dX9_cut_6 ?_
    refine xw_getN X hk hw (i := 34) 5 xe_34 rfl tlX8 (by decide) rfl xn_13 dX9_cut_9 ?_
    refine lv_icmp_le (tgt := 17) X.1 X.2.1 dX9_cut_12 (by decide) (fun c_2 => ?_) (fun c_2 => ?_)
    · skip
      replace h := h.1 c_2
      refine lv_aload_n X.1 X.2.1 dX9_cut_17 rfl (lv_at hv 0 rfl) ?_
      refine xw_get X hk hw (i := 32) 1 xe_32 rfl tlX9 (by decide) rfl tw_165 dX9_cut_18 ?_
      refine lv_iload_n X.1 X.2.1 dX9_cut_21 rfl (lv_at hv 1 rfl) ?_
      refine xw_putN X hk hw hl (i := 34) 5 xe_34 rfl rfl tlX8 tyX8 tyX8_ok nmX8 (by decide) xn_13 rfl rfl (Nat.le_of_ble_eq_true rfl) dX9_cut_22 (fun H locs hw hl => ?_)
      obtain ⟨S_3, e_4⟩ : ∃ T : xs_T, T = sF S 34 5 (x1) := ⟨_, rfl⟩
      rw [← e_4] at hw
      replace h := h S_3 e_4
      have hN : S_3.2.2.2.2 = S.2.2.2.2 := by rw [e_4]; rfl
      replace hNN := hN.trans hNN
      refine lv_iconst (v := 1) X.1 X.2.1 dX9_cut_25 (by decide) ?_
      exact xt_z X hr hlocks hNN hw hl (by decide) h dX9_cut_26
    · skip
      replace h := h.2 c_2
      refine lv_iconst (v := 0) X.1 X.2.1 dX9_cut_15 (by decide) ?_
      exact xt_z X hr hlocks hNN hw hl (by decide) h dX9_cut_16
def v_X6_hasRoomForFigure  (S : xs_T) (K : Int32 → xs_T → Prop) : Prop := ((400 ≤ (xF S 40 1) → K (0) S) ∧ (¬ 400 ≤ (xF S 40 1) → K (1) S))
set_option maxHeartbeats 4000000 in
set_option maxRecDepth 100000 in
theorem c_X6_hasRoomForFigure (l : Launch) (Z : xz_T) (et : Nat → Nat) (S : xs_T)  (K : Int32 → xs_T → Prop) (h : v_X6_hasRoomForFigure  S K) : Met l yX6_hasRoomForFigure (wq yX6_hasRoomForFigure cX6_hasRoomForFigure 1 (some .boolean)) { frames := 0, cells := 0, slots := 0, locals := 0 } (xPc Z et S [.ref (et (40))]) (xQi Z et S.2.2.2.2 K) 0 0 (fun q => Z.2.2.1 ≤ q) := by
  refine Met.ofW (cc := cX6_hasRoomForFigure) (maxL := 1) (ret := (some .boolean)) (by decide +kernel) rfl ?_
  intro p e s m args below meth c s₁ B hml hv0
  obtain ⟨rfl, hk, hw⟩ := hv0
  have X : CallFix p m c cX6_hasRoomForFigure 1 s _ (wq yX6_hasRoomForFigure cX6_hasRoomForFigure 1 (some .boolean)) RX6 := ⟨B.exec, B.bytes, hml, findClass_of_methodNamed B.named, atoms_spec (ws := (wq yX6_hasRoomForFigure cX6_hasRoomForFigure 1 (some .boolean))) B.pre⟩
  have hr := B.returns
  have hlocks := B.notSynchronized
  have hl : xl Z [] := fun _ h => by cases h
  have hNN : S.2.2.2.2 = S.2.2.2.2 := rfl
  have hv := lv_entry [.ref (et (40))] (n := 1) (Nat.le_of_ble_eq_true rfl)
  rw [lg_entry_eq]
  generalize (lg_sl [.ref (et (40))] ++ List.replicate (1 - (lg_sl [.ref (et (40))]).length) Slot.unset).toArray = ls at hv ⊢
  replace hv : lv_has ls 1 [(0, .ref (et (40)))] := hv
  unfold v_X6_hasRoomForFigure at h
  refine lv_aload_n X.1 X.2.1 dX6_hasRoomForFigure_0 rfl (lv_at hv 0 rfl) ?_
  refine xw_get X hk hw (i := 40) 1 xe_40 rfl tlX6 (by decide) rfl tw_79 dX6_hasRoomForFigure_1 ?_
  refine lv_sipush (v := 400) X.1 X.2.1 dX6_hasRoomForFigure_4 (by decide) ?_
  refine lv_icmp_ge (tgt := 14) X.1 X.2.1 dX6_hasRoomForFigure_7 (by decide) (fun c_1 => ?_) (fun c_1 => ?_)
  · skip
    replace h := h.1 c_1
    refine lv_iconst (v := 0) X.1 X.2.1 dX6_hasRoomForFigure_14 (by decide) ?_
    exact xt_z X hr hlocks hNN hw hl (by decide) h dX6_hasRoomForFigure_15
  · skip
    replace h := h.2 c_1
    refine lv_iconst (v := 1) X.1 X.2.1 dX6_hasRoomForFigure_10 (by decide) ?_
    refine lv_goto (tgt := 15) X.1 X.2.1 dX6_hasRoomForFigure_11 (by decide) ?_
    exact xt_z X hr hlocks hNN hw hl (by decide) h dX6_hasRoomForFigure_15
def v_X5_hasPlace (u0 : Nat) (x1 : Int32) (S : xs_T) (K : Int32 → xs_T → Prop) : Prop := ((x1 < 0 → K (0) S) ∧ (¬ x1 < 0 → oR S u0 ∧ (((nI (xN S (u0 + 120))) ≤ x1 → K (0) S) ∧ (¬ (nI (xN S (u0 + 120))) ≤ x1 → K (1) S))))
set_option maxHeartbeats 4000000 in
set_option maxRecDepth 100000 in
theorem c_X5_hasPlace (l : Launch) (Z : xz_T) (et : Nat → Nat) (S : xs_T) (u0 : Nat) (x1 : Int32) (K : Int32 → xs_T → Prop) (h : v_X5_hasPlace u0 x1 S K) : Met l yX5_hasPlace (wq yX5_hasPlace cX5_hasPlace 2 (some .boolean)) { frames := 0, cells := 0, slots := 0, locals := 0 } (xPc Z et S [.ref (et (u0)), .int (x1)]) (xQi Z et S.2.2.2.2 K) 0 0 (fun q => Z.2.2.1 ≤ q) := by
  refine Met.ofW (cc := cX5_hasPlace) (maxL := 2) (ret := (some .boolean)) (by decide +kernel) rfl ?_
  intro p e s m args below meth c s₁ B hml hv0
  obtain ⟨rfl, hk, hw⟩ := hv0
  have X : CallFix p m c cX5_hasPlace 2 s _ (wq yX5_hasPlace cX5_hasPlace 2 (some .boolean)) RX5 := ⟨B.exec, B.bytes, hml, findClass_of_methodNamed B.named, atoms_spec (ws := (wq yX5_hasPlace cX5_hasPlace 2 (some .boolean))) B.pre⟩
  have hr := B.returns
  have hlocks := B.notSynchronized
  have hl : xl Z [] := fun _ h => by cases h
  have hNN : S.2.2.2.2 = S.2.2.2.2 := rfl
  have hv := lv_entry [.ref (et (u0)), .int (x1)] (n := 2) (Nat.le_of_ble_eq_true rfl)
  rw [lg_entry_eq]
  generalize (lg_sl [.ref (et (u0)), .int (x1)] ++ List.replicate (2 - (lg_sl [.ref (et (u0)), .int (x1)]).length) Slot.unset).toArray = ls at hv ⊢
  replace hv : lv_has ls 2 [(0, .ref (et (u0))), (1, .int (x1))] := hv
  unfold v_X5_hasPlace at h
  refine lv_iload_n X.1 X.2.1 dX5_hasPlace_0 rfl (lv_at hv 1 rfl) ?_
  refine lv_if_lt (tgt := 17) X.1 X.2.1 dX5_hasPlace_1 (by decide) (fun c_1 => ?_) (fun c_1 => ?_)
  · skip
    replace h := h.1 c_1
    refine lv_iconst (v := 0) X.1 X.2.1 dX5_hasPlace_17 (by decide) ?_
    exact xt_z X hr hlocks hNN hw hl (by decide) h dX5_hasPlace_18
  · skip
    replace h := h.2 c_1
    refine lv_iload_n X.1 X.2.1 dX5_hasPlace_4 rfl (lv_at hv 1 rfl) ?_
    refine lv_aload_n X.1 X.2.1 dX5_hasPlace_5 rfl (lv_at hv 0 rfl) ?_
    obtain ⟨o_2, h⟩ := h
    refine xw_get X hk hw (i := u0) 1 (xE_row o_2) rfl tlX5 (by decide) rfl tw_331 dX5_hasPlace_6 ?_
    refine xw_len X hk hw (xE_arr o_2) dX5_hasPlace_9 ?_
    refine lv_icmp_ge (tgt := 17) X.1 X.2.1 dX5_hasPlace_10 (by decide) (fun c_3 => ?_) (fun c_3 => ?_)
    · skip
      replace h := h.1 c_3
      refine lv_iconst (v := 0) X.1 X.2.1 dX5_hasPlace_17 (by decide) ?_
      exact xt_z X hr hlocks hNN hw hl (by decide) h dX5_hasPlace_18
    · skip
      replace h := h.2 c_3
      refine lv_iconst (v := 1) X.1 X.2.1 dX5_hasPlace_13 (by decide) ?_
      refine lv_goto (tgt := 18) X.1 X.2.1 dX5_hasPlace_14 (by decide) ?_
      exact xt_z X hr hlocks hNN hw hl (by decide) h dX5_hasPlace_18
def v_X5_isOfFigures (u0 : Nat) (S : xs_T) (K : Int32 → xs_T → Prop) : Prop := oR S u0 ∧ (((xF S u0 0) < 8 → K (0) S) ∧ (¬ (xF S u0 0) < 8 → K (1) S))
set_option maxHeartbeats 4000000 in
set_option maxRecDepth 100000 in
theorem c_X5_isOfFigures (l : Launch) (Z : xz_T) (et : Nat → Nat) (S : xs_T) (u0 : Nat) (K : Int32 → xs_T → Prop) (h : v_X5_isOfFigures u0 S K) : Met l yX5_isOfFigures (wq yX5_isOfFigures cX5_isOfFigures 1 (some .boolean)) { frames := 0, cells := 0, slots := 0, locals := 0 } (xPc Z et S [.ref (et (u0))]) (xQi Z et S.2.2.2.2 K) 0 0 (fun q => Z.2.2.1 ≤ q) := by
  refine Met.ofW (cc := cX5_isOfFigures) (maxL := 1) (ret := (some .boolean)) (by decide +kernel) rfl ?_
  intro p e s m args below meth c s₁ B hml hv0
  obtain ⟨rfl, hk, hw⟩ := hv0
  have X : CallFix p m c cX5_isOfFigures 1 s _ (wq yX5_isOfFigures cX5_isOfFigures 1 (some .boolean)) RX5 := ⟨B.exec, B.bytes, hml, findClass_of_methodNamed B.named, atoms_spec (ws := (wq yX5_isOfFigures cX5_isOfFigures 1 (some .boolean))) B.pre⟩
  have hr := B.returns
  have hlocks := B.notSynchronized
  have hl : xl Z [] := fun _ h => by cases h
  have hNN : S.2.2.2.2 = S.2.2.2.2 := rfl
  have hv := lv_entry [.ref (et (u0))] (n := 1) (Nat.le_of_ble_eq_true rfl)
  rw [lg_entry_eq]
  generalize (lg_sl [.ref (et (u0))] ++ List.replicate (1 - (lg_sl [.ref (et (u0))]).length) Slot.unset).toArray = ls at hv ⊢
  replace hv : lv_has ls 1 [(0, .ref (et (u0)))] := hv
  unfold v_X5_isOfFigures at h
  refine lv_aload_n X.1 X.2.1 dX5_isOfFigures_0 rfl (lv_at hv 0 rfl) ?_
  obtain ⟨o_1, h⟩ := h
  refine xw_get X hk hw (i := u0) 0 (xE_row o_1) rfl tlX5 (by decide) rfl tw_329 dX5_isOfFigures_1 ?_
  refine lv_bipush (v := 8) X.1 X.2.1 dX5_isOfFigures_4 (by decide) ?_
  refine lv_icmp_lt (tgt := 13) X.1 X.2.1 dX5_isOfFigures_6 (by decide) (fun c_2 => ?_) (fun c_2 => ?_)
  · skip
    replace h := h.1 c_2
    refine lv_iconst (v := 0) X.1 X.2.1 dX5_isOfFigures_13 (by decide) ?_
    exact xt_z X hr hlocks hNN hw hl (by decide) h dX5_isOfFigures_14
  · skip
    replace h := h.2 c_2
    refine lv_iconst (v := 1) X.1 X.2.1 dX5_isOfFigures_9 (by decide) ?_
    refine lv_goto (tgt := 14) X.1 X.2.1 dX5_isOfFigures_10 (by decide) ?_
    exact xt_z X hr hlocks hNN hw hl (by decide) h dX5_isOfFigures_14
def v_X6_figureOf (x1 : Int64) (S : xs_T) (K : Option Nat → xs_T → Prop) : Prop := ((x1 < 1 → K none S) ∧ (¬ x1 < 1 → ((x1 ≤ ((xF S 40 1)).toInt64 → ∃ j_3 : Nat, ((x1).toInt32 - 1) = nI j_3 ∧ j_3 < 400 ∧ K (xQ S 41 j_3) S) ∧ (¬ x1 ≤ ((xF S 40 1)).toInt64 → K none S))))
set_option maxHeartbeats 4000000 in
set_option maxRecDepth 100000 in
theorem c_X6_figureOf (l : Launch) (Z : xz_T) (et : Nat → Nat) (S : xs_T) (x1 : Int64) (K : Option Nat → xs_T → Prop) (h : v_X6_figureOf x1 S K) : Met l yX6_figureOf (wq yX6_figureOf cX6_figureOf 3 (some (.object "PinBarrels$Figure"))) { frames := 0, cells := 0, slots := 0, locals := 0 } (xPc Z et S [.ref (et (40)), .long (x1)]) (xQq Z et S.2.2.2.2 K) 0 0 (fun q => Z.2.2.1 ≤ q) := by
  refine Met.ofW (cc := cX6_figureOf) (maxL := 3) (ret := (some (.object "PinBarrels$Figure"))) (by decide +kernel) rfl ?_
  intro p e s m args below meth c s₁ B hml hv0
  obtain ⟨rfl, hk, hw⟩ := hv0
  have X : CallFix p m c cX6_figureOf 3 s _ (wq yX6_figureOf cX6_figureOf 3 (some (.object "PinBarrels$Figure"))) RX6 := ⟨B.exec, B.bytes, hml, findClass_of_methodNamed B.named, atoms_spec (ws := (wq yX6_figureOf cX6_figureOf 3 (some (.object "PinBarrels$Figure")))) B.pre⟩
  have hr := B.returns
  have hlocks := B.notSynchronized
  have hl : xl Z [] := fun _ h => by cases h
  have hNN : S.2.2.2.2 = S.2.2.2.2 := rfl
  have hv := lv_entry [.ref (et (40)), .long (x1)] (n := 3) (Nat.le_of_ble_eq_true rfl)
  rw [lg_entry_eq]
  generalize (lg_sl [.ref (et (40)), .long (x1)] ++ List.replicate (3 - (lg_sl [.ref (et (40)), .long (x1)]).length) Slot.unset).toArray = ls at hv ⊢
  replace hv : lv_has ls 3 [(0, .ref (et (40))), (1, .long (x1))] := hv
  unfold v_X6_figureOf at h
  refine lv_lload_n X.1 X.2.1 dX6_figureOf_0 rfl (lv_at hv 1 rfl) ?_
  refine lv_lconst (v := 1) X.1 X.2.1 dX6_figureOf_1 rfl ?_
  refine W.lcmp X.1 X.2.1 dX6_figureOf_2 ?_
  refine lv_if_lt (tgt := 16) X.1 X.2.1 dX6_figureOf_3 (by decide) (fun c_1 => ?_) (fun c_1 => ?_)
  · skip
    replace c_1 := (lg_cmp_lt _ _).mp c_1
    replace h := h.1 c_1
    refine lv_null X.1 X.2.1 dX6_figureOf_16 ?_
    exact xt_q none X hr hlocks hNN hw hl h dX6_figureOf_17
  · skip
    replace c_1 := fun q => c_1 ((lg_cmp_lt _ _).mpr q)
    replace h := h.2 c_1
    refine lv_lload_n X.1 X.2.1 dX6_figureOf_6 rfl (lv_at hv 1 rfl) ?_
    refine lv_aload_n X.1 X.2.1 dX6_figureOf_7 rfl (lv_at hv 0 rfl) ?_
    refine xw_get X hk hw (i := 40) 1 xe_40 rfl tlX6 (by decide) rfl tw_79 dX6_figureOf_8 ?_
    refine lv_i2l (v := ((xF S 40 1)).toInt64) X.1 X.2.1 dX6_figureOf_11 rfl ?_
    refine W.lcmp X.1 X.2.1 dX6_figureOf_12 ?_
    refine lv_if_le (tgt := 18) X.1 X.2.1 dX6_figureOf_13 (by decide) (fun c_2 => ?_) (fun c_2 => ?_)
    · skip
      replace c_2 := (lg_cmp_le _ _).mp c_2
      replace h := h.1 c_2
      refine lv_aload_n X.1 X.2.1 dX6_figureOf_18 rfl (lv_at hv 0 rfl) ?_
      refine xw_get X hk hw (i := 40) 0 xe_40 rfl tlX6 (by decide) rfl tw_78 dX6_figureOf_19 ?_
      refine lv_lload_n X.1 X.2.1 dX6_figureOf_22 rfl (lv_at hv 1 rfl) ?_
      refine lv_l2i (v := (x1).toInt32) X.1 X.2.1 dX6_figureOf_23 rfl ?_
      refine lv_iconst (v := 1) X.1 X.2.1 dX6_figureOf_24 (by decide) ?_
      refine lv_isub X.1 X.2.1 dX6_figureOf_25 ?_
      obtain ⟨j_3, e_4, b_5, h⟩ := h
      refine xw_qld X hk hw xe_41 (C := RX3) rfl e_4 b_5 (by decide) dX6_figureOf_26 ?_
      exact xt_q (xQ S 41 j_3) X hr hlocks hNN hw hl h dX6_figureOf_27
    · skip
      replace c_2 := fun q => c_2 ((lg_cmp_le _ _).mpr q)
      replace h := h.2 c_2
      refine lv_null X.1 X.2.1 dX6_figureOf_16 ?_
      exact xt_q none X hr hlocks hNN hw hl h dX6_figureOf_17
def v_X0_lift (x1 : Int32) (x2 : Int32) (S : xs_T) (K : Int32 → xs_T → Prop) : Prop := ∃ j_1 : Nat, x1 = nI j_1 ∧ j_1 < 10 ∧ ((xQ S 37 j_1 = none → K (1) S) ∧ (∀ u_5 : Nat, xQ S 37 j_1 = some u_5 → ∃ j_6 : Nat, x1 = nI j_6 ∧ j_6 < 10 ∧ oT S (xQ S 37 j_6) ∧ ((∀ u_10 : Nat, xQ S 37 j_6 = some u_10 → oR S u_10 → v_X5_isOfFigures (u_10) S (fun (r_14 : Int32) (S_13 : xs_T) => ((¬ r_14 = 0 → ∃ j_18 : Nat, x1 = nI j_18 ∧ j_18 < 10 ∧ v_X5_hasPlace (u_10) ((xI S_13 38 j_18)) S_13 (fun (r_22 : Int32) (S_21 : xs_T) => ((¬ r_22 = 0 → ∃ j_26 : Nat, x1 = nI j_26 ∧ j_26 < 10 ∧ ∃ j_29 : Nat, (xI S_21 38 j_26) = nI j_29 ∧ j_29 < xN S_21 (u_10 + 120) ∧ v_X6_figureOf ((xL S_21 (u_10 + 120) j_29)) S_21 (fun (r_33 : Option Nat) (S_32 : xs_T) => oT S_32 (r_33) ∧ ∃ j_37 : Nat, x2 = nI j_37 ∧ j_37 < 10 ∧ ∀ S_40 : xs_T, S_40 = sQ S_32 37 j_37 (r_33) → K (0) S_40)) ∧ (r_22 = 0 → K (3) S_21)))) ∧ (r_14 = 0 → K (2) S_13)))) ∧ (¬ iR S (xQ S 37 j_6) → K (2) S))))
set_option maxHeartbeats 4000000 in
set_option maxRecDepth 100000 in
theorem c_X0_lift (l : Launch) (Z : xz_T) (et : Nat → Nat) (S : xs_T) (x1 : Int32) (x2 : Int32) (K : Int32 → xs_T → Prop) (h : v_X0_lift x1 x2 S K) : Met l yX0_lift (wq yX0_lift cX0_lift 5 (some .int)) { frames := 1, cells := 0, slots := 0, locals := 22 } (xPc Z et S [.ref (et (33)), .int (x1), .int (x2)]) (xQi Z et S.2.2.2.2 K) 0 0 (fun q => Z.2.2.1 ≤ q) := by
  refine Met.ofW (cc := cX0_lift) (maxL := 5) (ret := (some .int)) (by decide +kernel) rfl ?_
  intro p e s m args below meth c s₁ B hml hv0
  obtain ⟨rfl, hk, hw⟩ := hv0
  have X : CallFix p m c cX0_lift 5 s _ (wq yX0_lift cX0_lift 5 (some .int)) RX0 := ⟨B.exec, B.bytes, hml, findClass_of_methodNamed B.named, atoms_spec (ws := (wq yX0_lift cX0_lift 5 (some .int))) B.pre⟩
  have hr := B.returns
  have hlocks := B.notSynchronized
  have hl : xl Z [] := fun _ h => by cases h
  have hNN : S.2.2.2.2 = S.2.2.2.2 := rfl
  have hv := lv_entry [.ref (et (33)), .int (x1), .int (x2)] (n := 5) (Nat.le_of_ble_eq_true rfl)
  rw [lg_entry_eq]
  generalize (lg_sl [.ref (et (33)), .int (x1), .int (x2)] ++ List.replicate (5 - (lg_sl [.ref (et (33)), .int (x1), .int (x2)]).length) Slot.unset).toArray = ls at hv ⊢
  replace hv : lv_has ls 5 [(0, .ref (et (33))), (1, .int (x1)), (2, .int (x2))] := hv
  unfold v_X0_lift at h
  refine lv_aload_n X.1 X.2.1 dX0_lift_0 rfl (lv_at hv 0 rfl) ?_
  refine xw_get X hk hw (i := 33) 0 xe_33 rfl tlX0 (by decide) rfl tw_96 dX0_lift_1 ?_
  refine lv_iload_n X.1 X.2.1 dX0_lift_4 rfl (lv_at hv 1 rfl) ?_
  obtain ⟨j_1, e_2, b_3, h⟩ := h
  refine xw_qld X hk hw xe_37 (C := RX7) rfl e_2 b_3 (by decide) dX0_lift_5 ?_
  refine xv_ifnonnull (tgt := 11) X.1 X.2.1 dX0_lift_6 (by decide) (fun u_5 c_4 => ?_) (fun c_4 => ?_)
  · skip
    replace h := h.2 u_5 c_4
    refine lv_aload_n X.1 X.2.1 dX0_lift_11 rfl (lv_at hv 0 rfl) ?_
    refine xw_get X hk hw (i := 33) 0 xe_33 rfl tlX0 (by decide) rfl tw_96 dX0_lift_12 ?_
    refine lv_iload_n X.1 X.2.1 dX0_lift_15 rfl (lv_at hv 1 rfl) ?_
    obtain ⟨j_6, e_7, b_8, h⟩ := h
    refine xw_qld X hk hw xe_37 (C := RX7) rfl e_7 b_8 (by decide) dX0_lift_16 ?_
    refine xv_astore (lv' := [(4, va_rf (Option.map et (xQ S 37 j_6))), (0, .ref (et (33))), (1, .int (x1)), (2, .int (x2))]) X.1 X.2.1 dX0_lift_17 hv (by decide) rfl (fun ls hv => ?_)
    refine xv_aload X.1 X.2.1 dX0_lift_19 (lv_at hv 0 rfl) ?_
    obtain ⟨o_9, h⟩ := h
    refine xw_instR X hk hw o_9 tw_241 dX0_lift_21 (fun u_10 c_11 o_12 => ?_) (fun c_11 => ?_)
    · skip
      replace h := h.1 u_10 c_11 o_12
      rw [c_11] at hv
      replace hv : lv_has ls 5 [(4, .ref (et (u_10))), (0, .ref (et (33))), (1, .int (x1)), (2, .int (x2))] := hv
      refine lv_if_eq (tgt := 40) X.1 X.2.1 dX0_lift_24 (by decide) (fun c => absurd c (by decide)) (fun _ => ?_)
      refine lv_aload X.1 X.2.1 dX0_lift_27 (lv_at hv 0 rfl) ?_
      refine xw_castR X hk hw o_12 tw_241 dX0_lift_29 ?_
      refine lv_astore_n (lv' := [(3, .ref (et (u_10))), (4, .ref (et (u_10))), (0, .ref (et (33))), (1, .int (x1)), (2, .int (x2))]) X.1 X.2.1 dX0_lift_32 rfl hv (by decide) rfl (fun ls hv => ?_)
      refine lv_aload_n X.1 X.2.1 dX0_lift_33 rfl (lv_at hv 0 rfl) ?_
      refine xc_i (xr_V (n := 0) (As := []) (i := u_10) X hk hw hv.1 (c_X5_isOfFigures l Z et S (u_10) _ h) (tb_V tw_249 tw_258 tw_247 tw_248 tw_48) (xE_row o_12) rfl rfl rfl rfl (by decide +kernel) ⟨Nat.le_of_ble_eq_true rfl, Nat.le_of_ble_eq_true rfl⟩ rfl (Nat.le_of_ble_eq_true rfl) dX0_lift_34 ⟨Nat.le_of_ble_eq_true rfl, Nat.le_of_ble_eq_true rfl⟩) hl (fun r_14 S_13 H locs h hN hw hl => ?_)
      have o_15 := oT_N hN o_9
      have o_16 := oR_N hN o_12
      replace hNN := hN.trans hNN
      refine lv_if_ne (tgt := 42) X.1 X.2.1 dX0_lift_37 (by decide) (fun c_17 => ?_) (fun c_17 => ?_)
      · skip
        replace h := h.1 c_17
        refine lv_aload_n X.1 X.2.1 dX0_lift_42 rfl (lv_at hv 0 rfl) ?_
        refine lv_aload_n X.1 X.2.1 dX0_lift_43 rfl (lv_at hv 2 rfl) ?_
        refine xw_get X hk hw (i := 33) 1 xe_33 rfl tlX0 (by decide) rfl tw_98 dX0_lift_44 ?_
        refine lv_iload_n X.1 X.2.1 dX0_lift_47 rfl (lv_at hv 3 rfl) ?_
        obtain ⟨j_18, e_19, b_20, h⟩ := h
        refine xw_ild X hk hw xe_38 e_19 b_20 (by decide) dX0_lift_48 ?_
        refine xc_i (xr_V (n := 1) (As := [.int ((xI S_13 38 j_18))]) (i := u_10) X hk hw hv.1 (c_X5_hasPlace l Z et S_13 (u_10) ((xI S_13 38 j_18)) _ h) (tb_V tw_390 tw_387 tw_388 tw_389 tw_48) (xE_row o_16) rfl rfl rfl rfl (by decide +kernel) ⟨Nat.le_of_ble_eq_true rfl, Nat.le_of_ble_eq_true rfl⟩ rfl (Nat.le_of_ble_eq_true rfl) dX0_lift_49 ⟨Nat.le_of_ble_eq_true rfl, Nat.le_of_ble_eq_true rfl⟩) hl (fun r_22 S_21 H locs h hN hw hl => ?_)
        have o_23 := oT_N hN o_15
        have o_24 := oR_N hN o_16
        replace hNN := hN.trans hNN
        refine lv_if_ne (tgt := 57) X.1 X.2.1 dX0_lift_52 (by decide) (fun c_25 => ?_) (fun c_25 => ?_)
        · skip
          replace h := h.1 c_25
          refine lv_aload_n X.1 X.2.1 dX0_lift_57 rfl (lv_at hv 2 rfl) ?_
          refine xw_get X hk hw (i := 33) 0 xe_33 rfl tlX0 (by decide) rfl tw_96 dX0_lift_58 ?_
          refine lv_iload_n X.1 X.2.1 dX0_lift_61 rfl (lv_at hv 4 rfl) ?_
          refine lv_aload_n X.1 X.2.1 dX0_lift_62 rfl (lv_at hv 2 rfl) ?_
          refine xw_get X hk hw (i := 33) 3 xe_33 rfl tlX0 (by decide) rfl tw_101 dX0_lift_63 ?_
          refine lv_aload_n X.1 X.2.1 dX0_lift_66 rfl (lv_at hv 0 rfl) ?_
          refine xw_getN X hk hw (i := u_10) 1 (xE_row o_24) rfl tlX5 (by decide) rfl xn_19 dX0_lift_67 ?_
          refine lv_aload_n X.1 X.2.1 dX0_lift_70 rfl (lv_at hv 2 rfl) ?_
          refine xw_get X hk hw (i := 33) 1 xe_33 rfl tlX0 (by decide) rfl tw_98 dX0_lift_71 ?_
          refine lv_iload_n X.1 X.2.1 dX0_lift_74 rfl (lv_at hv 3 rfl) ?_
          obtain ⟨j_26, e_27, b_28, h⟩ := h
          refine xw_ild X hk hw xe_38 e_27 b_28 (by decide) dX0_lift_75 ?_
          obtain ⟨j_29, e_30, b_31, h⟩ := h
          refine xw_lld X hk hw (xE_arr o_24) e_30 b_31 (oR_lt o_24) dX0_lift_76 ?_
          refine xc_q (xr_V (n := 1) (As := [.long ((xL S_21 (u_10 + 120) j_29))]) (i := 40) X hk hw hv.1 (c_X6_figureOf l Z et S_21 ((xL S_21 (u_10 + 120) j_29)) _ h) (tb_V tw_266 tw_423 tw_264 tw_265 tw_41) xe_40 rfl rfl rfl rfl (by decide +kernel) ⟨Nat.le_of_ble_eq_true rfl, Nat.le_of_ble_eq_true rfl⟩ rfl (Nat.le_of_ble_eq_true rfl) dX0_lift_77 ⟨Nat.le_of_ble_eq_true rfl, Nat.le_of_ble_eq_true rfl⟩) hl (fun r_33 S_32 H locs h hN hw hl => ?_)
          have o_34 := oT_N hN o_23
          have o_35 := oR_N hN o_24
          replace hNN := hN.trans hNN
          obtain ⟨o_36, h⟩ := h
          obtain ⟨j_37, e_38, b_39, h⟩ := h
          refine xw_qst X hk hw hl (E := RX7) (r_33) (oS_T o_36) xe_37 rfl rfl e_38 b_39 (by decide) dX0_lift_80 (fun H locs hw hl => ?_)
          obtain ⟨S_40, e_41⟩ : ∃ T : xs_T, T = sQ S_32 37 j_37 (r_33) := ⟨_, rfl⟩
          rw [← e_41] at hw
          replace h := h S_40 e_41
          have hN : S_40.2.2.2.2 = S_32.2.2.2.2 := by rw [e_41]; rfl
          have o_42 := oT_N hN o_34
          have o_43 := oR_N hN o_35
          have o_44 := oT_N hN o_36
          replace hNN := hN.trans hNN
          refine lv_iconst (v := 0) X.1 X.2.1 dX0_lift_81 (by decide) ?_
          exact xt_i X hr hlocks hNN hw hl h dX0_lift_82
        · skip
          replace h := h.2 c_25
          refine lv_iconst (v := 3) X.1 X.2.1 dX0_lift_55 (by decide) ?_
          exact xt_i X hr hlocks hNN hw hl h dX0_lift_56
      · skip
        replace h := h.2 c_17
        refine lv_iconst (v := 2) X.1 X.2.1 dX0_lift_40 (by decide) ?_
        exact xt_i X hr hlocks hNN hw hl h dX0_lift_41
    · skip
      replace h := h.2 c_11
      refine lv_if_eq (tgt := 40) X.1 X.2.1 dX0_lift_24 (by decide) (fun _ => ?_) (fun c => absurd c (by decide))
      refine lv_iconst (v := 2) X.1 X.2.1 dX0_lift_40 (by decide) ?_
      exact xt_i X hr hlocks hNN hw hl h dX0_lift_41
  · skip
    replace h := h.1 c_4
    refine lv_iconst (v := 1) X.1 X.2.1 dX0_lift_9 (by decide) ?_
    exact xt_i X hr hlocks hNN hw hl h dX0_lift_10
def v_X6_hasRoomForRow (x1 : Int32) (S : xs_T) (K : Int32 → xs_T → Prop) : Prop := ((120 ≤ (xF S 40 2) → K (0) S) ∧ (¬ 120 ≤ (xF S 40 2) → ((64 < x1 → K (0) S) ∧ (¬ 64 < x1 → ((3000 < ((xF S 40 3) + x1) → K (0) S) ∧ (¬ 3000 < ((xF S 40 3) + x1) → K (1) S))))))
set_option maxHeartbeats 4000000 in
set_option maxRecDepth 100000 in
theorem c_X6_hasRoomForRow (l : Launch) (Z : xz_T) (et : Nat → Nat) (S : xs_T) (x1 : Int32) (K : Int32 → xs_T → Prop) (h : v_X6_hasRoomForRow x1 S K) : Met l yX6_hasRoomForRow (wq yX6_hasRoomForRow cX6_hasRoomForRow 2 (some .boolean)) { frames := 0, cells := 0, slots := 0, locals := 0 } (xPc Z et S [.ref (et (40)), .int (x1)]) (xQi Z et S.2.2.2.2 K) 0 0 (fun q => Z.2.2.1 ≤ q) := by
  refine Met.ofW (cc := cX6_hasRoomForRow) (maxL := 2) (ret := (some .boolean)) (by decide +kernel) rfl ?_
  intro p e s m args below meth c s₁ B hml hv0
  obtain ⟨rfl, hk, hw⟩ := hv0
  have X : CallFix p m c cX6_hasRoomForRow 2 s _ (wq yX6_hasRoomForRow cX6_hasRoomForRow 2 (some .boolean)) RX6 := ⟨B.exec, B.bytes, hml, findClass_of_methodNamed B.named, atoms_spec (ws := (wq yX6_hasRoomForRow cX6_hasRoomForRow 2 (some .boolean))) B.pre⟩
  have hr := B.returns
  have hlocks := B.notSynchronized
  have hl : xl Z [] := fun _ h => by cases h
  have hNN : S.2.2.2.2 = S.2.2.2.2 := rfl
  have hv := lv_entry [.ref (et (40)), .int (x1)] (n := 2) (Nat.le_of_ble_eq_true rfl)
  rw [lg_entry_eq]
  generalize (lg_sl [.ref (et (40)), .int (x1)] ++ List.replicate (2 - (lg_sl [.ref (et (40)), .int (x1)]).length) Slot.unset).toArray = ls at hv ⊢
  replace hv : lv_has ls 2 [(0, .ref (et (40))), (1, .int (x1))] := hv
  unfold v_X6_hasRoomForRow at h
  refine lv_aload_n X.1 X.2.1 dX6_hasRoomForRow_0 rfl (lv_at hv 0 rfl) ?_
  refine xw_get X hk hw (i := 40) 2 xe_40 rfl tlX6 (by decide) rfl tw_81 dX6_hasRoomForRow_1 ?_
  refine lv_bipush (v := 120) X.1 X.2.1 dX6_hasRoomForRow_4 (by decide) ?_
  refine lv_icmp_ge (tgt := 31) X.1 X.2.1 dX6_hasRoomForRow_6 (by decide) (fun c_1 => ?_) (fun c_1 => ?_)
  · skip
    replace h := h.1 c_1
    refine lv_iconst (v := 0) X.1 X.2.1 dX6_hasRoomForRow_31 (by decide) ?_
    exact xt_z X hr hlocks hNN hw hl (by decide) h dX6_hasRoomForRow_32
  · skip
    replace h := h.2 c_1
    refine lv_iload_n X.1 X.2.1 dX6_hasRoomForRow_9 rfl (lv_at hv 1 rfl) ?_
    refine lv_bipush (v := 64) X.1 X.2.1 dX6_hasRoomForRow_10 (by decide) ?_
    refine lv_icmp_gt (tgt := 31) X.1 X.2.1 dX6_hasRoomForRow_12 (by decide) (fun c_2 => ?_) (fun c_2 => ?_)
    · skip
      replace h := h.1 c_2
      refine lv_iconst (v := 0) X.1 X.2.1 dX6_hasRoomForRow_31 (by decide) ?_
      exact xt_z X hr hlocks hNN hw hl (by decide) h dX6_hasRoomForRow_32
    · skip
      replace h := h.2 c_2
      refine lv_aload_n X.1 X.2.1 dX6_hasRoomForRow_15 rfl (lv_at hv 0 rfl) ?_
      refine xw_get X hk hw (i := 40) 3 xe_40 rfl tlX6 (by decide) rfl tw_83 dX6_hasRoomForRow_16 ?_
      refine lv_iload_n X.1 X.2.1 dX6_hasRoomForRow_19 rfl (lv_at hv 1 rfl) ?_
      refine lv_iadd X.1 X.2.1 dX6_hasRoomForRow_20 ?_
      refine lv_sipush (v := 3000) X.1 X.2.1 dX6_hasRoomForRow_21 (by decide) ?_
      refine lv_icmp_gt (tgt := 31) X.1 X.2.1 dX6_hasRoomForRow_24 (by decide) (fun c_3 => ?_) (fun c_3 => ?_)
      · skip
        replace h := h.1 c_3
        refine lv_iconst (v := 0) X.1 X.2.1 dX6_hasRoomForRow_31 (by decide) ?_
        exact xt_z X hr hlocks hNN hw hl (by decide) h dX6_hasRoomForRow_32
      · skip
        replace h := h.2 c_3
        refine lv_iconst (v := 1) X.1 X.2.1 dX6_hasRoomForRow_27 (by decide) ?_
        refine lv_goto (tgt := 32) X.1 X.2.1 dX6_hasRoomForRow_28 (by decide) ?_
        exact xt_z X hr hlocks hNN hw hl (by decide) h dX6_hasRoomForRow_32
