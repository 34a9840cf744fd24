def v_X10_make (x1 : Int32) (x2 : Int32) (S : xs_T) (K : Int32 → xs_T → Prop) : Prop := ∃ j_1 : Nat, (xF S 0 0) = nI j_1 ∧ j_1 < 120 ∧ ∀ S_4 : xs_T, S_4 = sI S 1 j_1 (x1) → ∃ j_6 : Nat, (xF S_4 0 0) = nI j_6 ∧ j_6 < 120 ∧ ∀ S_9 : xs_T, S_9 = sI S_4 2 j_6 (x2) → ∃ j_11 : Nat, (xF S_9 0 0) = nI j_11 ∧ j_11 < 120 ∧ ∀ S_14 : xs_T, S_14 = sI S_9 3 j_11 ((xF S_9 0 4)) → ∀ S_16 : xs_T, S_16 = sF S_14 0 4 (((xF S_14 0 4) + x2)) → ∀ S_18 : xs_T, S_18 = sF S_16 0 0 (((xF S_16 0 0) + 1)) → K (((xF S_18 0 0) - 1)) S_18
set_option maxHeartbeats 4000000 in
set_option maxRecDepth 100000 in
theorem c_X10_make (l : Launch) (Z : xz_T) (et : Nat → Nat) (S : xs_T) (x1 : Int32) (x2 : Int32) (K : Int32 → xs_T → Prop) (h : v_X10_make x1 x2 S K) : Met l yX10_make (wq yX10_make cX10_make 3 (some .int)) { frames := 0, cells := 0, slots := 0, locals := 0 } (xPc Z et S [.ref (et (0)), .int (x1), .int (x2)]) (xQi Z et S.2.2.2.2 K) 0 0 (fun q => Z.2.2.1 ≤ q) := by
  refine Met.ofW (cc := cX10_make) (maxL := 3) (ret := (some .int)) (by decide +kernel) rfl ?_
  intro p e s m args below meth c s₁ B hml hv0
  obtain ⟨rfl, hk, hw⟩ := hv0
  have X : CallFix p m c cX10_make 3 s _ (wq yX10_make cX10_make 3 (some .int)) RX10 := ⟨B.exec, B.bytes, hml, findClass_of_methodNamed B.named, atoms_spec (ws := (wq yX10_make cX10_make 3 (some .int))) B.pre⟩
  have hr := B.returns
  have hlocks := B.notSynchronized
  have hl : xl Z [] := fun _ h => by cases h
  have hNN : S.2.2.2.2 = S.2.2.2.2 := rfl
  have hv := lv_entry [.ref (et (0)), .int (x1), .int (x2)] (n := 3) (Nat.le_of_ble_eq_true rfl)
  rw [lg_entry_eq]
  generalize (lg_sl [.ref (et (0)), .int (x1), .int (x2)] ++ List.replicate (3 - (lg_sl [.ref (et (0)), .int (x1), .int (x2)]).length) Slot.unset).toArray = ls at hv ⊢
  replace hv : lv_has ls 3 [(0, .ref (et (0))), (1, .int (x1)), (2, .int (x2))] := hv
  unfold v_X10_make at h
  refine lv_aload_n X.1 X.2.1 dX10_make_0 rfl (lv_at hv 0 rfl) ?_
  refine xw_get X hk hw (i := 0) 1 xe_0 rfl tlX10 (by decide) rfl tw_520 dX10_make_1 ?_
  refine lv_aload_n X.1 X.2.1 dX10_make_4 rfl (lv_at hv 0 rfl) ?_
  refine xw_get X hk hw (i := 0) 0 xe_0 rfl tlX10 (by decide) rfl tw_519 dX10_make_5 ?_
  refine lv_iload_n X.1 X.2.1 dX10_make_8 rfl (lv_at hv 1 rfl) ?_
  obtain ⟨j_1, e_2, b_3, h⟩ := h
  refine xw_ist X hk hw hl xe_1 rfl e_2 b_3 (by decide) dX10_make_9 (fun H locs hw hl => ?_)
  obtain ⟨S_4, e_5⟩ : ∃ T : xs_T, T = sI S 1 j_1 (x1) := ⟨_, rfl⟩
  rw [← e_5] at hw
  replace h := h S_4 e_5
  have hN : S_4.2.2.2.2 = S.2.2.2.2 := by rw [e_5]; rfl
  replace hNN := hN.trans hNN
  refine lv_aload_n X.1 X.2.1 dX10_make_10 rfl (lv_at hv 0 rfl) ?_
  refine xw_get X hk hw (i := 0) 2 xe_0 rfl tlX10 (by decide) rfl tw_521 dX10_make_11 ?_
  refine lv_aload_n X.1 X.2.1 dX10_make_14 rfl (lv_at hv 0 rfl) ?_
  refine xw_get X hk hw (i := 0) 0 xe_0 rfl tlX10 (by decide) rfl tw_519 dX10_make_15 ?_
  refine lv_iload_n X.1 X.2.1 dX10_make_18 rfl (lv_at hv 2 rfl) ?_
  obtain ⟨j_6, e_7, b_8, h⟩ := h
  refine xw_ist X hk hw hl xe_2 rfl e_7 b_8 (by decide) dX10_make_19 (fun H locs hw hl => ?_)
  obtain ⟨S_9, e_10⟩ : ∃ T : xs_T, T = sI S_4 2 j_6 (x2) := ⟨_, rfl⟩
  rw [← e_10] at hw
  replace h := h S_9 e_10
  have hN : S_9.2.2.2.2 = S_4.2.2.2.2 := by rw [e_10]; rfl
  replace hNN := hN.trans hNN
  refine lv_aload_n X.1 X.2.1 dX10_make_20 rfl (lv_at hv 0 rfl) ?_
  refine xw_get X hk hw (i := 0) 3 xe_0 rfl tlX10 (by decide) rfl tw_522 dX10_make_21 ?_
  refine lv_aload_n X.1 X.2.1 dX10_make_24 rfl (lv_at hv 0 rfl) ?_
  refine xw_get X hk hw (i := 0) 0 xe_0 rfl tlX10 (by decide) rfl tw_519 dX10_make_25 ?_
  refine lv_aload_n X.1 X.2.1 dX10_make_28 rfl (lv_at hv 0 rfl) ?_
  refine xw_get X hk hw (i := 0) 4 xe_0 rfl tlX10 (by decide) rfl tw_523 dX10_make_29 ?_
  obtain ⟨j_11, e_12, b_13, h⟩ := h
  refine xw_ist X hk hw hl xe_3 rfl e_12 b_13 (by decide) dX10_make_32 (fun H locs hw hl => ?_)
  obtain ⟨S_14, e_15⟩ : ∃ T : xs_T, T = sI S_9 3 j_11 ((xF S_9 0 4)) := ⟨_, rfl⟩
  rw [← e_15] at hw
  replace h := h S_14 e_15
  have hN : S_14.2.2.2.2 = S_9.2.2.2.2 := by rw [e_15]; rfl
  replace hNN := hN.trans hNN
  refine lv_aload_n X.1 X.2.1 dX10_make_33 rfl (lv_at hv 0 rfl) ?_
  refine lv_dup X.1 X.2.1 dX10_make_34 rfl ?_
  refine xw_get X hk hw (i := 0) 4 xe_0 rfl tlX10 (by decide) rfl tw_523 dX10_make_35 ?_
  refine lv_iload_n X.1 X.2.1 dX10_make_38 rfl (lv_at hv 2 rfl) ?_
  refine lv_iadd X.1 X.2.1 dX10_make_39 ?_
  refine xw_put X hk hw hl (i := 0) 4 xe_0 rfl rfl tlX10 tyX10 tyX10_ok nmX10 (by decide) tw_523 rfl rfl (Nat.le_of_ble_eq_true rfl) dX10_make_40 (fun H locs hw hl => ?_)
  obtain ⟨S_16, e_17⟩ : ∃ T : xs_T, T = sF S_14 0 4 (((xF S_14 0 4) + x2)) := ⟨_, rfl⟩
  rw [← e_17] at hw
  replace h := h S_16 e_17
  have hN : S_16.2.2.2.2 = S_14.2.2.2.2 := by rw [e_17]; rfl
  replace hNN := hN.trans hNN
  refine lv_aload_n X.1 X.2.1 dX10_make_43 rfl (lv_at hv 0 rfl) ?_
  refine lv_dup X.1 X.2.1 dX10_make_44 rfl ?_
  refine xw_get X hk hw (i := 0) 0 xe_0 rfl tlX10 (by decide) rfl tw_519 dX10_make_45 ?_
  refine lv_iconst (v := 1) X.1 X.2.1 dX10_make_48 (by decide) ?_
  refine lv_iadd X.1 X.2.1 dX10_make_49 ?_
  refine xw_put X hk hw hl (i := 0) 0 xe_0 rfl rfl tlX10 tyX10 tyX10_ok nmX10 (by decide) tw_519 rfl rfl (Nat.le_of_ble_eq_true rfl) dX10_make_50 (fun H locs hw hl => ?_)
  obtain ⟨S_18, e_19⟩ : ∃ T : xs_T, T = sF S_16 0 0 (((xF S_16 0 0) + 1)) := ⟨_, rfl⟩
  rw [← e_19] at hw
  replace h := h S_18 e_19
  have hN : S_18.2.2.2.2 = S_16.2.2.2.2 := by rw [e_19]; rfl
  replace hNN := hN.trans hNN
  refine lv_aload_n X.1 X.2.1 dX10_make_53 rfl (lv_at hv 0 rfl) ?_
  refine xw_get X hk hw (i := 0) 0 xe_0 rfl tlX10 (by decide) rfl tw_519 dX10_make_54 ?_
  refine lv_iconst (v := 1) X.1 X.2.1 dX10_make_57 (by decide) ?_
  refine lv_isub X.1 X.2.1 dX10_make_58 ?_
  exact xt_i X hr hlocks hNN hw hl h dX10_make_59
def v_X10_roomFor (x1 : Int32) (S : xs_T) (K : Int32 → xs_T → Prop) : Prop := ((120 ≤ (xF S 0 0) → K (0) S) ∧ (¬ 120 ≤ (xF S 0 0) → ((64 < x1 → K (0) S) ∧ (¬ 64 < x1 → ((3000 < ((xF S 0 4) + x1) → K (0) S) ∧ (¬ 3000 < ((xF S 0 4) + x1) → K (1) S))))))
set_option maxHeartbeats 4000000 in
set_option maxRecDepth 100000 in
theorem c_X10_roomFor (l : Launch) (Z : xz_T) (et : Nat → Nat) (S : xs_T) (x1 : Int32) (K : Int32 → xs_T → Prop) (h : v_X10_roomFor x1 S K) : Met l yX10_roomFor (wq yX10_roomFor cX10_roomFor 2 (some .boolean)) { frames := 0, cells := 0, slots := 0, locals := 0 } (xPc Z et S [.ref (et (0)), .int (x1)]) (xQi Z et S.2.2.2.2 K) 0 0 (fun q => Z.2.2.1 ≤ q) := by
  refine Met.ofW (cc := cX10_roomFor) (maxL := 2) (ret := (some .boolean)) (by decide +kernel) rfl ?_
  intro p e s m args below meth c s₁ B hml hv0
  obtain ⟨rfl, hk, hw⟩ := hv0
  have X : CallFix p m c cX10_roomFor 2 s _ (wq yX10_roomFor cX10_roomFor 2 (some .boolean)) RX10 := ⟨B.exec, B.bytes, hml, findClass_of_methodNamed B.named, atoms_spec (ws := (wq yX10_roomFor cX10_roomFor 2 (some .boolean))) B.pre⟩
  have hr := B.returns
  have hlocks := B.notSynchronized
  have hl : xl Z [] := fun _ h => by cases h
  have hNN : S.2.2.2.2 = S.2.2.2.2 := rfl
  have hv := lv_entry [.ref (et (0)), .int (x1)] (n := 2) (Nat.le_of_ble_eq_true rfl)
  rw [lg_entry_eq]
  generalize (lg_sl [.ref (et (0)), .int (x1)] ++ List.replicate (2 - (lg_sl [.ref (et (0)), .int (x1)]).length) Slot.unset).toArray = ls at hv ⊢
  replace hv : lv_has ls 2 [(0, .ref (et (0))), (1, .int (x1))] := hv
  unfold v_X10_roomFor at h
  refine lv_aload_n X.1 X.2.1 dX10_roomFor_0 rfl (lv_at hv 0 rfl) ?_
  refine xw_get X hk hw (i := 0) 0 xe_0 rfl tlX10 (by decide) rfl tw_519 dX10_roomFor_1 ?_
  refine lv_bipush (v := 120) X.1 X.2.1 dX10_roomFor_4 (by decide) ?_
  refine lv_icmp_ge (tgt := 31) X.1 X.2.1 dX10_roomFor_6 (by decide) (fun c_1 => ?_) (fun c_1 => ?_)
  · skip
    replace h := h.1 c_1
    refine lv_iconst (v := 0) X.1 X.2.1 dX10_roomFor_31 (by decide) ?_
    exact xt_z X hr hlocks hNN hw hl (by decide) h dX10_roomFor_32
  · skip
    replace h := h.2 c_1
    refine lv_iload_n X.1 X.2.1 dX10_roomFor_9 rfl (lv_at hv 1 rfl) ?_
    refine lv_bipush (v := 64) X.1 X.2.1 dX10_roomFor_10 (by decide) ?_
    refine lv_icmp_gt (tgt := 31) X.1 X.2.1 dX10_roomFor_12 (by decide) (fun c_2 => ?_) (fun c_2 => ?_)
    · skip
      replace h := h.1 c_2
      refine lv_iconst (v := 0) X.1 X.2.1 dX10_roomFor_31 (by decide) ?_
      exact xt_z X hr hlocks hNN hw hl (by decide) h dX10_roomFor_32
    · skip
      replace h := h.2 c_2
      refine lv_aload_n X.1 X.2.1 dX10_roomFor_15 rfl (lv_at hv 0 rfl) ?_
      refine xw_get X hk hw (i := 0) 4 xe_0 rfl tlX10 (by decide) rfl tw_523 dX10_roomFor_16 ?_
      refine lv_iload_n X.1 X.2.1 dX10_roomFor_19 rfl (lv_at hv 1 rfl) ?_
      refine lv_iadd X.1 X.2.1 dX10_roomFor_20 ?_
      refine lv_sipush (v := 3000) X.1 X.2.1 dX10_roomFor_21 (by decide) ?_
      refine lv_icmp_gt (tgt := 31) X.1 X.2.1 dX10_roomFor_24 (by decide) (fun c_3 => ?_) (fun c_3 => ?_)
      · skip
        replace h := h.1 c_3
        refine lv_iconst (v := 0) X.1 X.2.1 dX10_roomFor_31 (by decide) ?_
        exact xt_z X hr hlocks hNN hw hl (by decide) h dX10_roomFor_32
      · skip
        replace h := h.2 c_3
        refine lv_iconst (v := 1) X.1 X.2.1 dX10_roomFor_27 (by decide) ?_
        refine lv_goto (tgt := 32) X.1 X.2.1 dX10_roomFor_28 (by decide) ?_
        exact xt_z X hr hlocks hNN hw hl (by decide) h dX10_roomFor_32
def v_X10_makeOn (x1 : Int32) (x2 : Int32) (x3 : Int32) (S : xs_T) (K : Int32 → xs_T → Prop) : Prop := ((0 ≤ x3 → v_X10_roomFor (x3) S (fun (r_3 : Int32) (S_2 : xs_T) => ((¬ r_3 = 0 → v_X10_make (x2) (x3) S_2 (fun (r_6 : Int32) (S_5 : xs_T) => v_X10_hold (x1) (1) (r_6) S_5 (fun (S_7 : xs_T) => K (0) S_7))) ∧ (r_3 = 0 → K (4) S_2)))) ∧ (¬ 0 ≤ x3 → K (5) S))
set_option maxHeartbeats 4000000 in
set_option maxRecDepth 100000 in
theorem c_X10_makeOn (l : Launch) (Z : xz_T) (et : Nat → Nat) (S : xs_T) (x1 : Int32) (x2 : Int32) (x3 : Int32) (K : Int32 → xs_T → Prop) (h : v_X10_makeOn x1 x2 x3 S K) : Met l yX10_makeOn (wq yX10_makeOn cX10_makeOn 4 (some .int)) { frames := 1, cells := 0, slots := 0, locals := 23 } (xPc Z et S [.ref (et (0)), .int (x1), .int (x2), .int (x3)]) (xQi Z et S.2.2.2.2 K) 0 0 (fun q => Z.2.2.1 ≤ q) := by
  refine Met.ofW (cc := cX10_makeOn) (maxL := 4) (ret := (some .int)) (by decide +kernel) rfl ?_
  intro p e s m args below meth c s₁ B hml hv0
  obtain ⟨rfl, hk, hw⟩ := hv0
  have X : CallFix p m c cX10_makeOn 4 s _ (wq yX10_makeOn cX10_makeOn 4 (some .int)) RX10 := ⟨B.exec, B.bytes, hml, findClass_of_methodNamed B.named, atoms_spec (ws := (wq yX10_makeOn cX10_makeOn 4 (some .int))) B.pre⟩
  have hr := B.returns
  have hlocks := B.notSynchronized
  have hl : xl Z [] := fun _ h => by cases h
  have hNN : S.2.2.2.2 = S.2.2.2.2 := rfl
  have hv := lv_entry [.ref (et (0)), .int (x1), .int (x2), .int (x3)] (n := 4) (Nat.le_of_ble_eq_true rfl)
  rw [lg_entry_eq]
  generalize (lg_sl [.ref (et (0)), .int (x1), .int (x2), .int (x3)] ++ List.replicate (4 - (lg_sl [.ref (et (0)), .int (x1), .int (x2), .int (x3)]).length) Slot.unset).toArray = ls at hv ⊢
  replace hv : lv_has ls 4 [(0, .ref (et (0))), (1, .int (x1)), (2, .int (x2)), (3, .int (x3))] := hv
  unfold v_X10_makeOn at h
  refine lv_iload_n X.1 X.2.1 dX10_makeOn_0 rfl (lv_at hv 3 rfl) ?_
  refine lv_if_ge (tgt := 6) X.1 X.2.1 dX10_makeOn_1 (by decide) (fun c_1 => ?_) (fun c_1 => ?_)
  · skip
    replace h := h.1 c_1
    refine lv_aload_n X.1 X.2.1 dX10_makeOn_6 rfl (lv_at hv 0 rfl) ?_
    refine lv_iload_n X.1 X.2.1 dX10_makeOn_7 rfl (lv_at hv 3 rfl) ?_
    refine xc_i (xr_V (n := 1) (As := [.int (x3)]) (i := 0) X hk hw hv.1 (c_X10_roomFor l Z et S (x3) _ h) (tb_V tw_657 tw_654 tw_656 tw_25 tw_44) xe_0 rfl rfl rfl rfl (by decide +kernel) ⟨Nat.le_of_ble_eq_true rfl, Nat.le_of_ble_eq_true rfl⟩ rfl (Nat.le_of_ble_eq_true rfl) dX10_makeOn_8 ⟨Nat.le_of_ble_eq_true rfl, Nat.le_of_ble_eq_true rfl⟩) hl (fun r_3 S_2 H locs h hN hw hl => ?_)
    replace hNN := hN.trans hNN
    refine lv_if_ne (tgt := 16) X.1 X.2.1 dX10_makeOn_11 (by decide) (fun c_4 => ?_) (fun c_4 => ?_)
    · skip
      replace h := h.1 c_4
      refine lv_aload_n X.1 X.2.1 dX10_makeOn_16 rfl (lv_at hv 0 rfl) ?_
      refine lv_iload_n X.1 X.2.1 dX10_makeOn_17 rfl (lv_at hv 1 rfl) ?_
      refine lv_iconst (v := 1) X.1 X.2.1 dX10_makeOn_18 (by decide) ?_
      refine lv_aload_n X.1 X.2.1 dX10_makeOn_19 rfl (lv_at hv 0 rfl) ?_
      refine lv_iload_n X.1 X.2.1 dX10_makeOn_20 rfl (lv_at hv 2 rfl) ?_
      refine lv_iload_n X.1 X.2.1 dX10_makeOn_21 rfl (lv_at hv 3 rfl) ?_
      refine xc_i (xr_V (n := 2) (As := [.int (x2), .int (x3)]) (i := 0) X hk hw hv.1 (c_X10_make l Z et S_2 (x2) (x3) _ h) (tb_V tw_661 tw_658 tw_660 tw_26 tw_44) xe_0 rfl rfl rfl rfl (by decide +kernel) ⟨Nat.le_of_ble_eq_true rfl, Nat.le_of_ble_eq_true rfl⟩ rfl (Nat.le_of_ble_eq_true rfl) dX10_makeOn_22 ⟨Nat.le_of_ble_eq_true rfl, Nat.le_of_ble_eq_true rfl⟩) hl (fun r_6 S_5 H locs h hN hw hl => ?_)
      replace hNN := hN.trans hNN
      refine xc_v (xr_V (n := 3) (As := [.int (x1), .int (1), .int (r_6)]) (i := 0) X hk hw hv.1 (c_X10_hold l Z et S_5 (x1) (1) (r_6) _ h) (tb_V tw_665 tw_662 tw_664 tw_27 tw_44) xe_0 rfl rfl rfl rfl (by decide +kernel) ⟨Nat.le_of_ble_eq_true rfl, Nat.le_of_ble_eq_true rfl⟩ rfl (Nat.le_of_ble_eq_true rfl) dX10_makeOn_25 ⟨Nat.le_of_ble_eq_true rfl, Nat.le_of_ble_eq_true rfl⟩) hl (fun S_7 H locs h hN hw hl => ?_)
      replace hNN := hN.trans hNN
      refine lv_iconst (v := 0) X.1 X.2.1 dX10_makeOn_28 (by decide) ?_
      exact xt_i X hr hlocks hNN hw hl h dX10_makeOn_29
    · skip
      replace h := h.2 c_4
      refine lv_iconst (v := 4) X.1 X.2.1 dX10_makeOn_14 (by decide) ?_
      exact xt_i X hr hlocks hNN hw hl h dX10_makeOn_15
  · skip
    replace h := h.2 c_1
    refine lv_iconst (v := 5) X.1 X.2.1 dX10_makeOn_4 (by decide) ?_
    exact xt_i X hr hlocks hNN hw hl h dX10_makeOn_5
def v_X10_open_108 (K : Int32 → xs_T → Prop) : Nat → Int32 → Int32 → Int32 → Int32 → Int32 → Int32 → xs_T → Prop
  | 0, _, _, _, _, _, _, _ => False
  | n + 1, a2, a3, a4, a5, a6, a7, S => ((a6 ≤ a7 → K (0) S) ∧ (¬ a6 ≤ a7 → ((a3 = 0 → ((a3 = 0 → (((a7 - a2) < a5 → ∃ j_35 : Nat, a4 = nI j_35 ∧ j_35 < 120 ∧ ∃ j_38 : Nat, ((xI S 3 j_35) + a7) = nI j_38 ∧ j_38 < 3000 ∧ ∀ S_41 : xs_T, S_41 = sL S 5 j_38 (0) → v_X10_open_108 K n (a2) (a3) (a4) (a5) (a6) ((a7 + 1)) S_41) ∧ (¬ (a7 - a2) < a5 → ∃ j_43 : Nat, a4 = nI j_43 ∧ j_43 < 120 ∧ ∃ j_46 : Nat, (a7 - a2) = nI j_46 ∧ j_46 < 64 ∧ ∃ j_49 : Nat, ((xI S 3 j_43) + a7) = nI j_49 ∧ j_49 < 3000 ∧ ∀ S_52 : xs_T, S_52 = sL S 5 j_49 ((xL S 22 j_46)) → v_X10_open_108 K n (a2) (a3) (a4) (a5) (a6) ((a7 + 1)) S_52))) ∧ (¬ a3 = 0 → ((a6 ≤ (a7 - a2) → ∃ j_55 : Nat, a4 = nI j_55 ∧ j_55 < 120 ∧ ∃ j_58 : Nat, ((xI S 3 j_55) + a7) = nI j_58 ∧ j_58 < 3000 ∧ ∀ S_61 : xs_T, S_61 = sL S 5 j_58 (0) → v_X10_open_108 K n (a2) (a3) (a4) (a5) (a6) ((a7 + 1)) S_61) ∧ (¬ a6 ≤ (a7 - a2) → ∃ j_63 : Nat, a4 = nI j_63 ∧ j_63 < 120 ∧ ∃ j_66 : Nat, (a7 - a2) = nI j_66 ∧ j_66 < 64 ∧ ∃ j_69 : Nat, ((xI S 3 j_63) + a7) = nI j_69 ∧ j_69 < 3000 ∧ ∀ S_72 : xs_T, S_72 = sL S 5 j_69 ((xL S 22 j_66)) → v_X10_open_108 K n (a2) (a3) (a4) (a5) (a6) ((a7 + 1)) S_72))))) ∧ (¬ a3 = 0 → ((a3 = 0 → (((a7 + a2) < a5 → ∃ j_76 : Nat, a4 = nI j_76 ∧ j_76 < 120 ∧ ∃ j_79 : Nat, ((xI S 3 j_76) + a7) = nI j_79 ∧ j_79 < 3000 ∧ ∀ S_82 : xs_T, S_82 = sL S 5 j_79 (0) → v_X10_open_108 K n (a2) (a3) (a4) (a5) (a6) ((a7 + 1)) S_82) ∧ (¬ (a7 + a2) < a5 → ∃ j_84 : Nat, a4 = nI j_84 ∧ j_84 < 120 ∧ ∃ j_87 : Nat, (a7 + a2) = nI j_87 ∧ j_87 < 64 ∧ ∃ j_90 : Nat, ((xI S 3 j_84) + a7) = nI j_90 ∧ j_90 < 3000 ∧ ∀ S_93 : xs_T, S_93 = sL S 5 j_90 ((xL S 22 j_87)) → v_X10_open_108 K n (a2) (a3) (a4) (a5) (a6) ((a7 + 1)) S_93))) ∧ (¬ a3 = 0 → ((a6 ≤ (a7 + a2) → ∃ j_96 : Nat, a4 = nI j_96 ∧ j_96 < 120 ∧ ∃ j_99 : Nat, ((xI S 3 j_96) + a7) = nI j_99 ∧ j_99 < 3000 ∧ ∀ S_102 : xs_T, S_102 = sL S 5 j_99 (0) → v_X10_open_108 K n (a2) (a3) (a4) (a5) (a6) ((a7 + 1)) S_102) ∧ (¬ a6 ≤ (a7 + a2) → ∃ j_104 : Nat, a4 = nI j_104 ∧ j_104 < 120 ∧ ∃ j_107 : Nat, (a7 + a2) = nI j_107 ∧ j_107 < 64 ∧ ∃ j_110 : Nat, ((xI S 3 j_104) + a7) = nI j_110 ∧ j_110 < 3000 ∧ ∀ S_113 : xs_T, S_113 = sL S 5 j_110 ((xL S 22 j_107)) → v_X10_open_108 K n (a2) (a3) (a4) (a5) (a6) ((a7 + 1)) S_113))))))))
def v_X10_open_69 (K : Int32 → xs_T → Prop) : Nat → Int32 → Int32 → Int32 → Int32 → Int32 → Int32 → xs_T → Prop
  | 0, _, _, _, _, _, _, _ => False
  | n + 1, a2, a3, a4, a5, a6, a7, S => ((a6 ≤ a7 → ∃ n, v_X10_open_108 K n (a2) (a3) (a4) (a5) (a6) (a5) S) ∧ (¬ a6 ≤ a7 → ∃ j_20 : Nat, a4 = nI j_20 ∧ j_20 < 120 ∧ ∃ j_23 : Nat, ((xI S 3 j_20) + a7) = nI j_23 ∧ j_23 < 3000 ∧ ∃ j_26 : Nat, a7 = nI j_26 ∧ j_26 < 64 ∧ ∀ S_29 : xs_T, S_29 = sL S 22 j_26 ((xL S 5 j_23)) → v_X10_open_69 K n (a2) (a3) (a4) (a5) (a6) ((a7 + 1)) S_29))
def v_X10_open (x1 : Int32) (x2 : Int32) (x3 : Int32) (S : xs_T) (K : Int32 → xs_T → Prop) : Prop := ∃ j_1 : Nat, x1 = nI j_1 ∧ j_1 < 10 ∧ ((¬ (xI S 9 j_1) = 0 → v_X10_rowOn (x1) S (fun (r_6 : Int32) (S_5 : xs_T) => ((0 ≤ r_6 → ∃ j_8 : Nat, x1 = nI j_8 ∧ j_8 < 10 ∧ ∃ j_11 : Nat, r_6 = nI j_11 ∧ j_11 < 120 ∧ (((xI S_5 11 j_8) < 0 → K (3) S_5) ∧ (¬ (xI S_5 11 j_8) < 0 → ((x2 < 0 → K (3) S_5) ∧ (¬ x2 < 0 → (((((xI S_5 11 j_8)).toInt64 + (x2).toInt64) ≤ ((xI S_5 2 j_11)).toInt64 → ∃ n, v_X10_open_69 K n (x2) (x3) (r_6) ((xI S_5 11 j_8)) ((xI S_5 2 j_11)) (0) S_5) ∧ (¬ (((xI S_5 11 j_8)).toInt64 + (x2).toInt64) ≤ ((xI S_5 2 j_11)).toInt64 → K (3) S_5))))))) ∧ (¬ 0 ≤ r_6 → K (2) S_5)))) ∧ ((xI S 9 j_1) = 0 → K (1) S))
set_option maxHeartbeats 4000000 in
set_option maxRecDepth 100000 in
theorem j_X10_open_108 {l : Launch} {p : Program} {e : Env} {s : State} {m : MethodId} {args : Array Value} {below : List Frame} {meth : Method} {c : Code} {Z : xz_T} {et : Nat → Nat} {Nn : Nat → Nat} {K : Int32 → xs_T → Prop} (X : CallFix p m c cX10_open 10 s args (wq yX10_open cX10_open 10 (some .int)) RX10) (hk : xk Z s) (hr : meth.sig.returnType = (some .int)) (hlocks : meth.locks = false) : ∀ (n : Nat) (a2 : Int32) (a3 : Int32) (a4 : Int32) (a5 : Int32) (a6 : Int32) (a7 : Int32) (S : xs_T) (H : Heap) (locs : List Loc) (ls : Array Slot), v_X10_open_108 K n a2 a3 a4 a5 a6 a7 S → S.2.2.2.2 = Nn → wd Z et S H → xl Z locs → lv_has ls 10 [(0, .ref (et (0))), (2, .int (a2)), (3, .int (a3)), (4, .int (a4)), (5, .int (a5)), (6, .int (a6)), (7, .int (a7))] → W p l e (headSpec (wq yX10_open cX10_open 10 (some .int)) { frames := 1, cells := 0, slots := 0, locals := 21 }).room s m args below meth c H locs 0 0 (MQ below (xQi Z et Nn K) args s 0 0 (fun q => Z.2.2.1 ≤ q)) (F0 m 108 ls []) := by
  intro n
  induction n with
  | zero =>
    intro a2 a3 a4 a5 a6 a7 S H locs ls h hNN hw hl hv
    exact False.elim h
  | succ n ih =>
    intro a2 a3 a4 a5 a6 a7 S H locs ls h hNN hw hl hv
    rw [v_X10_open_108] at h
    refine lv_iload X.1 X.2.1 dX10_open_108 (lv_at hv 6 rfl) ?_
    refine lv_iload X.1 X.2.1 dX10_open_110 (lv_at hv 5 rfl) ?_
    refine lv_icmp_ge (tgt := 202) X.1 X.2.1 dX10_open_112 (by decide) (fun c_31 => ?_) (fun c_31 => ?_)
    · skip
      replace h := h.1 c_31
      refine lv_iconst (v := 0) X.1 X.2.1 dX10_open_202 (by decide) ?_
      exact xt_i X hr hlocks hNN hw hl h dX10_open_203
    · skip
      replace h := h.2 c_31
      refine lv_iload_n X.1 X.2.1 dX10_open_115 rfl (lv_at hv 2 rfl) ?_
      refine lv_if_eq (tgt := 126) X.1 X.2.1 dX10_open_116 (by decide) (fun c_32 => ?_) (fun c_32 => ?_)
      · skip
        replace h := h.1 c_32
        refine lv_iload X.1 X.2.1 dX10_open_126 (lv_at hv 6 rfl) ?_
        refine lv_iload_n X.1 X.2.1 dX10_open_128 rfl (lv_at hv 1 rfl) ?_
        refine lv_isub X.1 X.2.1 dX10_open_129 ?_
        refine lv_istore (lv' := [(8, .int ((a7 - a2))), (0, .ref (et (0))), (2, .int (a2)), (3, .int (a3)), (4, .int (a4)), (5, .int (a5)), (6, .int (a6)), (7, .int (a7))]) X.1 X.2.1 dX10_open_130 hv (by decide) rfl (fun ls hv => ?_)
        refine lv_iload_n X.1 X.2.1 dX10_open_132 rfl (lv_at hv 3 rfl) ?_
        refine lv_if_eq (tgt := 151) X.1 X.2.1 dX10_open_133 (by decide) (fun c_33 => ?_) (fun c_33 => ?_)
        · skip
          replace h := h.1 c_33
          refine lv_iload X.1 X.2.1 dX10_open_151 (lv_at hv 0 rfl) ?_
          refine lv_iload X.1 X.2.1 dX10_open_153 (lv_at hv 5 rfl) ?_
          refine lv_icmp_lt (tgt := 162) X.1 X.2.1 dX10_open_155 (by decide) (fun c_34 => ?_) (fun c_34 => ?_)
          · skip
            replace h := h.1 c_34
            refine lv_iconst (v := 0) X.1 X.2.1 dX10_open_162 (by decide) ?_
            refine lv_istore (lv' := [(9, .int (0)), (8, .int ((a7 - a2))), (0, .ref (et (0))), (2, .int (a2)), (3, .int (a3)), (4, .int (a4)), (5, .int (a5)), (6, .int (a6)), (7, .int (a7))]) X.1 X.2.1 dX10_open_163 hv (by decide) rfl (fun ls hv => ?_)
            refine lv_aload_n X.1 X.2.1 dX10_open_165 rfl (lv_at hv 2 rfl) ?_
            refine xw_get X hk hw (i := 0) 5 xe_0 rfl tlX10 (by decide) rfl tw_524 dX10_open_166 ?_
            refine lv_aload_n X.1 X.2.1 dX10_open_169 rfl (lv_at hv 2 rfl) ?_
            refine xw_get X hk hw (i := 0) 3 xe_0 rfl tlX10 (by decide) rfl tw_522 dX10_open_170 ?_
            refine lv_iload X.1 X.2.1 dX10_open_173 (lv_at hv 5 rfl) ?_
            obtain ⟨j_35, e_36, b_37, h⟩ := h
            refine xw_ild X hk hw xe_3 e_36 b_37 (by decide) dX10_open_175 ?_
            refine lv_iload X.1 X.2.1 dX10_open_176 (lv_at hv 8 rfl) ?_
            refine lv_iadd X.1 X.2.1 dX10_open_178 ?_
            refine lv_iload X.1 X.2.1 dX10_open_179 (lv_at hv 0 rfl) ?_
            refine lv_if_eq (tgt := 194) X.1 X.2.1 dX10_open_181 (by decide) (fun _ => ?_) (fun c => absurd c (by decide))
            refine lv_lconst (v := 0) X.1 X.2.1 dX10_open_194 rfl ?_
            obtain ⟨j_38, e_39, b_40, h⟩ := h
            refine xw_lst X hk hw hl xe_5 rfl e_39 b_40 (by decide) dX10_open_195 (fun H locs hw hl => ?_)
            obtain ⟨S_41, e_42⟩ : ∃ T : xs_T, T = sL S 5 j_38 (0) := ⟨_, rfl⟩
            rw [← e_42] at hw
            replace h := h S_41 e_42
            have hN : S_41.2.2.2.2 = S.2.2.2.2 := by rw [e_42]; rfl
            replace hNN := hN.trans hNN
            refine lv_iinc (v := (a7 + 1)) (lv' := [(7, .int ((a7 + 1))), (9, .int (0)), (8, .int ((a7 - a2))), (0, .ref (et (0))), (2, .int (a2)), (3, .int (a3)), (4, .int (a4)), (5, .int (a5)), (6, .int (a6))]) X.1 X.2.1 dX10_open_196 hv (k := 8) rfl rfl (by decide) rfl (fun ls hv => ?_)
            refine lv_goto (tgt := 108) X.1 X.2.1 dX10_open_199 (by decide) ?_
            exact ih (a2) (a3) (a4) (a5) (a6) ((a7 + 1)) S_41 _ _ _ h hNN hw hl (lv_sub hv [3, 4, 5, 6, 7, 8, 0] rfl)
          · skip
            replace h := h.2 c_34
            refine lv_iconst (v := 1) X.1 X.2.1 dX10_open_158 (by decide) ?_
            refine lv_goto (tgt := 163) X.1 X.2.1 dX10_open_159 (by decide) ?_
            refine lv_istore (lv' := [(9, .int (1)), (8, .int ((a7 - a2))), (0, .ref (et (0))), (2, .int (a2)), (3, .int (a3)), (4, .int (a4)), (5, .int (a5)), (6, .int (a6)), (7, .int (a7))]) X.1 X.2.1 dX10_open_163 hv (by decide) rfl (fun ls hv => ?_)
            refine lv_aload_n X.1 X.2.1 dX10_open_165 rfl (lv_at hv 2 rfl) ?_
            refine xw_get X hk hw (i := 0) 5 xe_0 rfl tlX10 (by decide) rfl tw_524 dX10_open_166 ?_
            refine lv_aload_n X.1 X.2.1 dX10_open_169 rfl (lv_at hv 2 rfl) ?_
            refine xw_get X hk hw (i := 0) 3 xe_0 rfl tlX10 (by decide) rfl tw_522 dX10_open_170 ?_
            refine lv_iload X.1 X.2.1 dX10_open_173 (lv_at hv 5 rfl) ?_
            obtain ⟨j_43, e_44, b_45, h⟩ := h
            refine xw_ild X hk hw xe_3 e_44 b_45 (by decide) dX10_open_175 ?_
            refine lv_iload X.1 X.2.1 dX10_open_176 (lv_at hv 8 rfl) ?_
            refine lv_iadd X.1 X.2.1 dX10_open_178 ?_
            refine lv_iload X.1 X.2.1 dX10_open_179 (lv_at hv 0 rfl) ?_
            refine lv_if_eq (tgt := 194) X.1 X.2.1 dX10_open_181 (by decide) (fun c => absurd c (by decide)) (fun _ => ?_)
            refine lv_aload_n X.1 X.2.1 dX10_open_184 rfl (lv_at hv 2 rfl) ?_
            refine xw_get X hk hw (i := 0) 22 xe_0 rfl tlX10 (by decide) rfl tw_541 dX10_open_185 ?_
            refine lv_iload X.1 X.2.1 dX10_open_188 (lv_at hv 1 rfl) ?_
            obtain ⟨j_46, e_47, b_48, h⟩ := h
            refine xw_lld X hk hw xe_22 e_47 b_48 (by decide) dX10_open_190 ?_
            refine lv_goto (tgt := 195) X.1 X.2.1 dX10_open_191 (by decide) ?_
            obtain ⟨j_49, e_50, b_51, h⟩ := h
            refine xw_lst X hk hw hl xe_5 rfl e_50 b_51 (by decide) dX10_open_195 (fun H locs hw hl => ?_)
            obtain ⟨S_52, e_53⟩ : ∃ T : xs_T, T = sL S 5 j_49 ((xL S 22 j_46)) := ⟨_, rfl⟩
            rw [← e_53] at hw
            replace h := h S_52 e_53
            have hN : S_52.2.2.2.2 = S.2.2.2.2 := by rw [e_53]; rfl
            replace hNN := hN.trans hNN
            refine lv_iinc (v := (a7 + 1)) (lv' := [(7, .int ((a7 + 1))), (9, .int (1)), (8, .int ((a7 - a2))), (0, .ref (et (0))), (2, .int (a2)), (3, .int (a3)), (4, .int (a4)), (5, .int (a5)), (6, .int (a6))]) X.1 X.2.1 dX10_open_196 hv (k := 8) rfl rfl (by decide) rfl (fun ls hv => ?_)
            refine lv_goto (tgt := 108) X.1 X.2.1 dX10_open_199 (by decide) ?_
            exact ih (a2) (a3) (a4) (a5) (a6) ((a7 + 1)) S_52 _ _ _ h hNN hw hl (lv_sub hv [3, 4, 5, 6, 7, 8, 0] rfl)
        · skip
          replace h := h.2 c_33
          refine lv_iload X.1 X.2.1 dX10_open_136 (lv_at hv 0 rfl) ?_
          refine lv_iload X.1 X.2.1 dX10_open_138 (lv_at hv 6 rfl) ?_
          refine lv_icmp_ge (tgt := 147) X.1 X.2.1 dX10_open_140 (by decide) (fun c_54 => ?_) (fun c_54 => ?_)
          · skip
            replace h := h.1 c_54
            refine lv_iconst (v := 0) X.1 X.2.1 dX10_open_147 (by decide) ?_
            refine lv_goto (tgt := 163) X.1 X.2.1 dX10_open_148 (by decide) ?_
            refine lv_istore (lv' := [(9, .int (0)), (8, .int ((a7 - a2))), (0, .ref (et (0))), (2, .int (a2)), (3, .int (a3)), (4, .int (a4)), (5, .int (a5)), (6, .int (a6)), (7, .int (a7))]) X.1 X.2.1 dX10_open_163 hv (by decide) rfl (fun ls hv => ?_)
            refine lv_aload_n X.1 X.2.1 dX10_open_165 rfl (lv_at hv 2 rfl) ?_
            refine xw_get X hk hw (i := 0) 5 xe_0 rfl tlX10 (by decide) rfl tw_524 dX10_open_166 ?_
            refine lv_aload_n X.1 X.2.1 dX10_open_169 rfl (lv_at hv 2 rfl) ?_
            refine xw_get X hk hw (i := 0) 3 xe_0 rfl tlX10 (by decide) rfl tw_522 dX10_open_170 ?_
            refine lv_iload X.1 X.2.1 dX10_open_173 (lv_at hv 5 rfl) ?_
            obtain ⟨j_55, e_56, b_57, h⟩ := h
            refine xw_ild X hk hw xe_3 e_56 b_57 (by decide) dX10_open_175 ?_
            refine lv_iload X.1 X.2.1 dX10_open_176 (lv_at hv 8 rfl) ?_
            refine lv_iadd X.1 X.2.1 dX10_open_178 ?_
            refine lv_iload X.1 X.2.1 dX10_open_179 (lv_at hv 0 rfl) ?_
            refine lv_if_eq (tgt := 194) X.1 X.2.1 dX10_open_181 (by decide) (fun _ => ?_) (fun c => absurd c (by decide))
            refine lv_lconst (v := 0) X.1 X.2.1 dX10_open_194 rfl ?_
            obtain ⟨j_58, e_59, b_60, h⟩ := h
            refine xw_lst X hk hw hl xe_5 rfl e_59 b_60 (by decide) dX10_open_195 (fun H locs hw hl => ?_)
            obtain ⟨S_61, e_62⟩ : ∃ T : xs_T, T = sL S 5 j_58 (0) := ⟨_, rfl⟩
            rw [← e_62] at hw
            replace h := h S_61 e_62
            have hN : S_61.2.2.2.2 = S.2.2.2.2 := by rw [e_62]; rfl
            replace hNN := hN.trans hNN
            refine lv_iinc (v := (a7 + 1)) (lv' := [(7, .int ((a7 + 1))), (9, .int (0)), (8, .int ((a7 - a2))), (0, .ref (et (0))), (2, .int (a2)), (3, .int (a3)), (4, .int (a4)), (5, .int (a5)), (6, .int (a6))]) X.1 X.2.1 dX10_open_196 hv (k := 8) rfl rfl (by decide) rfl (fun ls hv => ?_)
            refine lv_goto (tgt := 108) X.1 X.2.1 dX10_open_199 (by decide) ?_
            exact ih (a2) (a3) (a4) (a5) (a6) ((a7 + 1)) S_61 _ _ _ h hNN hw hl (lv_sub hv [3, 4, 5, 6, 7, 8, 0] rfl)
          · skip
            replace h := h.2 c_54
            refine lv_iconst (v := 1) X.1 X.2.1 dX10_open_143 (by decide) ?_
            refine lv_goto (tgt := 163) X.1 X.2.1 dX10_open_144 (by decide) ?_
            refine lv_istore (lv' := [(9, .int (1)), (8, .int ((a7 - a2))), (0, .ref (et (0))), (2, .int (a2)), (3, .int (a3)), (4, .int (a4)), (5, .int (a5)), (6, .int (a6)), (7, .int (a7))]) X.1 X.2.1 dX10_open_163 hv (by decide) rfl (fun ls hv => ?_)
            refine lv_aload_n X.1 X.2.1 dX10_open_165 rfl (lv_at hv 2 rfl) ?_
            refine xw_get X hk hw (i := 0) 5 xe_0 rfl tlX10 (by decide) rfl tw_524 dX10_open_166 ?_
            refine lv_aload_n X.1 X.2.1 dX10_open_169 rfl (lv_at hv 2 rfl) ?_
            refine xw_get X hk hw (i := 0) 3 xe_0 rfl tlX10 (by decide) rfl tw_522 dX10_open_170 ?_
            refine lv_iload X.1 X.2.1 dX10_open_173 (lv_at hv 5 rfl) ?_
            obtain ⟨j_63, e_64, b_65, h⟩ := h
            refine xw_ild X hk hw xe_3 e_64 b_65 (by decide) dX10_open_175 ?_
            refine lv_iload X.1 X.2.1 dX10_open_176 (lv_at hv 8 rfl) ?_
            refine lv_iadd X.1 X.2.1 dX10_open_178 ?_
            refine lv_iload X.1 X.2.1 dX10_open_179 (lv_at hv 0 rfl) ?_
            refine lv_if_eq (tgt := 194) X.1 X.2.1 dX10_open_181 (by decide) (fun c => absurd c (by decide)) (fun _ => ?_)
            refine lv_aload_n X.1 X.2.1 dX10_open_184 rfl (lv_at hv 2 rfl) ?_
            refine xw_get X hk hw (i := 0) 22 xe_0 rfl tlX10 (by decide) rfl tw_541 dX10_open_185 ?_
            refine lv_iload X.1 X.2.1 dX10_open_188 (lv_at hv 1 rfl) ?_
            obtain ⟨j_66, e_67, b_68, h⟩ := h
            refine xw_lld X hk hw xe_22 e_67 b_68 (by decide) dX10_open_190 ?_
            refine lv_goto (tgt := 195) X.1 X.2.1 dX10_open_191 (by decide) ?_
            obtain ⟨j_69, e_70, b_71, h⟩ := h
            refine xw_lst X hk hw hl xe_5 rfl e_70 b_71 (by decide) dX10_open_195 (fun H locs hw hl => ?_)
            obtain ⟨S_72, e_73⟩ : ∃ T : xs_T, T = sL S 5 j_69 ((xL S 22 j_66)) := ⟨_, rfl⟩
            rw [← e_73] at hw
            replace h := h S_72 e_73
            have hN : S_72.2.2.2.2 = S.2.2.2.2 := by rw [e_73]; rfl
            replace hNN := hN.trans hNN
            refine lv_iinc (v := (a7 + 1)) (lv' := [(7, .int ((a7 + 1))), (9, .int (1)), (8, .int ((a7 - a2))), (0, .ref (et (0))), (2, .int (a2)), (3, .int (a3)), (4, .int (a4)), (5, .int (a5)), (6, .int (a6))]) X.1 X.2.1 dX10_open_196 hv (k := 8) rfl rfl (by decide) rfl (fun ls hv => ?_)
            refine lv_goto (tgt := 108) X.1 X.2.1 dX10_open_199 (by decide) ?_
            exact ih (a2) (a3) (a4) (a5) (a6) ((a7 + 1)) S_72 _ _ _ h hNN hw hl (lv_sub hv [3, 4, 5, 6, 7, 8, 0] rfl)
      · skip
        replace h := h.2 c_32
        refine lv_iload X.1 X.2.1 dX10_open_119 (lv_at hv 6 rfl) ?_
        refine lv_iload_n X.1 X.2.1 dX10_open_121 rfl (lv_at hv 1 rfl) ?_
        refine lv_iadd X.1 X.2.1 dX10_open_122 ?_
        refine lv_goto (tgt := 130) X.1 X.2.1 dX10_open_123 (by decide) ?_
        refine lv_istore (lv' := [(8, .int ((a7 + a2))), (0, .ref (et (0))), (2, .int (a2)), (3, .int (a3)), (4, .int (a4)), (5, .int (a5)), (6, .int (a6)), (7, .int (a7))]) X.1 X.2.1 dX10_open_130 hv (by decide) rfl (fun ls hv => ?_)
        refine lv_iload_n X.1 X.2.1 dX10_open_132 rfl (lv_at hv 3 rfl) ?_
        refine lv_if_eq (tgt := 151) X.1 X.2.1 dX10_open_133 (by decide) (fun c_74 => ?_) (fun c_74 => ?_)
        · skip
          replace h := h.1 c_74
          refine lv_iload X.1 X.2.1 dX10_open_151 (lv_at hv 0 rfl) ?_
          refine lv_iload X.1 X.2.1 dX10_open_153 (lv_at hv 5 rfl) ?_
          refine lv_icmp_lt (tgt := 162) X.1 X.2.1 dX10_open_155 (by decide) (fun c_75 => ?_) (fun c_75 => ?_)
          · skip
            replace h := h.1 c_75
            refine lv_iconst (v := 0) X.1 X.2.1 dX10_open_162 (by decide) ?_
            refine lv_istore (lv' := [(9, .int (0)), (8, .int ((a7 + a2))), (0, .ref (et (0))), (2, .int (a2)), (3, .int (a3)), (4, .int (a4)), (5, .int (a5)), (6, .int (a6)), (7, .int (a7))]) X.1 X.2.1 dX10_open_163 hv (by decide) rfl (fun ls hv => ?_)
            refine lv_aload_n X.1 X.2.1 dX10_open_165 rfl (lv_at hv 2 rfl) ?_
            refine xw_get X hk hw (i := 0) 5 xe_0 rfl tlX10 (by decide) rfl tw_524 dX10_open_166 ?_
            refine lv_aload_n X.1 X.2.1 dX10_open_169 rfl (lv_at hv 2 rfl) ?_
            refine xw_get X hk hw (i := 0) 3 xe_0 rfl tlX10 (by decide) rfl tw_522 dX10_open_170 ?_
            refine lv_iload X.1 X.2.1 dX10_open_173 (lv_at hv 5 rfl) ?_
            obtain ⟨j_76, e_77, b_78, h⟩ := h
            refine xw_ild X hk hw xe_3 e_77 b_78 (by decide) dX10_open_175 ?_
            refine lv_iload X.1 X.2.1 dX10_open_176 (lv_at hv 8 rfl) ?_
            refine lv_iadd X.1 X.2.1 dX10_open_178 ?_
            refine lv_iload X.1 X.2.1 dX10_open_179 (lv_at hv 0 rfl) ?_
            refine lv_if_eq (tgt := 194) X.1 X.2.1 dX10_open_181 (by decide) (fun _ => ?_) (fun c => absurd c (by decide))
            refine lv_lconst (v := 0) X.1 X.2.1 dX10_open_194 rfl ?_
            obtain ⟨j_79, e_80, b_81, h⟩ := h
            refine xw_lst X hk hw hl xe_5 rfl e_80 b_81 (by decide) dX10_open_195 (fun H locs hw hl => ?_)
            obtain ⟨S_82, e_83⟩ : ∃ T : xs_T, T = sL S 5 j_79 (0) := ⟨_, rfl⟩
            rw [← e_83] at hw
            replace h := h S_82 e_83
            have hN : S_82.2.2.2.2 = S.2.2.2.2 := by rw [e_83]; rfl
            replace hNN := hN.trans hNN
            refine lv_iinc (v := (a7 + 1)) (lv' := [(7, .int ((a7 + 1))), (9, .int (0)), (8, .int ((a7 + a2))), (0, .ref (et (0))), (2, .int (a2)), (3, .int (a3)), (4, .int (a4)), (5, .int (a5)), (6, .int (a6))]) X.1 X.2.1 dX10_open_196 hv (k := 8) rfl rfl (by decide) rfl (fun ls hv => ?_)
            refine lv_goto (tgt := 108) X.1 X.2.1 dX10_open_199 (by decide) ?_
            exact ih (a2) (a3) (a4) (a5) (a6) ((a7 + 1)) S_82 _ _ _ h hNN hw hl (lv_sub hv [3, 4, 5, 6, 7, 8, 0] rfl)
          · skip
            replace h := h.2 c_75
            refine lv_iconst (v := 1) X.1 X.2.1 dX10_open_158 (by decide) ?_
            refine lv_goto (tgt := 163) X.1 X.2.1 dX10_open_159 (by decide) ?_
            refine lv_istore (lv' := [(9, .int (1)), (8, .int ((a7 + a2))), (0, .ref (et (0))), (2, .int (a2)), (3, .int (a3)), (4, .int (a4)), (5, .int (a5)), (6, .int (a6)), (7, .int (a7))]) X.1 X.2.1 dX10_open_163 hv (by decide) rfl (fun ls hv => ?_)
            refine lv_aload_n X.1 X.2.1 dX10_open_165 rfl (lv_at hv 2 rfl) ?_
            refine xw_get X hk hw (i := 0) 5 xe_0 rfl tlX10 (by decide) rfl tw_524 dX10_open_166 ?_
            refine lv_aload_n X.1 X.2.1 dX10_open_169 rfl (lv_at hv 2 rfl) ?_
            refine xw_get X hk hw (i := 0) 3 xe_0 rfl tlX10 (by decide) rfl tw_522 dX10_open_170 ?_
            refine lv_iload X.1 X.2.1 dX10_open_173 (lv_at hv 5 rfl) ?_
            obtain ⟨j_84, e_85, b_86, h⟩ := h
            refine xw_ild X hk hw xe_3 e_85 b_86 (by decide) dX10_open_175 ?_
            refine lv_iload X.1 X.2.1 dX10_open_176 (lv_at hv 8 rfl) ?_
            refine lv_iadd X.1 X.2.1 dX10_open_178 ?_
            refine lv_iload X.1 X.2.1 dX10_open_179 (lv_at hv 0 rfl) ?_
            refine lv_if_eq (tgt := 194) X.1 X.2.1 dX10_open_181 (by decide) (fun c => absurd c (by decide)) (fun _ => ?_)
            refine lv_aload_n X.1 X.2.1 dX10_open_184 rfl (lv_at hv 2 rfl) ?_
            refine xw_get X hk hw (i := 0) 22 xe_0 rfl tlX10 (by decide) rfl tw_541 dX10_open_185 ?_
            refine lv_iload X.1 X.2.1 dX10_open_188 (lv_at hv 1 rfl) ?_
            obtain ⟨j_87, e_88, b_89, h⟩ := h
            refine xw_lld X hk hw xe_22 e_88 b_89 (by decide) dX10_open_190 ?_
            refine lv_goto (tgt := 195) X.1 X.2.1 dX10_open_191 (by decide) ?_
            obtain ⟨j_90, e_91, b_92, h⟩ := h
            refine xw_lst X hk hw hl xe_5 rfl e_91 b_92 (by decide) dX10_open_195 (fun H locs hw hl => ?_)
            obtain ⟨S_93, e_94⟩ : ∃ T : xs_T, T = sL S 5 j_90 ((xL S 22 j_87)) := ⟨_, rfl⟩
            rw [← e_94] at hw
            replace h := h S_93 e_94
            have hN : S_93.2.2.2.2 = S.2.2.2.2 := by rw [e_94]; rfl
            replace hNN := hN.trans hNN
            refine lv_iinc (v := (a7 + 1)) (lv' := [(7, .int ((a7 + 1))), (9, .int (1)), (8, .int ((a7 + a2))), (0, .ref (et (0))), (2, .int (a2)), (3, .int (a3)), (4, .int (a4)), (5, .int (a5)), (6, .int (a6))]) X.1 X.2.1 dX10_open_196 hv (k := 8) rfl rfl (by decide) rfl (fun ls hv => ?_)
            refine lv_goto (tgt := 108) X.1 X.2.1 dX10_open_199 (by decide) ?_
            exact ih (a2) (a3) (a4) (a5) (a6) ((a7 + 1)) S_93 _ _ _ h hNN hw hl (lv_sub hv [3, 4, 5, 6, 7, 8, 0] rfl)
        · skip
          replace h := h.2 c_74
          refine lv_iload X.1 X.2.1 dX10_open_136 (lv_at hv 0 rfl) ?_
          refine lv_iload X.1 X.2.1 dX10_open_138 (lv_at hv 6 rfl) ?_
          refine lv_icmp_ge (tgt := 147) X.1 X.2.1 dX10_open_140 (by decide) (fun c_95 => ?_) (fun c_95 => ?_)
          · skip
            replace h := h.1 c_95
            refine lv_iconst (v := 0) X.1 X.2.1 dX10_open_147 (by decide) ?_
            refine lv_goto (tgt := 163) X.1 X.2.1 dX10_open_148 (by decide) ?_
            refine lv_istore (lv' := [(9, .int (0)), (8, .int ((a7 + a2))), (0, .ref (et (0))), (2, .int (a2)), (3, .int (a3)), (4, .int (a4)), (5, .int (a5)), (6, .int (a6)), (7, .int (a7))]) X.1 X.2.1 dX10_open_163 hv (by decide) rfl (fun ls hv => ?_)
            refine lv_aload_n X.1 X.2.1 dX10_open_165 rfl (lv_at hv 2 rfl) ?_
            refine xw_get X hk hw (i := 0) 5 xe_0 rfl tlX10 (by decide) rfl tw_524 dX10_open_166 ?_
            refine lv_aload_n X.1 X.2.1 dX10_open_169 rfl (lv_at hv 2 rfl) ?_
            refine xw_get X hk hw (i := 0) 3 xe_0 rfl tlX10 (by decide) rfl tw_522 dX10_open_170 ?_
            refine lv_iload X.1 X.2.1 dX10_open_173 (lv_at hv 5 rfl) ?_
            obtain ⟨j_96, e_97, b_98, h⟩ := h
            refine xw_ild X hk hw xe_3 e_97 b_98 (by decide) dX10_open_175 ?_
            refine lv_iload X.1 X.2.1 dX10_open_176 (lv_at hv 8 rfl) ?_
            refine lv_iadd X.1 X.2.1 dX10_open_178 ?_
            refine lv_iload X.1 X.2.1 dX10_open_179 (lv_at hv 0 rfl) ?_
            refine lv_if_eq (tgt := 194) X.1 X.2.1 dX10_open_181 (by decide) (fun _ => ?_) (fun c => absurd c (by decide))
            refine lv_lconst (v := 0) X.1 X.2.1 dX10_open_194 rfl ?_
            obtain ⟨j_99, e_100, b_101, h⟩ := h
            refine xw_lst X hk hw hl xe_5 rfl e_100 b_101 (by decide) dX10_open_195 (fun H locs hw hl => ?_)
            obtain ⟨S_102, e_103⟩ : ∃ T : xs_T, T = sL S 5 j_99 (0) := ⟨_, rfl⟩
            rw [← e_103] at hw
            replace h := h S_102 e_103
            have hN : S_102.2.2.2.2 = S.2.2.2.2 := by rw [e_103]; rfl
            replace hNN := hN.trans hNN
            refine lv_iinc (v := (a7 + 1)) (lv' := [(7, .int ((a7 + 1))), (9, .int (0)), (8, .int ((a7 + a2))), (0, .ref (et (0))), (2, .int (a2)), (3, .int (a3)), (4, .int (a4)), (5, .int (a5)), (6, .int (a6))]) X.1 X.2.1 dX10_open_196 hv (k := 8) rfl rfl (by decide) rfl (fun ls hv => ?_)
            refine lv_goto (tgt := 108) X.1 X.2.1 dX10_open_199 (by decide) ?_
            exact ih (a2) (a3) (a4) (a5) (a6) ((a7 + 1)) S_102 _ _ _ h hNN hw hl (lv_sub hv [3, 4, 5, 6, 7, 8, 0] rfl)
          · skip
            replace h := h.2 c_95
            refine lv_iconst (v := 1) X.1 X.2.1 dX10_open_143 (by decide) ?_
            refine lv_goto (tgt := 163) X.1 X.2.1 dX10_open_144 (by decide) ?_
            refine lv_istore (lv' := [(9, .int (1)), (8, .int ((a7 + a2))), (0, .ref (et (0))), (2, .int (a2)), (3, .int (a3)), (4, .int (a4)), (5, .int (a5)), (6, .int (a6)), (7, .int (a7))]) X.1 X.2.1 dX10_open_163 hv (by decide) rfl (fun ls hv => ?_)
            refine lv_aload_n X.1 X.2.1 dX10_open_165 rfl (lv_at hv 2 rfl) ?_
            refine xw_get X hk hw (i := 0) 5 xe_0 rfl tlX10 (by decide) rfl tw_524 dX10_open_166 ?_
            refine lv_aload_n X.1 X.2.1 dX10_open_169 rfl (lv_at hv 2 rfl) ?_
            refine xw_get X hk hw (i := 0) 3 xe_0 rfl tlX10 (by decide) rfl tw_522 dX10_open_170 ?_
            refine lv_iload X.1 X.2.1 dX10_open_173 (lv_at hv 5 rfl) ?_
            obtain ⟨j_104, e_105, b_106, h⟩ := h
            refine xw_ild X hk hw xe_3 e_105 b_106 (by decide) dX10_open_175 ?_
            refine lv_iload X.1 X.2.1 dX10_open_176 (lv_at hv 8 rfl) ?_
            refine lv_iadd X.1 X.2.1 dX10_open_178 ?_
            refine lv_iload X.1 X.2.1 dX10_open_179 (lv_at hv 0 rfl) ?_
            refine lv_if_eq (tgt := 194) X.1 X.2.1 dX10_open_181 (by decide) (fun c => absurd c (by decide)) (fun _ => ?_)
            refine lv_aload_n X.1 X.2.1 dX10_open_184 rfl (lv_at hv 2 rfl) ?_
            refine xw_get X hk hw (i := 0) 22 xe_0 rfl tlX10 (by decide) rfl tw_541 dX10_open_185 ?_
            refine lv_iload X.1 X.2.1 dX10_open_188 (lv_at hv 1 rfl) ?_
            obtain ⟨j_107, e_108, b_109, h⟩ := h
            refine xw_lld X hk hw xe_22 e_108 b_109 (by decide) dX10_open_190 ?_
            refine lv_goto (tgt := 195) X.1 X.2.1 dX10_open_191 (by decide) ?_
            obtain ⟨j_110, e_111, b_112, h⟩ := h
            refine xw_lst X hk hw hl xe_5 rfl e_111 b_112 (by decide) dX10_open_195 (fun H locs hw hl => ?_)
            obtain ⟨S_113, e_114⟩ : ∃ T : xs_T, T = sL S 5 j_110 ((xL S 22 j_107)) := ⟨_, rfl⟩
            rw [← e_114] at hw
            replace h := h S_113 e_114
            have hN : S_113.2.2.2.2 = S.2.2.2.2 := by rw [e_114]; rfl
            replace hNN := hN.trans hNN
            refine lv_iinc (v := (a7 + 1)) (lv' := [(7, .int ((a7 + 1))), (9, .int (1)), (8, .int ((a7 + a2))), (0, .ref (et (0))), (2, .int (a2)), (3, .int (a3)), (4, .int (a4)), (5, .int (a5)), (6, .int (a6))]) X.1 X.2.1 dX10_open_196 hv (k := 8) rfl rfl (by decide) rfl (fun ls hv => ?_)
            refine lv_goto (tgt := 108) X.1 X.2.1 dX10_open_199 (by decide) ?_
            exact ih (a2) (a3) (a4) (a5) (a6) ((a7 + 1)) S_113 _ _ _ h hNN hw hl (lv_sub hv [3, 4, 5, 6, 7, 8, 0] rfl)
set_option maxHeartbeats 4000000 in
set_option maxRecDepth 100000 in
theorem j_X10_open_69 {l : Launch} {p : Program} {e : Env} {s : State} {m : MethodId} {args : Array Value} {below : List Frame} {meth : Method} {c : Code} {Z : xz_T} {et : Nat → Nat} {Nn : Nat → Nat} {K : Int32 → xs_T → Prop} (X : CallFix p m c cX10_open 10 s args (wq yX10_open cX10_open 10 (some .int)) RX10) (hk : xk Z s) (hr : meth.sig.returnType = (some .int)) (hlocks : meth.locks = false) : ∀ (n : Nat) (a2 : Int32) (a3 : Int32) (a4 : Int32) (a5 : Int32) (a6 : Int32) (a7 : Int32) (S : xs_T) (H : Heap) (locs : List Loc) (ls : Array Slot), v_X10_open_69 K n a2 a3 a4 a5 a6 a7 S → S.2.2.2.2 = Nn → wd Z et S H → xl Z locs → lv_has ls 10 [(0, .ref (et (0))), (2, .int (a2)), (3, .int (a3)), (4, .int (a4)), (5, .int (a5)), (6, .int (a6)), (7, .int (a7))] → W p l e (headSpec (wq yX10_open cX10_open 10 (some .int)) { frames := 1, cells := 0, slots := 0, locals := 21 }).room s m args below meth c H locs 0 0 (MQ below (xQi Z et Nn K) args s 0 0 (fun q => Z.2.2.1 ≤ q)) (F0 m 69 ls []) := by
  intro n
  induction n with
  | zero =>
    intro a2 a3 a4 a5 a6 a7 S H locs ls h hNN hw hl hv
    exact False.elim h
  | succ n ih =>
    intro a2 a3 a4 a5 a6 a7 S H locs ls h hNN hw hl hv
    rw [v_X10_open_69] at h
    refine lv_iload X.1 X.2.1 dX10_open_69 (lv_at hv 6 rfl) ?_
    refine lv_iload X.1 X.2.1 dX10_open_71 (lv_at hv 5 rfl) ?_
    refine lv_icmp_ge (tgt := 104) X.1 X.2.1 dX10_open_73 (by decide) (fun c_18 => ?_) (fun c_18 => ?_)
    · skip
      replace h := h.1 c_18
      refine lv_iload X.1 X.2.1 dX10_open_104 (lv_at hv 4 rfl) ?_
      refine lv_istore (lv' := [(7, .int (a5)), (0, .ref (et (0))), (2, .int (a2)), (3, .int (a3)), (4, .int (a4)), (5, .int (a5)), (6, .int (a6))]) X.1 X.2.1 dX10_open_106 hv (by decide) rfl (fun ls hv => ?_)
      obtain ⟨n_19, h⟩ := h
      exact j_X10_open_108 X hk hr hlocks n_19 (a2) (a3) (a4) (a5) (a6) (a5) S _ _ _ h hNN hw hl (lv_sub hv [1, 2, 3, 4, 5, 6, 0] rfl)
    · skip
      replace h := h.2 c_18
      refine lv_aload_n X.1 X.2.1 dX10_open_76 rfl (lv_at hv 0 rfl) ?_
      refine xw_get X hk hw (i := 0) 22 xe_0 rfl tlX10 (by decide) rfl tw_541 dX10_open_77 ?_
      refine lv_iload X.1 X.2.1 dX10_open_80 (lv_at hv 6 rfl) ?_
      refine lv_aload_n X.1 X.2.1 dX10_open_82 rfl (lv_at hv 0 rfl) ?_
      refine xw_get X hk hw (i := 0) 5 xe_0 rfl tlX10 (by decide) rfl tw_524 dX10_open_83 ?_
      refine lv_aload_n X.1 X.2.1 dX10_open_86 rfl (lv_at hv 0 rfl) ?_
      refine xw_get X hk hw (i := 0) 3 xe_0 rfl tlX10 (by decide) rfl tw_522 dX10_open_87 ?_
      refine lv_iload X.1 X.2.1 dX10_open_90 (lv_at hv 3 rfl) ?_
      obtain ⟨j_20, e_21, b_22, h⟩ := h
      refine xw_ild X hk hw xe_3 e_21 b_22 (by decide) dX10_open_92 ?_
      refine lv_iload X.1 X.2.1 dX10_open_93 (lv_at hv 6 rfl) ?_
      refine lv_iadd X.1 X.2.1 dX10_open_95 ?_
      obtain ⟨j_23, e_24, b_25, h⟩ := h
      refine xw_lld X hk hw xe_5 e_24 b_25 (by decide) dX10_open_96 ?_
      obtain ⟨j_26, e_27, b_28, h⟩ := h
      refine xw_lst X hk hw hl xe_22 rfl e_27 b_28 (by decide) dX10_open_97 (fun H locs hw hl => ?_)
      obtain ⟨S_29, e_30⟩ : ∃ T : xs_T, T = sL S 22 j_26 ((xL S 5 j_23)) := ⟨_, rfl⟩
      rw [← e_30] at hw
      replace h := h S_29 e_30
      have hN : S_29.2.2.2.2 = S.2.2.2.2 := by rw [e_30]; rfl
      replace hNN := hN.trans hNN
      refine lv_iinc (v := (a7 + 1)) (lv' := [(7, .int ((a7 + 1))), (0, .ref (et (0))), (2, .int (a2)), (3, .int (a3)), (4, .int (a4)), (5, .int (a5)), (6, .int (a6))]) X.1 X.2.1 dX10_open_98 hv (k := 6) rfl rfl (by decide) rfl (fun ls hv => ?_)
      refine lv_goto (tgt := 69) X.1 X.2.1 dX10_open_101 (by decide) ?_
      exact ih (a2) (a3) (a4) (a5) (a6) ((a7 + 1)) S_29 _ _ _ h hNN hw hl (lv_sub hv [1, 2, 3, 4, 5, 6, 0] rfl)
set_option maxHeartbeats 4000000 in
set_option maxRecDepth 100000 in
theorem c_X10_open (l : Launch) (Z : xz_T) (et : Nat → Nat) (S : xs_T) (x1 : Int32) (x2 : Int32) (x3 : Int32) (K : Int32 → xs_T → Prop) (h : v_X10_open x1 x2 x3 S K) : Met l yX10_open (wq yX10_open cX10_open 10 (some .int)) { frames := 1, cells := 0, slots := 0, locals := 21 } (xPc Z et S [.ref (et (0)), .int (x1), .int (x2), .int (x3)]) (xQi Z et S.2.2.2.2 K) 0 0 (fun q => Z.2.2.1 ≤ q) := by
  refine Met.ofW (cc := cX10_open) (maxL := 10) (ret := (some .int)) (by decide +kernel) rfl ?_
  intro p e s m args below meth c s₁ B hml hv0
  obtain ⟨rfl, hk, hw⟩ := hv0
  have X : CallFix p m c cX10_open 10 s _ (wq yX10_open cX10_open 10 (some .int)) RX10 := ⟨B.exec, B.bytes, hml, findClass_of_methodNamed B.named, atoms_spec (ws := (wq yX10_open cX10_open 10 (some .int))) B.pre⟩
  have hr := B.returns
  have hlocks := B.notSynchronized
  have hl : xl Z [] := fun _ h => by cases h
  have hNN : S.2.2.2.2 = S.2.2.2.2 := rfl
  have hv := lv_entry [.ref (et (0)), .int (x1), .int (x2), .int (x3)] (n := 10) (Nat.le_of_ble_eq_true rfl)
  rw [lg_entry_eq]
  generalize (lg_sl [.ref (et (0)), .int (x1), .int (x2), .int (x3)] ++ List.replicate (10 - (lg_sl [.ref (et (0)), .int (x1), .int (x2), .int (x3)]).length) Slot.unset).toArray = ls at hv ⊢
  replace hv : lv_has ls 10 [(0, .ref (et (0))), (1, .int (x1)), (2, .int (x2)), (3, .int (x3))] := hv
  unfold v_X10_open at h
  refine lv_aload_n X.1 X.2.1 dX10_open_0 rfl (lv_at hv 0 rfl) ?_
  refine xw_get X hk hw (i := 0) 9 xe_0 rfl tlX10 (by decide) rfl tw_528 dX10_open_1 ?_
  refine lv_iload_n X.1 X.2.1 dX10_open_4 rfl (lv_at hv 1 rfl) ?_
  obtain ⟨j_1, e_2, b_3, h⟩ := h
  refine xw_ild X hk hw xe_9 e_2 b_3 (by decide) dX10_open_5 ?_
  refine lv_if_ne (tgt := 11) X.1 X.2.1 dX10_open_6 (by decide) (fun c_4 => ?_) (fun c_4 => ?_)
  · skip
    replace h := h.1 c_4
    refine lv_aload_n X.1 X.2.1 dX10_open_11 rfl (lv_at hv 0 rfl) ?_
    refine lv_iload_n X.1 X.2.1 dX10_open_12 rfl (lv_at hv 1 rfl) ?_
    refine xc_i (xr_V (n := 1) (As := [.int (x1)]) (i := 0) X hk hw hv.1 (c_X10_rowOn l Z et S (x1) _ h) (tb_V tw_629 tw_626 tw_628 tw_18 tw_44) xe_0 rfl rfl rfl rfl (by decide +kernel) ⟨Nat.le_of_ble_eq_true rfl, Nat.le_of_ble_eq_true rfl⟩ rfl (Nat.le_of_ble_eq_true rfl) dX10_open_13 ⟨Nat.le_of_ble_eq_true rfl, Nat.le_of_ble_eq_true rfl⟩) hl (fun r_6 S_5 H locs h hN hw hl => ?_)
    replace hNN := hN.trans hNN
    refine lv_istore (lv' := [(4, .int (r_6)), (0, .ref (et (0))), (1, .int (x1)), (2, .int (x2)), (3, .int (x3))]) X.1 X.2.1 dX10_open_16 hv (by decide) rfl (fun ls hv => ?_)
    refine lv_iload X.1 X.2.1 dX10_open_18 (lv_at hv 0 rfl) ?_
    refine lv_if_ge (tgt := 25) X.1 X.2.1 dX10_open_20 (by decide) (fun c_7 => ?_) (fun c_7 => ?_)
    · skip
      replace h := h.1 c_7
      refine lv_aload_n X.1 X.2.1 dX10_open_25 rfl (lv_at hv 1 rfl) ?_
      refine xw_get X hk hw (i := 0) 11 xe_0 rfl tlX10 (by decide) rfl tw_530 dX10_open_26 ?_
      refine lv_iload_n X.1 X.2.1 dX10_open_29 rfl (lv_at hv 2 rfl) ?_
      obtain ⟨j_8, e_9, b_10, h⟩ := h
      refine xw_ild X hk hw xe_11 e_9 b_10 (by decide) dX10_open_30 ?_
      refine lv_istore (lv' := [(5, .int ((xI S_5 11 j_8))), (4, .int (r_6)), (0, .ref (et (0))), (1, .int (x1)), (2, .int (x2)), (3, .int (x3))]) X.1 X.2.1 dX10_open_31 hv (by decide) rfl (fun ls hv => ?_)
      refine lv_aload_n X.1 X.2.1 dX10_open_33 rfl (lv_at hv 2 rfl) ?_
      refine xw_get X hk hw (i := 0) 2 xe_0 rfl tlX10 (by decide) rfl tw_521 dX10_open_34 ?_
      refine lv_iload X.1 X.2.1 dX10_open_37 (lv_at hv 1 rfl) ?_
      obtain ⟨j_11, e_12, b_13, h⟩ := h
      refine xw_ild X hk hw xe_2 e_12 b_13 (by decide) dX10_open_39 ?_
      refine lv_istore (lv' := [(6, .int ((xI S_5 2 j_11))), (5, .int ((xI S_5 11 j_8))), (4, .int (r_6)), (0, .ref (et (0))), (1, .int (x1)), (2, .int (x2)), (3, .int (x3))]) X.1 X.2.1 dX10_open_40 hv (by decide) rfl (fun ls hv => ?_)
      refine lv_iload X.1 X.2.1 dX10_open_42 (lv_at hv 1 rfl) ?_
      refine lv_if_lt (tgt := 64) X.1 X.2.1 dX10_open_44 (by decide) (fun c_14 => ?_) (fun c_14 => ?_)
      · skip
        replace h := h.1 c_14
        refine lv_iconst (v := 3) X.1 X.2.1 dX10_open_64 (by decide) ?_
        exact xt_i X hr hlocks hNN hw hl h dX10_open_65
      · skip
        replace h := h.2 c_14
        refine lv_iload_n X.1 X.2.1 dX10_open_47 rfl (lv_at hv 5 rfl) ?_
        refine lv_if_lt (tgt := 64) X.1 X.2.1 dX10_open_48 (by decide) (fun c_15 => ?_) (fun c_15 => ?_)
        · skip
          replace h := h.1 c_15
          refine lv_iconst (v := 3) X.1 X.2.1 dX10_open_64 (by decide) ?_
          exact xt_i X hr hlocks hNN hw hl h dX10_open_65
        · skip
          replace h := h.2 c_15
          refine lv_iload X.1 X.2.1 dX10_open_51 (lv_at hv 1 rfl) ?_
          refine lv_i2l (v := ((xI S_5 11 j_8)).toInt64) X.1 X.2.1 dX10_open_53 rfl ?_
          refine lv_iload_n X.1 X.2.1 dX10_open_54 rfl (lv_at hv 5 rfl) ?_
          refine lv_i2l (v := (x2).toInt64) X.1 X.2.1 dX10_open_55 rfl ?_
          refine lv_ladd X.1 X.2.1 dX10_open_56 ?_
          refine lv_iload X.1 X.2.1 dX10_open_57 (lv_at hv 0 rfl) ?_
          refine lv_i2l (v := ((xI S_5 2 j_11)).toInt64) X.1 X.2.1 dX10_open_59 rfl ?_
          refine W.lcmp X.1 X.2.1 dX10_open_60 ?_
          refine lv_if_le (tgt := 66) X.1 X.2.1 dX10_open_61 (by decide) (fun c_16 => ?_) (fun c_16 => ?_)
          · skip
            replace c_16 := (lg_cmp_le _ _).mp c_16
            replace h := h.1 c_16
            refine lv_iconst (v := 0) X.1 X.2.1 dX10_open_66 (by decide) ?_
            refine lv_istore (lv' := [(7, .int (0)), (6, .int ((xI S_5 2 j_11))), (5, .int ((xI S_5 11 j_8))), (4, .int (r_6)), (0, .ref (et (0))), (1, .int (x1)), (2, .int (x2)), (3, .int (x3))]) X.1 X.2.1 dX10_open_67 hv (by decide) rfl (fun ls hv => ?_)
            obtain ⟨n_17, h⟩ := h
            exact j_X10_open_69 X hk hr hlocks n_17 (x2) (x3) (r_6) ((xI S_5 11 j_8)) ((xI S_5 2 j_11)) (0) S_5 _ _ _ h hNN hw hl (lv_sub hv [4, 6, 7, 3, 2, 1, 0] rfl)
          · skip
            replace c_16 := fun q => c_16 ((lg_cmp_le _ _).mpr q)
            replace h := h.2 c_16
            refine lv_iconst (v := 3) X.1 X.2.1 dX10_open_64 (by decide) ?_
            exact xt_i X hr hlocks hNN hw hl h dX10_open_65
    · skip
      replace h := h.2 c_7
      refine lv_iconst (v := 2) X.1 X.2.1 dX10_open_23 (by decide) ?_
      exact xt_i X hr hlocks hNN hw hl h dX10_open_24
  · skip
    replace h := h.2 c_4
    refine lv_iconst (v := 1) X.1 X.2.1 dX10_open_9 (by decide) ?_
    exact xt_i X hr hlocks hNN hw hl h dX10_open_10
def v_X10_cutTo (x1 : Int32) (x2 : Int32) (S : xs_T) (K : Int64 → xs_T → Prop) : Prop := (((x1 = 0) → ((x2 = 0 → K (0) S) ∧ (¬ x2 = 0 → K (1) S))) ∧ ((x1 = 1) → K (((x2).toInt8.toInt32).toInt64) S) ∧ ((x1 = 2) → K (((x2 &&& 65535)).toInt64) S) ∧ ((x1 = 3) → K (((x2).toInt16.toInt32).toInt64) S) ∧ ((x1 = 4 ∨ x1 = 5) → K ((x2).toInt64) S) ∧ ((x1 = 6) → v_Jxf58ca_floatToIntBits_5c35a (FP.i2f (x2)) S (fun (r_3 : Int32) (S_2 : xs_T) => K ((r_3).toInt64) S_2)) ∧ (¬ x1 = 0 → ¬ x1 = 1 → ¬ x1 = 2 → ¬ x1 = 3 → ¬ x1 = 4 → ¬ x1 = 5 → ¬ x1 = 6 → v_Jxe99ae_doubleToLongBits_ccdee (FP.i2d (x2)) S (fun (r_5 : Int64) (S_4 : xs_T) => K (r_5) S_4)))
set_option maxHeartbeats 4000000 in
set_option maxRecDepth 100000 in
theorem c_X10_cutTo (l : Launch) (Z : xz_T) (et : Nat → Nat) (S : xs_T) (x1 : Int32) (x2 : Int32) (K : Int64 → xs_T → Prop) (h : v_X10_cutTo x1 x2 S K) : Met l yX10_cutTo (wq yX10_cutTo cX10_cutTo 2 (some .long)) { frames := 2, cells := 0, slots := 0, locals := 51 } (xPc Z et S [.int (x1), .int (x2)]) (xQl Z et S.2.2.2.2 K) 0 0 (fun q => Z.2.2.1 ≤ q) := by
  refine Met.ofW (cc := cX10_cutTo) (maxL := 2) (ret := (some .long)) (by decide +kernel) rfl ?_
  intro p e s m args below meth c s₁ B hml hv0
  obtain ⟨rfl, hk, hw⟩ := hv0
  have X : CallFix p m c cX10_cutTo 2 s _ (wq yX10_cutTo cX10_cutTo 2 (some .long)) RX10 := ⟨B.exec, B.bytes, hml, findClass_of_methodNamed B.named, atoms_spec (ws := (wq yX10_cutTo cX10_cutTo 2 (some .long))) B.pre⟩
  have hr := B.returns
  have hlocks := B.notSynchronized
  have hl : xl Z [] := fun _ h => by cases h
  have hNN : S.2.2.2.2 = S.2.2.2.2 := rfl
  have hv := lv_entry [.int (x1), .int (x2)] (n := 2) (Nat.le_of_ble_eq_true rfl)
  rw [lg_entry_eq]
  generalize (lg_sl [.int (x1), .int (x2)] ++ List.replicate (2 - (lg_sl [.int (x1), .int (x2)]).length) Slot.unset).toArray = ls at hv ⊢
  replace hv : lv_has ls 2 [(0, .int (x1)), (1, .int (x2))] := hv
  unfold v_X10_cutTo at h
  refine lv_iload_n X.1 X.2.1 dX10_cutTo_0 rfl (lv_at hv 0 rfl) ?_
  have hsw := h
  by_cases k_0 : x1 = 0
  · have h := hsw.1 k_0
    refine lv_tableIn (off := 43) (tgt := 44) X.1 X.2.1 dX10_cutTo_1 (by rw [k_0]; decide) (by rw [k_0]; decide) (by rw [k_0]; rfl) (by decide) ?_
    refine lv_iload_n X.1 X.2.1 dX10_cutTo_44 rfl (lv_at hv 1 rfl) ?_
    refine lv_if_eq (tgt := 52) X.1 X.2.1 dX10_cutTo_45 (by decide) (fun c_1 => ?_) (fun c_1 => ?_)
    · skip
      replace h := h.1 c_1
      refine lv_lconst (v := 0) X.1 X.2.1 dX10_cutTo_52 rfl ?_
      exact xt_l X hr hlocks hNN hw hl h dX10_cutTo_53
    · skip
      replace h := h.2 c_1
      refine lv_lconst (v := 1) X.1 X.2.1 dX10_cutTo_48 rfl ?_
      refine lv_goto (tgt := 53) X.1 X.2.1 dX10_cutTo_49 (by decide) ?_
      exact xt_l X hr hlocks hNN hw hl h dX10_cutTo_53
  by_cases k_1 : x1 = 1
  · have h := hsw.2.1 k_1
    refine lv_tableIn (off := 53) (tgt := 54) X.1 X.2.1 dX10_cutTo_1 (by rw [k_1]; decide) (by rw [k_1]; decide) (by rw [k_1]; rfl) (by decide) ?_
    refine lv_iload_n X.1 X.2.1 dX10_cutTo_54 rfl (lv_at hv 1 rfl) ?_
    refine lv_i2b (v := (x2).toInt8.toInt32) X.1 X.2.1 dX10_cutTo_55 rfl ?_
    refine lv_i2l (v := ((x2).toInt8.toInt32).toInt64) X.1 X.2.1 dX10_cutTo_56 rfl ?_
    exact xt_l X hr hlocks hNN hw hl h dX10_cutTo_57
  by_cases k_2 : x1 = 2
  · have h := hsw.2.2.1 k_2
    refine lv_tableIn (off := 57) (tgt := 58) X.1 X.2.1 dX10_cutTo_1 (by rw [k_2]; decide) (by rw [k_2]; decide) (by rw [k_2]; rfl) (by decide) ?_
    refine lv_iload_n X.1 X.2.1 dX10_cutTo_58 rfl (lv_at hv 1 rfl) ?_
    refine lv_ldc X.1 X.2.1 X.2.2.2.1 (X.2.2.2.2 _ (List.mem_cons_of_mem _ tw_685)) dX10_cutTo_59 ?_
    refine lv_iand X.1 X.2.1 dX10_cutTo_61 ?_
    refine lv_i2l (v := ((x2 &&& 65535)).toInt64) X.1 X.2.1 dX10_cutTo_62 rfl ?_
    exact xt_l X hr hlocks hNN hw hl h dX10_cutTo_63
  by_cases k_3 : x1 = 3
  · have h := hsw.2.2.2.1 k_3
    refine lv_tableIn (off := 63) (tgt := 64) X.1 X.2.1 dX10_cutTo_1 (by rw [k_3]; decide) (by rw [k_3]; decide) (by rw [k_3]; rfl) (by decide) ?_
    refine lv_iload_n X.1 X.2.1 dX10_cutTo_64 rfl (lv_at hv 1 rfl) ?_
    refine lv_i2s (v := (x2).toInt16.toInt32) X.1 X.2.1 dX10_cutTo_65 rfl ?_
    refine lv_i2l (v := ((x2).toInt16.toInt32).toInt64) X.1 X.2.1 dX10_cutTo_66 rfl ?_
    exact xt_l X hr hlocks hNN hw hl h dX10_cutTo_67
  by_cases k_4 : x1 = 4
  · have h := hsw.2.2.2.2.1 ((Or.inl k_4))
    refine lv_tableIn (off := 67) (tgt := 68) X.1 X.2.1 dX10_cutTo_1 (by rw [k_4]; decide) (by rw [k_4]; decide) (by rw [k_4]; rfl) (by decide) ?_
    refine lv_iload_n X.1 X.2.1 dX10_cutTo_68 rfl (lv_at hv 1 rfl) ?_
    refine lv_i2l (v := (x2).toInt64) X.1 X.2.1 dX10_cutTo_69 rfl ?_
    exact xt_l X hr hlocks hNN hw hl h dX10_cutTo_70
  by_cases k_5 : x1 = 5
  · have h := hsw.2.2.2.2.1 (Or.inr (k_5))
    refine lv_tableIn (off := 67) (tgt := 68) X.1 X.2.1 dX10_cutTo_1 (by rw [k_5]; decide) (by rw [k_5]; decide) (by rw [k_5]; rfl) (by decide) ?_
    refine lv_iload_n X.1 X.2.1 dX10_cutTo_68 rfl (lv_at hv 1 rfl) ?_
    refine lv_i2l (v := (x2).toInt64) X.1 X.2.1 dX10_cutTo_69 rfl ?_
    exact xt_l X hr hlocks hNN hw hl h dX10_cutTo_70
  by_cases k_6 : x1 = 6
  · have h := hsw.2.2.2.2.2.1 k_6
    refine lv_tableIn (off := 70) (tgt := 71) X.1 X.2.1 dX10_cutTo_1 (by rw [k_6]; decide) (by rw [k_6]; decide) (by rw [k_6]; rfl) (by decide) ?_
    refine lv_iload_n X.1 X.2.1 dX10_cutTo_71 rfl (lv_at hv 1 rfl) ?_
    refine lv_i2f X.1 X.2.1 dX10_cutTo_72 ?_
    refine xc_i (xr_S (n := 1) X hk hw hv.1 (c_Jxf58ca_floatToIntBits_5c35a l Z et S (FP.i2f (x2)) _ h) (tb_S tw_688 tw_686 tw_687 tw_52) rfl rfl (by decide +kernel) ⟨Nat.le_of_ble_eq_true rfl, Nat.le_of_ble_eq_true rfl⟩ rfl (Nat.le_of_ble_eq_true rfl) dX10_cutTo_73 ⟨Nat.le_of_ble_eq_true rfl, Nat.le_of_ble_eq_true rfl⟩) hl (fun r_3 S_2 H locs h hN hw hl => ?_)
    replace hNN := hN.trans hNN
    refine lv_i2l (v := (r_3).toInt64) X.1 X.2.1 dX10_cutTo_76 rfl ?_
    exact xt_l X hr hlocks hNN hw hl h dX10_cutTo_77
  have h := hsw.2.2.2.2.2.2 k_0 k_1 k_2 k_3 k_4 k_5 k_6
  have n_0 := lv_neT k_0 (a := 0) (by decide)
  have n_1 := lv_neT k_1 (a := 1) (by decide)
  have n_2 := lv_neT k_2 (a := 2) (by decide)
  have n_3 := lv_neT k_3 (a := 3) (by decide)
  have n_4 := lv_neT k_4 (a := 4) (by decide)
  have n_5 := lv_neT k_5 (a := 5) (by decide)
  have n_6 := lv_neT k_6 (a := 6) (by decide)
  refine lv_tableOut (tgt := 78) X.1 X.2.1 dX10_cutTo_1 (by omega) (by decide) ?_
  refine lv_iload_n X.1 X.2.1 dX10_cutTo_78 rfl (lv_at hv 1 rfl) ?_
  refine lv_i2d X.1 X.2.1 dX10_cutTo_79 ?_
  refine xc_l (xr_S (n := 1) X hk hw hv.1 (c_Jxe99ae_doubleToLongBits_ccdee l Z et S (FP.i2d (x2)) _ h) (tb_S tw_698 tw_696 tw_697 tw_53) rfl rfl (by decide +kernel) ⟨Nat.le_of_ble_eq_true rfl, Nat.le_of_ble_eq_true rfl⟩ rfl (Nat.le_of_ble_eq_true rfl) dX10_cutTo_80 ⟨Nat.le_of_ble_eq_true rfl, Nat.le_of_ble_eq_true rfl⟩) hl (fun r_5 S_4 H locs h hN hw hl => ?_)
  replace hNN := hN.trans hNN
  exact xt_l X hr hlocks hNN hw hl h dX10_cutTo_83
def v_X10_pin (x1 : Int32) (x2 : Int32) (S : xs_T) (K : Int32 → xs_T → Prop) : Prop := ∃ j_1 : Nat, x1 = nI j_1 ∧ j_1 < 10 ∧ ((¬ (xI S 9 j_1) = 0 → v_X10_rowOn (x1) S (fun (r_6 : Int32) (S_5 : xs_T) => ((r_6 < 0 → K (2) S_5) ∧ (¬ r_6 < 0 → ∃ j_8 : Nat, r_6 = nI j_8 ∧ j_8 < 120 ∧ (((xI S_5 1 j_8) < 8 → ∃ j_12 : Nat, x1 = nI j_12 ∧ j_12 < 10 ∧ ∃ j_15 : Nat, r_6 = nI j_15 ∧ j_15 < 120 ∧ v_X10_in ((xI S_5 11 j_12)) (0) (((xI S_5 2 j_15) - 1)) S_5 (fun (r_19 : Int32) (S_18 : xs_T) => ((¬ r_19 = 0 → ∃ j_21 : Nat, r_6 = nI j_21 ∧ j_21 < 120 ∧ ∃ j_24 : Nat, x1 = nI j_24 ∧ j_24 < 10 ∧ ∃ j_27 : Nat, r_6 = nI j_27 ∧ j_27 < 120 ∧ v_X10_cutTo ((xI S_18 1 j_27)) (x2) S_18 (fun (r_31 : Int64) (S_30 : xs_T) => ∃ j_32 : Nat, ((xI S_18 3 j_21) + (xI S_18 11 j_24)) = nI j_32 ∧ j_32 < 3000 ∧ ∀ S_35 : xs_T, S_35 = sL S_30 5 j_32 (r_31) → K (0) S_35)) ∧ (r_19 = 0 → K (3) S_18)))) ∧ (¬ (xI S_5 1 j_8) < 8 → K (2) S_5)))))) ∧ ((xI S 9 j_1) = 0 → K (1) S))
set_option maxHeartbeats 4000000 in
set_option maxRecDepth 100000 in
theorem c_X10_pin (l : Launch) (Z : xz_T) (et : Nat → Nat) (S : xs_T) (x1 : Int32) (x2 : Int32) (K : Int32 → xs_T → Prop) (h : v_X10_pin x1 x2 S K) : Met l yX10_pin (wq yX10_pin cX10_pin 4 (some .int)) { frames := 3, cells := 0, slots := 0, locals := 72 } (xPc Z et S [.ref (et (0)), .int (x1), .int (x2)]) (xQi Z et S.2.2.2.2 K) 0 0 (fun q => Z.2.2.1 ≤ q) := by
  refine Met.ofW (cc := cX10_pin) (maxL := 4) (ret := (some .int)) (by decide +kernel) rfl ?_
  intro p e s m args below meth c s₁ B hml hv0
  obtain ⟨rfl, hk, hw⟩ := hv0
  have X : CallFix p m c cX10_pin 4 s _ (wq yX10_pin cX10_pin 4 (some .int)) RX10 := ⟨B.exec, B.bytes, hml, findClass_of_methodNamed B.named, atoms_spec (ws := (wq yX10_pin cX10_pin 4 (some .int))) B.pre⟩
  have hr := B.returns
  have hlocks := B.notSynchronized
  have hl : xl Z [] := fun _ h => by cases h
  have hNN : S.2.2.2.2 = S.2.2.2.2 := rfl
  have hv := lv_entry [.ref (et (0)), .int (x1), .int (x2)] (n := 4) (Nat.le_of_ble_eq_true rfl)
  rw [lg_entry_eq]
  generalize (lg_sl [.ref (et (0)), .int (x1), .int (x2)] ++ List.replicate (4 - (lg_sl [.ref (et (0)), .int (x1), .int (x2)]).length) Slot.unset).toArray = ls at hv ⊢
  replace hv : lv_has ls 4 [(0, .ref (et (0))), (1, .int (x1)), (2, .int (x2))] := hv
  unfold v_X10_pin at h
  refine lv_aload_n X.1 X.2.1 dX10_pin_0 rfl (lv_at hv 0 rfl) ?_
  refine xw_get X hk hw (i := 0) 9 xe_0 rfl tlX10 (by decide) rfl tw_528 dX10_pin_1 ?_
  refine lv_iload_n X.1 X.2.1 dX10_pin_4 rfl (lv_at hv 1 rfl) ?_
  obtain ⟨j_1, e_2, b_3, h⟩ := h
  refine xw_ild X hk hw xe_9 e_2 b_3 (by decide) dX10_pin_5 ?_
  refine lv_if_ne (tgt := 11) X.1 X.2.1 dX10_pin_6 (by decide) (fun c_4 => ?_) (fun c_4 => ?_)
  · skip
    replace h := h.1 c_4
    refine lv_aload_n X.1 X.2.1 dX10_pin_11 rfl (lv_at hv 0 rfl) ?_
    refine lv_iload_n X.1 X.2.1 dX10_pin_12 rfl (lv_at hv 1 rfl) ?_
    refine xc_i (xr_V (n := 1) (As := [.int (x1)]) (i := 0) X hk hw hv.1 (c_X10_rowOn l Z et S (x1) _ h) (tb_V tw_629 tw_626 tw_628 tw_18 tw_44) xe_0 rfl rfl rfl rfl (by decide +kernel) ⟨Nat.le_of_ble_eq_true rfl, Nat.le_of_ble_eq_true rfl⟩ rfl (Nat.le_of_ble_eq_true rfl) dX10_pin_13 ⟨Nat.le_of_ble_eq_true rfl, Nat.le_of_ble_eq_true rfl⟩) hl (fun r_6 S_5 H locs h hN hw hl => ?_)
    replace hNN := hN.trans hNN
    refine lv_istore_n (lv' := [(3, .int (r_6)), (0, .ref (et (0))), (1, .int (x1)), (2, .int (x2))]) X.1 X.2.1 dX10_pin_16 rfl hv (by decide) rfl (fun ls hv => ?_)
    refine lv_iload_n X.1 X.2.1 dX10_pin_17 rfl (lv_at hv 0 rfl) ?_
    refine lv_if_lt (tgt := 32) X.1 X.2.1 dX10_pin_18 (by decide) (fun c_7 => ?_) (fun c_7 => ?_)
    · skip
      replace h := h.1 c_7
      refine lv_iconst (v := 2) X.1 X.2.1 dX10_pin_32 (by decide) ?_
      exact xt_i X hr hlocks hNN hw hl h dX10_pin_33
    · skip
      replace h := h.2 c_7
      refine lv_aload_n X.1 X.2.1 dX10_pin_21 rfl (lv_at hv 1 rfl) ?_
      refine xw_get X hk hw (i := 0) 1 xe_0 rfl tlX10 (by decide) rfl tw_520 dX10_pin_22 ?_
      refine lv_iload_n X.1 X.2.1 dX10_pin_25 rfl (lv_at hv 0 rfl) ?_
      obtain ⟨j_8, e_9, b_10, h⟩ := h
      refine xw_ild X hk hw xe_1 e_9 b_10 (by decide) dX10_pin_26 ?_
      refine lv_bipush (v := 8) X.1 X.2.1 dX10_pin_27 (by decide) ?_
      refine lv_icmp_lt (tgt := 34) X.1 X.2.1 dX10_pin_29 (by decide) (fun c_11 => ?_) (fun c_11 => ?_)
      · skip
        replace h := h.1 c_11
        refine lv_aload_n X.1 X.2.1 dX10_pin_34 rfl (lv_at hv 1 rfl) ?_
        refine xw_get X hk hw (i := 0) 11 xe_0 rfl tlX10 (by decide) rfl tw_530 dX10_pin_35 ?_
        refine lv_iload_n X.1 X.2.1 dX10_pin_38 rfl (lv_at hv 2 rfl) ?_
        obtain ⟨j_12, e_13, b_14, h⟩ := h
        refine xw_ild X hk hw xe_11 e_13 b_14 (by decide) dX10_pin_39 ?_
        refine lv_iconst (v := 0) X.1 X.2.1 dX10_pin_40 (by decide) ?_
        refine lv_aload_n X.1 X.2.1 dX10_pin_41 rfl (lv_at hv 1 rfl) ?_
        refine xw_get X hk hw (i := 0) 2 xe_0 rfl tlX10 (by decide) rfl tw_521 dX10_pin_42 ?_
        refine lv_iload_n X.1 X.2.1 dX10_pin_45 rfl (lv_at hv 0 rfl) ?_
        obtain ⟨j_15, e_16, b_17, h⟩ := h
        refine xw_ild X hk hw xe_2 e_16 b_17 (by decide) dX10_pin_46 ?_
        refine lv_iconst (v := 1) X.1 X.2.1 dX10_pin_47 (by decide) ?_
        refine lv_isub X.1 X.2.1 dX10_pin_48 ?_
        refine xc_i (xr_S (n := 3) X hk hw hv.1 (c_X10_in l Z et S_5 ((xI S_5 11 j_12)) (0) (((xI S_5 2 j_15) - 1)) _ h) (tb_S tw_613 tw_611 tw_612 tw_44) rfl rfl (by decide +kernel) ⟨Nat.le_of_ble_eq_true rfl, Nat.le_of_ble_eq_true rfl⟩ rfl (Nat.le_of_ble_eq_true rfl) dX10_pin_49 ⟨Nat.le_of_ble_eq_true rfl, Nat.le_of_ble_eq_true rfl⟩) hl (fun r_19 S_18 H locs h hN hw hl => ?_)
        replace hNN := hN.trans hNN
        refine lv_if_ne (tgt := 57) X.1 X.2.1 dX10_pin_52 (by decide) (fun c_20 => ?_) (fun c_20 => ?_)
        · skip
          replace h := h.1 c_20
          refine lv_aload_n X.1 X.2.1 dX10_pin_57 rfl (lv_at hv 1 rfl) ?_
          refine xw_get X hk hw (i := 0) 5 xe_0 rfl tlX10 (by decide) rfl tw_524 dX10_pin_58 ?_
          refine lv_aload_n X.1 X.2.1 dX10_pin_61 rfl (lv_at hv 1 rfl) ?_
          refine xw_get X hk hw (i := 0) 3 xe_0 rfl tlX10 (by decide) rfl tw_522 dX10_pin_62 ?_
          refine lv_iload_n X.1 X.2.1 dX10_pin_65 rfl (lv_at hv 0 rfl) ?_
          obtain ⟨j_21, e_22, b_23, h⟩ := h
          refine xw_ild X hk hw xe_3 e_22 b_23 (by decide) dX10_pin_66 ?_
          refine lv_aload_n X.1 X.2.1 dX10_pin_67 rfl (lv_at hv 1 rfl) ?_
          refine xw_get X hk hw (i := 0) 11 xe_0 rfl tlX10 (by decide) rfl tw_530 dX10_pin_68 ?_
          refine lv_iload_n X.1 X.2.1 dX10_pin_71 rfl (lv_at hv 2 rfl) ?_
          obtain ⟨j_24, e_25, b_26, h⟩ := h
          refine xw_ild X hk hw xe_11 e_25 b_26 (by decide) dX10_pin_72 ?_
          refine lv_iadd X.1 X.2.1 dX10_pin_73 ?_
          refine lv_aload_n X.1 X.2.1 dX10_pin_74 rfl (lv_at hv 1 rfl) ?_
          refine xw_get X hk hw (i := 0) 1 xe_0 rfl tlX10 (by decide) rfl tw_520 dX10_pin_75 ?_
          refine lv_iload_n X.1 X.2.1 dX10_pin_78 rfl (lv_at hv 0 rfl) ?_
          obtain ⟨j_27, e_28, b_29, h⟩ := h
          refine xw_ild X hk hw xe_1 e_28 b_29 (by decide) dX10_pin_79 ?_
          refine lv_iload_n X.1 X.2.1 dX10_pin_80 rfl (lv_at hv 3 rfl) ?_
          refine xc_l (xr_S (n := 2) X hk hw hv.1 (c_X10_cutTo l Z et S_18 ((xI S_18 1 j_27)) (x2) _ h) (tb_S tw_684 tw_682 tw_683 tw_44) rfl rfl (by decide +kernel) ⟨Nat.le_of_ble_eq_true rfl, Nat.le_of_ble_eq_true rfl⟩ rfl (Nat.le_of_ble_eq_true rfl) dX10_pin_81 ⟨Nat.le_of_ble_eq_true rfl, Nat.le_of_ble_eq_true rfl⟩) hl (fun r_31 S_30 H locs h hN hw hl => ?_)
          replace hNN := hN.trans hNN
          obtain ⟨j_32, e_33, b_34, h⟩ := h
          refine xw_lst X hk hw hl xe_5 rfl e_33 b_34 (by decide) dX10_pin_84 (fun H locs hw hl => ?_)
          obtain ⟨S_35, e_36⟩ : ∃ T : xs_T, T = sL S_30 5 j_32 (r_31) := ⟨_, rfl⟩
          rw [← e_36] at hw
          replace h := h S_35 e_36
          have hN : S_35.2.2.2.2 = S_30.2.2.2.2 := by rw [e_36]; rfl
          replace hNN := hN.trans hNN
          refine lv_iconst (v := 0) X.1 X.2.1 dX10_pin_85 (by decide) ?_
          exact xt_i X hr hlocks hNN hw hl h dX10_pin_86
        · skip
          replace h := h.2 c_20
          refine lv_iconst (v := 3) X.1 X.2.1 dX10_pin_55 (by decide) ?_
          exact xt_i X hr hlocks hNN hw hl h dX10_pin_56
      · skip
        replace h := h.2 c_11
        refine lv_iconst (v := 2) X.1 X.2.1 dX10_pin_32 (by decide) ?_
        exact xt_i X hr hlocks hNN hw hl h dX10_pin_33
  · skip
    replace h := h.2 c_4
    refine lv_iconst (v := 1) X.1 X.2.1 dX10_pin_9 (by decide) ?_
    exact xt_i X hr hlocks hNN hw hl h dX10_pin_10
def v_X10_canHave (x1 : Int32) (x2 : Int32) (S : xs_T) (K : Int32 → xs_T → Prop) : Prop := ((x2 = 0 → K (1) S) ∧ (¬ x2 = 0 → ((¬ x1 = 8 → ∃ j_3 : Nat, x2 = nI j_3 ∧ j_3 < 401 ∧ ((¬ x1 = 9 → ((¬ x1 = 10 → ((¬ (xI S 7 j_3) = 4 → K (0) S) ∧ ((xI S 7 j_3) = 4 → K (1) S))) ∧ (x1 = 10 → ((¬ (xI S 7 j_3) = 3 → K (0) S) ∧ ((xI S 7 j_3) = 3 → K (1) S))))) ∧ (x1 = 9 → (((xI S 7 j_3) = 2 → K (1) S) ∧ (¬ (xI S 7 j_3) = 2 → ((¬ (xI S 7 j_3) = 3 → K (0) S) ∧ ((xI S 7 j_3) = 3 → K (1) S))))))) ∧ (x1 = 8 → K (1) S))))
set_option maxHeartbeats 4000000 in
set_option maxRecDepth 100000 in
theorem c_X10_canHave (l : Launch) (Z : xz_T) (et : Nat → Nat) (S : xs_T) (x1 : Int32) (x2 : Int32) (K : Int32 → xs_T → Prop) (h : v_X10_canHave x1 x2 S K) : Met l yX10_canHave (wq yX10_canHave cX10_canHave 4 (some .boolean)) { frames := 0, cells := 0, slots := 0, locals := 0 } (xPc Z et S [.ref (et (0)), .int (x1), .int (x2)]) (xQi Z et S.2.2.2.2 K) 0 0 (fun q => Z.2.2.1 ≤ q) := by
  refine Met.ofW (cc := cX10_canHave) (maxL := 4) (ret := (some .boolean)) (by decide +kernel) rfl ?_
  intro p e s m args below meth c s₁ B hml hv0
  obtain ⟨rfl, hk, hw⟩ := hv0
  have X : CallFix p m c cX10_canHave 4 s _ (wq yX10_canHave cX10_canHave 4 (some .boolean)) RX10 := ⟨B.exec, B.bytes, hml, findClass_of_methodNamed B.named, atoms_spec (ws := (wq yX10_canHave cX10_canHave 4 (some .boolean))) B.pre⟩
  have hr := B.returns
  have hlocks := B.notSynchronized
  have hl : xl Z [] := fun _ h => by cases h
  have hNN : S.2.2.2.2 = S.2.2.2.2 := rfl
  have hv := lv_entry [.ref (et (0)), .int (x1), .int (x2)] (n := 4) (Nat.le_of_ble_eq_true rfl)
  rw [lg_entry_eq]
  generalize (lg_sl [.ref (et (0)), .int (x1), .int (x2)] ++ List.replicate (4 - (lg_sl [.ref (et (0)), .int (x1), .int (x2)]).length) Slot.unset).toArray = ls at hv ⊢
  replace hv : lv_has ls 4 [(0, .ref (et (0))), (1, .int (x1)), (2, .int (x2))] := hv
  unfold v_X10_canHave at h
  refine lv_iload_n X.1 X.2.1 dX10_canHave_0 rfl (lv_at hv 2 rfl) ?_
  refine lv_if_eq (tgt := 10) X.1 X.2.1 dX10_canHave_1 (by decide) (fun c_1 => ?_) (fun c_1 => ?_)
  · skip
    replace h := h.1 c_1
    refine lv_iconst (v := 1) X.1 X.2.1 dX10_canHave_10 (by decide) ?_
    exact xt_z X hr hlocks hNN hw hl (by decide) h dX10_canHave_11
  · skip
    replace h := h.2 c_1
    refine lv_iload_n X.1 X.2.1 dX10_canHave_4 rfl (lv_at hv 1 rfl) ?_
    refine lv_bipush (v := 8) X.1 X.2.1 dX10_canHave_5 (by decide) ?_
    refine lv_icmp_ne (tgt := 12) X.1 X.2.1 dX10_canHave_7 (by decide) (fun c_2 => ?_) (fun c_2 => ?_)
    · skip
      replace h := h.1 c_2
      refine lv_aload_n X.1 X.2.1 dX10_canHave_12 rfl (lv_at hv 0 rfl) ?_
      refine xw_get X hk hw (i := 0) 7 xe_0 rfl tlX10 (by decide) rfl tw_526 dX10_canHave_13 ?_
      refine lv_iload_n X.1 X.2.1 dX10_canHave_16 rfl (lv_at hv 2 rfl) ?_
      obtain ⟨j_3, e_4, b_5, h⟩ := h
      refine xw_ild X hk hw xe_7 e_4 b_5 (by decide) dX10_canHave_17 ?_
      refine lv_istore_n (lv' := [(3, .int ((xI S 7 j_3))), (0, .ref (et (0))), (1, .int (x1)), (2, .int (x2))]) X.1 X.2.1 dX10_canHave_18 rfl hv (by decide) rfl (fun ls hv => ?_)
      refine lv_iload_n X.1 X.2.1 dX10_canHave_19 rfl (lv_at hv 2 rfl) ?_
      refine lv_bipush (v := 9) X.1 X.2.1 dX10_canHave_20 (by decide) ?_
      refine lv_icmp_ne (tgt := 43) X.1 X.2.1 dX10_canHave_22 (by decide) (fun c_6 => ?_) (fun c_6 => ?_)
      · skip
        replace h := h.1 c_6
        refine lv_iload_n X.1 X.2.1 dX10_canHave_43 rfl (lv_at hv 2 rfl) ?_
        refine lv_bipush (v := 10) X.1 X.2.1 dX10_canHave_44 (by decide) ?_
        refine lv_icmp_ne (tgt := 62) X.1 X.2.1 dX10_canHave_46 (by decide) (fun c_7 => ?_) (fun c_7 => ?_)
        · skip
          replace h := h.1 c_7
          refine lv_iload_n X.1 X.2.1 dX10_canHave_62 rfl (lv_at hv 0 rfl) ?_
          refine lv_iconst (v := 4) X.1 X.2.1 dX10_canHave_63 (by decide) ?_
          refine lv_icmp_ne (tgt := 71) X.1 X.2.1 dX10_canHave_64 (by decide) (fun c_8 => ?_) (fun c_8 => ?_)
          · skip
            replace h := h.1 c_8
            refine lv_iconst (v := 0) X.1 X.2.1 dX10_canHave_71 (by decide) ?_
            exact xt_z X hr hlocks hNN hw hl (by decide) h dX10_canHave_72
          · skip
            replace h := h.2 c_8
            refine lv_iconst (v := 1) X.1 X.2.1 dX10_canHave_67 (by decide) ?_
            refine lv_goto (tgt := 72) X.1 X.2.1 dX10_canHave_68 (by decide) ?_
            exact xt_z X hr hlocks hNN hw hl (by decide) h dX10_canHave_72
        · skip
          replace h := h.2 c_7
          refine lv_iload_n X.1 X.2.1 dX10_canHave_49 rfl (lv_at hv 0 rfl) ?_
          refine lv_iconst (v := 3) X.1 X.2.1 dX10_canHave_50 (by decide) ?_
          refine lv_icmp_ne (tgt := 58) X.1 X.2.1 dX10_canHave_51 (by decide) (fun c_9 => ?_) (fun c_9 => ?_)
          · skip
            replace h := h.1 c_9
            refine lv_iconst (v := 0) X.1 X.2.1 dX10_canHave_58 (by decide) ?_
            refine lv_goto (tgt := 72) X.1 X.2.1 dX10_canHave_59 (by decide) ?_
            exact xt_z X hr hlocks hNN hw hl (by decide) h dX10_canHave_72
          · skip
            replace h := h.2 c_9
            refine lv_iconst (v := 1) X.1 X.2.1 dX10_canHave_54 (by decide) ?_
            refine lv_goto (tgt := 72) X.1 X.2.1 dX10_canHave_55 (by decide) ?_
            exact xt_z X hr hlocks hNN hw hl (by decide) h dX10_canHave_72
      · skip
        replace h := h.2 c_6
        refine lv_iload_n X.1 X.2.1 dX10_canHave_25 rfl (lv_at hv 0 rfl) ?_
        refine lv_iconst (v := 2) X.1 X.2.1 dX10_canHave_26 (by decide) ?_
        refine lv_icmp_eq (tgt := 35) X.1 X.2.1 dX10_canHave_27 (by decide) (fun c_10 => ?_) (fun c_10 => ?_)
        · skip
          replace h := h.1 c_10
          refine lv_iconst (v := 1) X.1 X.2.1 dX10_canHave_35 (by decide) ?_
          refine lv_goto (tgt := 72) X.1 X.2.1 dX10_canHave_36 (by decide) ?_
          exact xt_z X hr hlocks hNN hw hl (by decide) h dX10_canHave_72
        · skip
          replace h := h.2 c_10
          refine lv_iload_n X.1 X.2.1 dX10_canHave_30 rfl (lv_at hv 0 rfl) ?_
          refine lv_iconst (v := 3) X.1 X.2.1 dX10_canHave_31 (by decide) ?_
          refine lv_icmp_ne (tgt := 39) X.1 X.2.1 dX10_canHave_32 (by decide) (fun c_11 => ?_) (fun c_11 => ?_)
          · skip
            replace h := h.1 c_11
            refine lv_iconst (v := 0) X.1 X.2.1 dX10_canHave_39 (by decide) ?_
            refine lv_goto (tgt := 72) X.1 X.2.1 dX10_canHave_40 (by decide) ?_
            exact xt_z X hr hlocks hNN hw hl (by decide) h dX10_canHave_72
          · skip
            replace h := h.2 c_11
            refine lv_iconst (v := 1) X.1 X.2.1 dX10_canHave_35 (by decide) ?_
            refine lv_goto (tgt := 72) X.1 X.2.1 dX10_canHave_36 (by decide) ?_
            exact xt_z X hr hlocks hNN hw hl (by decide) h dX10_canHave_72
    · skip
      replace h := h.2 c_2
      refine lv_iconst (v := 1) X.1 X.2.1 dX10_canHave_10 (by decide) ?_
      exact xt_z X hr hlocks hNN hw hl (by decide) h dX10_canHave_11
