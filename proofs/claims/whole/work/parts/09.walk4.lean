def v_X9_cell (x1 : Int32) (x2 : Int32) (S : xs_T) (K : Int64 → xs_T → Prop) : Prop := v_X9_isSpindle (x1) S (fun (r_2 : Int32) (S_1 : xs_T) => ((r_2 = 0 → K (0) S_1) ∧ (¬ r_2 = 0 → ∃ j_4 : Nat, x1 = nI j_4 ∧ j_4 < 10 ∧ oT S_1 (xQ S_1 37 j_4) ∧ ((∀ u_8 : Nat, xQ S_1 37 j_4 = some u_8 → oR S_1 u_8 → v_X5_hasPlace (u_8) (x2) S_1 (fun (r_12 : Int32) (S_11 : xs_T) => ((r_12 = 0 → K (0) S_11) ∧ (¬ r_12 = 0 → ∃ j_16 : Nat, x2 = nI j_16 ∧ j_16 < xN S_11 (u_8 + 120) ∧ K ((xL S_11 (u_8 + 120) j_16)) S_11)))) ∧ (¬ iR S_1 (xQ S_1 37 j_4) → K (0) S_1)))))
set_option maxHeartbeats 4000000 in
set_option maxRecDepth 100000 in
theorem c_X9_cell (l : Launch) (Z : xz_T) (et : Nat → Nat) (S : xs_T) (x1 : Int32) (x2 : Int32) (K : Int64 → xs_T → Prop) (h : v_X9_cell x1 x2 S K) : Met l yX9_cell (wq yX9_cell cX9_cell 5 (some .long)) { frames := 2, cells := 0, slots := 0, locals := 42 } (xPc Z et S [.ref (et (32)), .int (x1), .int (x2)]) (xQl Z et S.2.2.2.2 K) 0 0 (fun q => Z.2.2.1 ≤ q) := by
  refine Met.ofW (cc := cX9_cell) (maxL := 5) (ret := (some .long)) (by decide +kernel) rfl ?_
  intro p e s m args below meth c s₁ B hml hv0
  obtain ⟨rfl, hk, hw⟩ := hv0
  have X : CallFix p m c cX9_cell 5 s _ (wq yX9_cell cX9_cell 5 (some .long)) RX9 := ⟨B.exec, B.bytes, hml, findClass_of_methodNamed B.named, atoms_spec (ws := (wq yX9_cell cX9_cell 5 (some .long))) B.pre⟩
  have hr := B.returns
  have hlocks := B.notSynchronized
  have hl : xl Z [] := fun _ h => by cases h
  have hNN : S.2.2.2.2 = S.2.2.2.2 := rfl
  have hv := lv_entry [.ref (et (32)), .int (x1), .int (x2)] (n := 5) (Nat.le_of_ble_eq_true rfl)
  rw [lg_entry_eq]
  generalize (lg_sl [.ref (et (32)), .int (x1), .int (x2)] ++ List.replicate (5 - (lg_sl [.ref (et (32)), .int (x1), .int (x2)]).length) Slot.unset).toArray = ls at hv ⊢
  replace hv : lv_has ls 5 [(0, .ref (et (32))), (1, .int (x1)), (2, .int (x2))] := hv
  unfold v_X9_cell at h
  refine lv_iload_n X.1 X.2.1 dX9_cell_0 rfl (lv_at hv 1 rfl) ?_
  refine xc_i (xr_S (n := 1) X hk hw hv.1 (c_X9_isSpindle l Z et S (x1) _ h) (tb_S tw_201 tw_199 tw_200 tw_39) rfl rfl (by decide +kernel) ⟨Nat.le_of_ble_eq_true rfl, Nat.le_of_ble_eq_true rfl⟩ rfl (Nat.le_of_ble_eq_true rfl) dX9_cell_1 ⟨Nat.le_of_ble_eq_true rfl, Nat.le_of_ble_eq_true rfl⟩) hl (fun r_2 S_1 H locs h hN hw hl => ?_)
  replace hNN := hN.trans hNN
  refine lv_if_eq (tgt := 47) X.1 X.2.1 dX9_cell_4 (by decide) (fun c_3 => ?_) (fun c_3 => ?_)
  · skip
    replace h := h.1 c_3
    refine lv_lconst (v := 0) X.1 X.2.1 dX9_cell_47 rfl ?_
    exact xt_l X hr hlocks hNN hw hl h dX9_cell_48
  · skip
    replace h := h.2 c_3
    refine lv_aload_n X.1 X.2.1 dX9_cell_7 rfl (lv_at hv 0 rfl) ?_
    refine xw_get X hk hw (i := 32) 0 xe_32 rfl tlX9 (by decide) rfl tw_164 dX9_cell_8 ?_
    refine xw_getN X hk hw (i := 33) 0 xe_33 rfl tlX0 (by decide) rfl xn_5 dX9_cell_11 ?_
    refine lv_iload_n X.1 X.2.1 dX9_cell_14 rfl (lv_at hv 1 rfl) ?_
    obtain ⟨j_4, e_5, b_6, h⟩ := h
    refine xw_qld X hk hw xe_37 (C := RX7) rfl e_5 b_6 (by decide) dX9_cell_15 ?_
    refine xv_astore (lv' := [(4, va_rf (Option.map et (xQ S_1 37 j_4))), (0, .ref (et (32))), (1, .int (x1)), (2, .int (x2))]) X.1 X.2.1 dX9_cell_16 hv (by decide) rfl (fun ls hv => ?_)
    refine xv_aload X.1 X.2.1 dX9_cell_18 (lv_at hv 0 rfl) ?_
    obtain ⟨o_7, h⟩ := h
    refine xw_instR X hk hw o_7 tw_225 dX9_cell_20 (fun u_8 c_9 o_10 => ?_) (fun c_9 => ?_)
    · skip
      replace h := h.1 u_8 c_9 o_10
      rw [c_9] at hv
      replace hv : lv_has ls 5 [(4, .ref (et (u_8))), (0, .ref (et (32))), (1, .int (x1)), (2, .int (x2))] := hv
      refine lv_if_eq (tgt := 47) X.1 X.2.1 dX9_cell_23 (by decide) (fun c => absurd c (by decide)) (fun _ => ?_)
      refine lv_aload X.1 X.2.1 dX9_cell_26 (lv_at hv 0 rfl) ?_
      refine xw_castR X hk hw o_10 tw_225 dX9_cell_28 ?_
      refine lv_astore_n (lv' := [(3, .ref (et (u_8))), (4, .ref (et (u_8))), (0, .ref (et (32))), (1, .int (x1)), (2, .int (x2))]) X.1 X.2.1 dX9_cell_31 rfl hv (by decide) rfl (fun ls hv => ?_)
      refine lv_aload_n X.1 X.2.1 dX9_cell_32 rfl (lv_at hv 0 rfl) ?_
      refine lv_iload_n X.1 X.2.1 dX9_cell_33 rfl (lv_at hv 4 rfl) ?_
      refine xc_i (xr_V (n := 1) (As := [.int (x2)]) (i := u_8) X hk hw hv.1 (c_X5_hasPlace l Z et S_1 (u_8) (x2) _ h) (tb_V tw_390 tw_503 tw_388 tw_389 tw_48) (xE_row o_10) rfl rfl rfl rfl (by decide +kernel) ⟨Nat.le_of_ble_eq_true rfl, Nat.le_of_ble_eq_true rfl⟩ rfl (Nat.le_of_ble_eq_true rfl) dX9_cell_34 ⟨Nat.le_of_ble_eq_true rfl, Nat.le_of_ble_eq_true rfl⟩) hl (fun r_12 S_11 H locs h hN hw hl => ?_)
      have o_13 := oT_N hN o_7
      have o_14 := oR_N hN o_10
      replace hNN := hN.trans hNN
      refine lv_if_eq (tgt := 47) X.1 X.2.1 dX9_cell_37 (by decide) (fun c_15 => ?_) (fun c_15 => ?_)
      · skip
        replace h := h.1 c_15
        refine lv_lconst (v := 0) X.1 X.2.1 dX9_cell_47 rfl ?_
        exact xt_l X hr hlocks hNN hw hl h dX9_cell_48
      · skip
        replace h := h.2 c_15
        refine lv_aload_n X.1 X.2.1 dX9_cell_40 rfl (lv_at hv 0 rfl) ?_
        refine xw_getN X hk hw (i := u_8) 1 (xE_row o_14) rfl tlX5 (by decide) rfl xn_20 dX9_cell_41 ?_
        refine lv_iload_n X.1 X.2.1 dX9_cell_44 rfl (lv_at hv 4 rfl) ?_
        obtain ⟨j_16, e_17, b_18, h⟩ := h
        refine xw_lld X hk hw (xE_arr o_14) e_17 b_18 (oR_lt o_14) dX9_cell_45 ?_
        exact xt_l X hr hlocks hNN hw hl h dX9_cell_46
    · skip
      replace h := h.2 c_9
      refine lv_if_eq (tgt := 47) X.1 X.2.1 dX9_cell_23 (by decide) (fun _ => ?_) (fun c => absurd c (by decide))
      refine lv_lconst (v := 0) X.1 X.2.1 dX9_cell_47 rfl ?_
      exact xt_l X hr hlocks hNN hw hl h dX9_cell_48
def v_X9_sort (x1 : Int32) (S : xs_T) (K : Int32 → xs_T → Prop) : Prop := v_X6_figureOf ((x1).toInt64) S (fun (r_2 : Option Nat) (S_1 : xs_T) => ((r_2 = none → K ((-1)) S_1) ∧ (∀ u_4 : Nat, r_2 = some u_4 → oG S_1 u_4 ∧ K ((xF S_1 u_4 0)) S_1)))
set_option maxHeartbeats 4000000 in
set_option maxRecDepth 100000 in
theorem c_X9_sort (l : Launch) (Z : xz_T) (et : Nat → Nat) (S : xs_T) (x1 : Int32) (K : Int32 → xs_T → Prop) (h : v_X9_sort x1 S K) : Met l yX9_sort (wq yX9_sort cX9_sort 3 (some .int)) { frames := 1, cells := 0, slots := 0, locals := 22 } (xPc Z et S [.ref (et (32)), .int (x1)]) (xQi Z et S.2.2.2.2 K) 0 0 (fun q => Z.2.2.1 ≤ q) := by
  refine Met.ofW (cc := cX9_sort) (maxL := 3) (ret := (some .int)) (by decide +kernel) rfl ?_
  intro p e s m args below meth c s₁ B hml hv0
  obtain ⟨rfl, hk, hw⟩ := hv0
  have X : CallFix p m c cX9_sort 3 s _ (wq yX9_sort cX9_sort 3 (some .int)) RX9 := ⟨B.exec, B.bytes, hml, findClass_of_methodNamed B.named, atoms_spec (ws := (wq yX9_sort cX9_sort 3 (some .int))) B.pre⟩
  have hr := B.returns
  have hlocks := B.notSynchronized
  have hl : xl Z [] := fun _ h => by cases h
  have hNN : S.2.2.2.2 = S.2.2.2.2 := rfl
  have hv := lv_entry [.ref (et (32)), .int (x1)] (n := 3) (Nat.le_of_ble_eq_true rfl)
  rw [lg_entry_eq]
  generalize (lg_sl [.ref (et (32)), .int (x1)] ++ List.replicate (3 - (lg_sl [.ref (et (32)), .int (x1)]).length) Slot.unset).toArray = ls at hv ⊢
  replace hv : lv_has ls 3 [(0, .ref (et (32))), (1, .int (x1))] := hv
  unfold v_X9_sort at h
  refine lv_aload_n X.1 X.2.1 dX9_sort_0 rfl (lv_at hv 0 rfl) ?_
  refine xw_get X hk hw (i := 32) 0 xe_32 rfl tlX9 (by decide) rfl tw_164 dX9_sort_1 ?_
  refine xw_getN X hk hw (i := 33) 3 xe_33 rfl tlX0 (by decide) rfl xn_7 dX9_sort_4 ?_
  refine lv_iload_n X.1 X.2.1 dX9_sort_7 rfl (lv_at hv 1 rfl) ?_
  refine lv_i2l (v := (x1).toInt64) X.1 X.2.1 dX9_sort_8 rfl ?_
  refine xc_q (xr_V (n := 1) (As := [.long ((x1).toInt64)]) (i := 40) X hk hw hv.1 (c_X6_figureOf l Z et S ((x1).toInt64) _ h) (tb_V tw_266 tw_508 tw_264 tw_265 tw_41) xe_40 rfl rfl rfl rfl (by decide +kernel) ⟨Nat.le_of_ble_eq_true rfl, Nat.le_of_ble_eq_true rfl⟩ rfl (Nat.le_of_ble_eq_true rfl) dX9_sort_9 ⟨Nat.le_of_ble_eq_true rfl, Nat.le_of_ble_eq_true rfl⟩) hl (fun r_2 S_1 H locs h hN hw hl => ?_)
  replace hNN := hN.trans hNN
  refine xv_astore_n (lv' := [(2, va_rf (Option.map et (r_2))), (0, .ref (et (32))), (1, .int (x1))]) X.1 X.2.1 dX9_sort_12 rfl hv (by decide) rfl (fun ls hv => ?_)
  refine xv_aload_n X.1 X.2.1 dX9_sort_13 rfl (lv_at hv 0 rfl) ?_
  refine xv_ifnonnull (tgt := 21) X.1 X.2.1 dX9_sort_14 (by decide) (fun u_4 c_3 => ?_) (fun c_3 => ?_)
  · skip
    replace h := h.2 u_4 c_3
    rw [c_3] at hv
    replace hv : lv_has ls 3 [(2, .ref (et (u_4))), (0, .ref (et (32))), (1, .int (x1))] := hv
    refine lv_aload_n X.1 X.2.1 dX9_sort_21 rfl (lv_at hv 0 rfl) ?_
    obtain ⟨o_5, h⟩ := h
    refine xw_getN X hk hw (i := u_4) 0 (xE_fig o_5) rfl tlX3 (by decide) rfl xn_25 dX9_sort_22 ?_
    exact xt_i X hr hlocks hNN hw hl h dX9_sort_25
  · skip
    replace h := h.1 c_3
    refine lv_iconst (v := (-1)) X.1 X.2.1 dX9_sort_17 (by decide) ?_
    refine lv_goto (tgt := 25) X.1 X.2.1 dX9_sort_18 (by decide) ?_
    exact xt_i X hr hlocks hNN hw hl h dX9_sort_25
def v_X9_count (x1 : Int32) (S : xs_T) (K : Int32 → xs_T → Prop) : Prop := (((x1 = 0) → K ((xF S 34 5)) S) ∧ ((x1 = 1) → K ((xF S 32 4)) S) ∧ ((x1 = 2) → K ((xF S 40 2)) S) ∧ ((x1 = 3) → K ((xF S 40 3)) S) ∧ ((x1 = 4) → K ((xF S 40 1)) S) ∧ ((x1 = 5) → K ((xF S 35 2)) S) ∧ ((x1 = 6) → K ((xF S 32 5)) S) ∧ ((x1 = 7) → K ((xF S 32 6)) S) ∧ ((x1 = 8) → K ((xF S 32 7)) S) ∧ ((x1 = 9) → K ((xF S 32 8)) S) ∧ (¬ x1 = 0 → ¬ x1 = 1 → ¬ x1 = 2 → ¬ x1 = 3 → ¬ x1 = 4 → ¬ x1 = 5 → ¬ x1 = 6 → ¬ x1 = 7 → ¬ x1 = 8 → ¬ x1 = 9 → K ((-1)) S))
set_option maxHeartbeats 4000000 in
set_option maxRecDepth 100000 in
theorem c_X9_count (l : Launch) (Z : xz_T) (et : Nat → Nat) (S : xs_T) (x1 : Int32) (K : Int32 → xs_T → Prop) (h : v_X9_count x1 S K) : Met l yX9_count (wq yX9_count cX9_count 2 (some .int)) { frames := 0, cells := 0, slots := 0, locals := 0 } (xPc Z et S [.ref (et (32)), .int (x1)]) (xQi Z et S.2.2.2.2 K) 0 0 (fun q => Z.2.2.1 ≤ q) := by
  refine Met.ofW (cc := cX9_count) (maxL := 2) (ret := (some .int)) (by decide +kernel) rfl ?_
  intro p e s m args below meth c s₁ B hml hv0
  obtain ⟨rfl, hk, hw⟩ := hv0
  have X : CallFix p m c cX9_count 2 s _ (wq yX9_count cX9_count 2 (some .int)) RX9 := ⟨B.exec, B.bytes, hml, findClass_of_methodNamed B.named, atoms_spec (ws := (wq yX9_count cX9_count 2 (some .int))) B.pre⟩
  have hr := B.returns
  have hlocks := B.notSynchronized
  have hl : xl Z [] := fun _ h => by cases h
  have hNN : S.2.2.2.2 = S.2.2.2.2 := rfl
  have hv := lv_entry [.ref (et (32)), .int (x1)] (n := 2) (Nat.le_of_ble_eq_true rfl)
  rw [lg_entry_eq]
  generalize (lg_sl [.ref (et (32)), .int (x1)] ++ List.replicate (2 - (lg_sl [.ref (et (32)), .int (x1)]).length) Slot.unset).toArray = ls at hv ⊢
  replace hv : lv_has ls 2 [(0, .ref (et (32))), (1, .int (x1))] := hv
  unfold v_X9_count at h
  refine lv_iload_n X.1 X.2.1 dX9_count_0 rfl (lv_at hv 1 rfl) ?_
  have hsw := h
  by_cases k_0 : x1 = 0
  · have h := hsw.1 k_0
    refine lv_tableIn (off := 55) (tgt := 56) X.1 X.2.1 dX9_count_1 (by rw [k_0]; decide) (by rw [k_0]; decide) (by rw [k_0]; rfl) (by decide) ?_
    refine lv_aload_n X.1 X.2.1 dX9_count_56 rfl (lv_at hv 0 rfl) ?_
    refine xw_get X hk hw (i := 32) 1 xe_32 rfl tlX9 (by decide) rfl tw_165 dX9_count_57 ?_
    refine xw_getN X hk hw (i := 34) 5 xe_34 rfl tlX8 (by decide) rfl xn_13 dX9_count_60 ?_
    exact xt_i X hr hlocks hNN hw hl h dX9_count_63
  by_cases k_1 : x1 = 1
  · have h := hsw.2.1 k_1
    refine lv_tableIn (off := 63) (tgt := 64) X.1 X.2.1 dX9_count_1 (by rw [k_1]; decide) (by rw [k_1]; decide) (by rw [k_1]; rfl) (by decide) ?_
    refine lv_aload_n X.1 X.2.1 dX9_count_64 rfl (lv_at hv 0 rfl) ?_
    refine xw_get X hk hw (i := 32) 4 xe_32 rfl tlX9 (by decide) rfl tw_168 dX9_count_65 ?_
    exact xt_i X hr hlocks hNN hw hl h dX9_count_68
  by_cases k_2 : x1 = 2
  · have h := hsw.2.2.1 k_2
    refine lv_tableIn (off := 68) (tgt := 69) X.1 X.2.1 dX9_count_1 (by rw [k_2]; decide) (by rw [k_2]; decide) (by rw [k_2]; rfl) (by decide) ?_
    refine lv_aload_n X.1 X.2.1 dX9_count_69 rfl (lv_at hv 0 rfl) ?_
    refine xw_get X hk hw (i := 32) 0 xe_32 rfl tlX9 (by decide) rfl tw_164 dX9_count_70 ?_
    refine xw_getN X hk hw (i := 33) 3 xe_33 rfl tlX0 (by decide) rfl xn_7 dX9_count_73 ?_
    refine xw_getN X hk hw (i := 40) 2 xe_40 rfl tlX6 (by decide) rfl xn_3 dX9_count_76 ?_
    exact xt_i X hr hlocks hNN hw hl h dX9_count_79
  by_cases k_3 : x1 = 3
  · have h := hsw.2.2.2.1 k_3
    refine lv_tableIn (off := 79) (tgt := 80) X.1 X.2.1 dX9_count_1 (by rw [k_3]; decide) (by rw [k_3]; decide) (by rw [k_3]; rfl) (by decide) ?_
    refine lv_aload_n X.1 X.2.1 dX9_count_80 rfl (lv_at hv 0 rfl) ?_
    refine xw_get X hk hw (i := 32) 0 xe_32 rfl tlX9 (by decide) rfl tw_164 dX9_count_81 ?_
    refine xw_getN X hk hw (i := 33) 3 xe_33 rfl tlX0 (by decide) rfl xn_7 dX9_count_84 ?_
    refine xw_getN X hk hw (i := 40) 3 xe_40 rfl tlX6 (by decide) rfl xn_4 dX9_count_87 ?_
    exact xt_i X hr hlocks hNN hw hl h dX9_count_90
  by_cases k_4 : x1 = 4
  · have h := hsw.2.2.2.2.1 k_4
    refine lv_tableIn (off := 90) (tgt := 91) X.1 X.2.1 dX9_count_1 (by rw [k_4]; decide) (by rw [k_4]; decide) (by rw [k_4]; rfl) (by decide) ?_
    refine lv_aload_n X.1 X.2.1 dX9_count_91 rfl (lv_at hv 0 rfl) ?_
    refine xw_get X hk hw (i := 32) 0 xe_32 rfl tlX9 (by decide) rfl tw_164 dX9_count_92 ?_
    refine xw_getN X hk hw (i := 33) 3 xe_33 rfl tlX0 (by decide) rfl xn_7 dX9_count_95 ?_
    refine xw_getN X hk hw (i := 40) 1 xe_40 rfl tlX6 (by decide) rfl xn_2 dX9_count_98 ?_
    exact xt_i X hr hlocks hNN hw hl h dX9_count_101
  by_cases k_5 : x1 = 5
  · have h := hsw.2.2.2.2.2.1 k_5
    refine lv_tableIn (off := 101) (tgt := 102) X.1 X.2.1 dX9_count_1 (by rw [k_5]; decide) (by rw [k_5]; decide) (by rw [k_5]; rfl) (by decide) ?_
    refine lv_aload_n X.1 X.2.1 dX9_count_102 rfl (lv_at hv 0 rfl) ?_
    refine xw_get X hk hw (i := 32) 2 xe_32 rfl tlX9 (by decide) rfl tw_166 dX9_count_103 ?_
    refine xw_getN X hk hw (i := 35) 2 xe_35 rfl tlX1 (by decide) rfl xn_15 dX9_count_106 ?_
    exact xt_i X hr hlocks hNN hw hl h dX9_count_109
  by_cases k_6 : x1 = 6
  · have h := hsw.2.2.2.2.2.2.1 k_6
    refine lv_tableIn (off := 109) (tgt := 110) X.1 X.2.1 dX9_count_1 (by rw [k_6]; decide) (by rw [k_6]; decide) (by rw [k_6]; rfl) (by decide) ?_
    refine lv_aload_n X.1 X.2.1 dX9_count_110 rfl (lv_at hv 0 rfl) ?_
    refine xw_get X hk hw (i := 32) 5 xe_32 rfl tlX9 (by decide) rfl tw_169 dX9_count_111 ?_
    exact xt_i X hr hlocks hNN hw hl h dX9_count_114
  by_cases k_7 : x1 = 7
  · have h := hsw.2.2.2.2.2.2.2.1 k_7
    refine lv_tableIn (off := 114) (tgt := 115) X.1 X.2.1 dX9_count_1 (by rw [k_7]; decide) (by rw [k_7]; decide) (by rw [k_7]; rfl) (by decide) ?_
    refine lv_aload_n X.1 X.2.1 dX9_count_115 rfl (lv_at hv 0 rfl) ?_
    refine xw_get X hk hw (i := 32) 6 xe_32 rfl tlX9 (by decide) rfl tw_170 dX9_count_116 ?_
    exact xt_i X hr hlocks hNN hw hl h dX9_count_119
  by_cases k_8 : x1 = 8
  · have h := hsw.2.2.2.2.2.2.2.2.1 k_8
    refine lv_tableIn (off := 119) (tgt := 120) X.1 X.2.1 dX9_count_1 (by rw [k_8]; decide) (by rw [k_8]; decide) (by rw [k_8]; rfl) (by decide) ?_
    refine lv_aload_n X.1 X.2.1 dX9_count_120 rfl (lv_at hv 0 rfl) ?_
    refine xw_get X hk hw (i := 32) 7 xe_32 rfl tlX9 (by decide) rfl tw_171 dX9_count_121 ?_
    exact xt_i X hr hlocks hNN hw hl h dX9_count_124
  by_cases k_9 : x1 = 9
  · have h := hsw.2.2.2.2.2.2.2.2.2.1 k_9
    refine lv_tableIn (off := 124) (tgt := 125) X.1 X.2.1 dX9_count_1 (by rw [k_9]; decide) (by rw [k_9]; decide) (by rw [k_9]; rfl) (by decide) ?_
    refine lv_aload_n X.1 X.2.1 dX9_count_125 rfl (lv_at hv 0 rfl) ?_
    refine xw_get X hk hw (i := 32) 8 xe_32 rfl tlX9 (by decide) rfl tw_172 dX9_count_126 ?_
    exact xt_i X hr hlocks hNN hw hl h dX9_count_129
  have h := hsw.2.2.2.2.2.2.2.2.2.2 k_0 k_1 k_2 k_3 k_4 k_5 k_6 k_7 k_8 k_9
  have n_0 := lv_neT k_0 (a := 0) (by decide)
  have n_1 := lv_neT k_1 (a := 1) (by decide)
  have n_2 := lv_neT k_2 (a := 2) (by decide)
  have n_3 := lv_neT k_3 (a := 3) (by decide)
  have n_4 := lv_neT k_4 (a := 4) (by decide)
  have n_5 := lv_neT k_5 (a := 5) (by decide)
  have n_6 := lv_neT k_6 (a := 6) (by decide)
  have n_7 := lv_neT k_7 (a := 7) (by decide)
  have n_8 := lv_neT k_8 (a := 8) (by decide)
  have n_9 := lv_neT k_9 (a := 9) (by decide)
  refine lv_tableOut (tgt := 130) X.1 X.2.1 dX9_count_1 (by omega) (by decide) ?_
  refine lv_iconst (v := (-1)) X.1 X.2.1 dX9_count_130 (by decide) ?_
  exact xt_i X hr hlocks hNN hw hl h dX9_count_131
