def v_X0_perform (x1 : Int32) (x2 : Int32) (x3 : Int32) (x4 : Int32) (S : xs_T) (K : Int32 → xs_T → Prop) : Prop := (((x1 = 0) → ∃ j_1 : Nat, x2 = nI j_1 ∧ j_1 < 10 ∧ ∀ S_4 : xs_T, S_4 = sI S 38 j_1 (x4) → K (0) S_4) ∧ ((x1 = 1) → v_X0_splice (x2) (x3) (x4) S (fun (r_7 : Int32) (S_6 : xs_T) => K (r_7) S_6)) ∧ ((x1 = 2) → v_X0_turn (x2) (x4) S (fun (r_9 : Int32) (S_8 : xs_T) => K (r_9) S_8)) ∧ ((x1 = 3) → v_X0_open (x2) (x4) S (fun (r_11 : Int32) (S_10 : xs_T) => K (r_11) S_10)) ∧ ((x1 = 4) → v_X0_shut (x2) (x4) S (fun (r_13 : Int32) (S_12 : xs_T) => K (r_13) S_12)) ∧ ((x1 = 5) → v_X0_make (x2) (x3) (x4) S (fun (r_15 : Int32) (S_14 : xs_T) => K (r_15) S_14)) ∧ ((x1 = 6) → v_X0_twin (x2) (x3) S (fun (r_17 : Int32) (S_16 : xs_T) => K (r_17) S_16)) ∧ ((x1 = 7) → ∃ j_18 : Nat, x3 = nI j_18 ∧ j_18 < 10 ∧ oT S (xQ S 37 j_18) ∧ ∃ j_22 : Nat, x2 = nI j_22 ∧ j_22 < 10 ∧ ∀ S_25 : xs_T, S_25 = sQ S 37 j_22 (xQ S 37 j_18) → K (0) S_25) ∧ ((x1 = 8) → v_X0_swap (x2) (x3) S (fun (r_29 : Int32) (S_28 : xs_T) => K (r_29) S_28)) ∧ ((x1 = 9) → v_X0_hang (x2) (x3) S (fun (r_31 : Int32) (S_30 : xs_T) => K (r_31) S_30)) ∧ ((x1 = 10) → v_X0_pin (x2) (x4) S (fun (r_33 : Int32) (S_32 : xs_T) => K (r_33) S_32)) ∧ ((x1 = 11) → v_X0_seat (x2) (x3) S (fun (r_35 : Int32) (S_34 : xs_T) => K (r_35) S_34)) ∧ ((x1 = 12) → v_X0_lift (x2) (x3) S (fun (r_37 : Int32) (S_36 : xs_T) => K (r_37) S_36)) ∧ (¬ x1 = 0 → ¬ x1 = 1 → ¬ x1 = 2 → ¬ x1 = 3 → ¬ x1 = 4 → ¬ x1 = 5 → ¬ x1 = 6 → ¬ x1 = 7 → ¬ x1 = 8 → ¬ x1 = 9 → ¬ x1 = 10 → ¬ x1 = 11 → ¬ x1 = 12 → K (0) S))
set_option maxHeartbeats 4000000 in
set_option maxRecDepth 100000 in
theorem c_X0_perform (l : Launch) (Z : xz_T) (et : Nat → Nat) (S : xs_T) (x1 : Int32) (x2 : Int32) (x3 : Int32) (x4 : Int32) (K : Int32 → xs_T → Prop) (h5 : xN S 5 = 0) (h : v_X0_perform x1 x2 x3 x4 S K) : Met l yX0_perform (wq yX0_perform cX0_perform 5 (some .int)) { frames := 5, cells := 2, slots := 66, locals := 118 } (xPc Z et S [.ref (et (33)), .int (x1), .int (x2), .int (x3), .int (x4)]) (xAi Z et S K) 2 66 (fun q => Z.2.2.1 ≤ q) := by
  refine Met.ofW (cc := cX0_perform) (maxL := 5) (ret := (some .int)) (by decide +kernel) rfl ?_
  intro p e s m args below meth c s₁ B hml hv0
  obtain ⟨rfl, hk, hw⟩ := hv0
  have X : CallFix p m c cX0_perform 5 s _ (wq yX0_perform cX0_perform 5 (some .int)) RX0 := ⟨B.exec, B.bytes, hml, findClass_of_methodNamed B.named, atoms_spec (ws := (wq yX0_perform cX0_perform 5 (some .int))) B.pre⟩
  have hr := B.returns
  have hlocks := B.notSynchronized
  have hl : xl Z [] := fun _ h => by cases h
  have hst : xst Z et S et := fun _ _ => rfl
  have hg : xgr S S := xgr.refl h5
  have hv := lv_entry [.ref (et (33)), .int (x1), .int (x2), .int (x3), .int (x4)] (n := 5) (Nat.le_of_ble_eq_true rfl)
  rw [lg_entry_eq]
  generalize (lg_sl [.ref (et (33)), .int (x1), .int (x2), .int (x3), .int (x4)] ++ List.replicate (5 - (lg_sl [.ref (et (33)), .int (x1), .int (x2), .int (x3), .int (x4)]).length) Slot.unset).toArray = ls at hv ⊢
  replace hv : lv_has ls 5 [(0, .ref (et (33))), (1, .int (x1)), (2, .int (x2)), (3, .int (x3)), (4, .int (x4))] := hv
  unfold v_X0_perform at h
  refine lv_iload_n X.1 X.2.1 dX0_perform_0 rfl (lv_at hv 1 rfl) ?_
  have hsw := h
  by_cases k_0 : x1 = 0
  · have h := hsw.1 k_0
    refine lv_tableIn (off := 67) (tgt := 68) X.1 X.2.1 dX0_perform_1 (by rw [k_0]; decide) (by rw [k_0]; decide) (by rw [k_0]; rfl) (by decide) ?_
    refine lv_aload_n X.1 X.2.1 dX0_perform_68 rfl (lv_at hv 0 rfl) ?_
    refine xw_get X hk hw (i := 33) 1 xe_33 rfl tlX0 (by decide) rfl tw_98 dX0_perform_69 ?_
    refine lv_iload_n X.1 X.2.1 dX0_perform_72 rfl (lv_at hv 2 rfl) ?_
    refine lv_iload X.1 X.2.1 dX0_perform_73 (lv_at hv 4 rfl) ?_
    obtain ⟨j_1, e_2, b_3, h⟩ := h
    refine xw_ist X hk hw hl xe_38 rfl e_2 b_3 (by decide) dX0_perform_75 (fun H locs hw hl => ?_)
    obtain ⟨S_4, e_5⟩ : ∃ T : xs_T, T = sI S 38 j_1 (x4) := ⟨_, rfl⟩
    rw [← e_5] at hw
    replace h := h S_4 e_5
    have hN : S_4.2.2.2.2 = S.2.2.2.2 := by rw [e_5]; rfl
    replace hg := hg.N hN
    refine lv_iconst (v := 0) X.1 X.2.1 dX0_perform_76 (by decide) ?_
    refine W.widen (k := 2) (n := 66) (by omega) (by omega) ?_
    exact xt_ai X hr hlocks hst hg hw hl h dX0_perform_77
  by_cases k_1 : x1 = 1
  · have h := hsw.2.1 k_1
    refine lv_tableIn (off := 77) (tgt := 78) X.1 X.2.1 dX0_perform_1 (by rw [k_1]; decide) (by rw [k_1]; decide) (by rw [k_1]; rfl) (by decide) ?_
    refine lv_aload_n X.1 X.2.1 dX0_perform_78 rfl (lv_at hv 0 rfl) ?_
    refine lv_iload_n X.1 X.2.1 dX0_perform_79 rfl (lv_at hv 2 rfl) ?_
    refine lv_iload_n X.1 X.2.1 dX0_perform_80 rfl (lv_at hv 3 rfl) ?_
    refine lv_iload X.1 X.2.1 dX0_perform_81 (lv_at hv 4 rfl) ?_
    refine xc_i (xr_V (n := 3) (As := [.int (x2), .int (x3), .int (x4)]) (i := 33) X hk hw hv.1 (c_X0_splice l Z et S (x2) (x3) (x4) _ h) (tb_V tw_240 tw_237 tw_239 tw_2 tw_40) xe_33 rfl rfl rfl rfl (by decide +kernel) ⟨Nat.le_of_ble_eq_true rfl, Nat.le_of_ble_eq_true rfl⟩ rfl (Nat.le_of_ble_eq_true rfl) dX0_perform_83 ⟨Nat.le_of_ble_eq_true rfl, Nat.le_of_ble_eq_true rfl⟩) hl (fun r_7 S_6 H locs h hN hw hl => ?_)
    replace hg := hg.N hN
    refine W.widen (k := 2) (n := 66) (by omega) (by omega) ?_
    exact xt_ai X hr hlocks hst hg hw hl h dX0_perform_86
  by_cases k_2 : x1 = 2
  · have h := hsw.2.2.1 k_2
    refine lv_tableIn (off := 86) (tgt := 87) X.1 X.2.1 dX0_perform_1 (by rw [k_2]; decide) (by rw [k_2]; decide) (by rw [k_2]; rfl) (by decide) ?_
    refine lv_aload_n X.1 X.2.1 dX0_perform_87 rfl (lv_at hv 0 rfl) ?_
    refine lv_iload_n X.1 X.2.1 dX0_perform_88 rfl (lv_at hv 2 rfl) ?_
    refine lv_iload X.1 X.2.1 dX0_perform_89 (lv_at hv 4 rfl) ?_
    refine xc_i (xr_V (n := 2) (As := [.int (x2), .int (x4)]) (i := 33) X hk hw hv.1 (c_X0_turn l Z et S (x2) (x4) _ h) (tb_V tw_275 tw_272 tw_274 tw_4 tw_40) xe_33 rfl rfl rfl rfl (by decide +kernel) ⟨Nat.le_of_ble_eq_true rfl, Nat.le_of_ble_eq_true rfl⟩ rfl (Nat.le_of_ble_eq_true rfl) dX0_perform_91 ⟨Nat.le_of_ble_eq_true rfl, Nat.le_of_ble_eq_true rfl⟩) hl (fun r_9 S_8 H locs h hN hw hl => ?_)
    replace hg := hg.N hN
    refine W.widen (k := 2) (n := 66) (by omega) (by omega) ?_
    exact xt_ai X hr hlocks hst hg hw hl h dX0_perform_94
  by_cases k_3 : x1 = 3
  · have h := hsw.2.2.2.1 k_3
    refine lv_tableIn (off := 94) (tgt := 95) X.1 X.2.1 dX0_perform_1 (by rw [k_3]; decide) (by rw [k_3]; decide) (by rw [k_3]; rfl) (by decide) ?_
    refine lv_aload_n X.1 X.2.1 dX0_perform_95 rfl (lv_at hv 0 rfl) ?_
    refine lv_iload_n X.1 X.2.1 dX0_perform_96 rfl (lv_at hv 2 rfl) ?_
    refine lv_iload X.1 X.2.1 dX0_perform_97 (lv_at hv 4 rfl) ?_
    refine xc_i (xr_V (n := 2) (As := [.int (x2), .int (x4)]) (i := 33) X hk hw hv.1 (c_X0_open l Z et S (x2) (x4) _ h) (tb_V tw_287 tw_284 tw_286 tw_5 tw_40) xe_33 rfl rfl rfl rfl (by decide +kernel) ⟨Nat.le_of_ble_eq_true rfl, Nat.le_of_ble_eq_true rfl⟩ rfl (Nat.le_of_ble_eq_true rfl) dX0_perform_99 ⟨Nat.le_of_ble_eq_true rfl, Nat.le_of_ble_eq_true rfl⟩) hl (fun r_11 S_10 H locs h hN hw hl => ?_)
    replace hg := hg.N hN
    refine W.widen (k := 2) (n := 66) (by omega) (by omega) ?_
    exact xt_ai X hr hlocks hst hg hw hl h dX0_perform_102
  by_cases k_4 : x1 = 4
  · have h := hsw.2.2.2.2.1 k_4
    refine lv_tableIn (off := 102) (tgt := 103) X.1 X.2.1 dX0_perform_1 (by rw [k_4]; decide) (by rw [k_4]; decide) (by rw [k_4]; rfl) (by decide) ?_
    refine lv_aload_n X.1 X.2.1 dX0_perform_103 rfl (lv_at hv 0 rfl) ?_
    refine lv_iload_n X.1 X.2.1 dX0_perform_104 rfl (lv_at hv 2 rfl) ?_
    refine lv_iload X.1 X.2.1 dX0_perform_105 (lv_at hv 4 rfl) ?_
    refine xc_i (xr_V (n := 2) (As := [.int (x2), .int (x4)]) (i := 33) X hk hw hv.1 (c_X0_shut l Z et S (x2) (x4) _ h) (tb_V tw_304 tw_301 tw_303 tw_8 tw_40) xe_33 rfl rfl rfl rfl (by decide +kernel) ⟨Nat.le_of_ble_eq_true rfl, Nat.le_of_ble_eq_true rfl⟩ rfl (Nat.le_of_ble_eq_true rfl) dX0_perform_107 ⟨Nat.le_of_ble_eq_true rfl, Nat.le_of_ble_eq_true rfl⟩) hl (fun r_13 S_12 H locs h hN hw hl => ?_)
    replace hg := hg.N hN
    refine W.widen (k := 2) (n := 66) (by omega) (by omega) ?_
    exact xt_ai X hr hlocks hst hg hw hl h dX0_perform_110
  by_cases k_5 : x1 = 5
  · have h := hsw.2.2.2.2.2.1 k_5
    refine lv_tableIn (off := 110) (tgt := 111) X.1 X.2.1 dX0_perform_1 (by rw [k_5]; decide) (by rw [k_5]; decide) (by rw [k_5]; rfl) (by decide) ?_
    refine lv_aload_n X.1 X.2.1 dX0_perform_111 rfl (lv_at hv 0 rfl) ?_
    refine lv_iload_n X.1 X.2.1 dX0_perform_112 rfl (lv_at hv 2 rfl) ?_
    refine lv_iload_n X.1 X.2.1 dX0_perform_113 rfl (lv_at hv 3 rfl) ?_
    refine lv_iload X.1 X.2.1 dX0_perform_114 (lv_at hv 4 rfl) ?_
    replace hv : lv_has ls 5 [] := lv_sub hv [] rfl
    refine xc_ai (xr_V (n := 3) (As := [.int (x2), .int (x3), .int (x4)]) (i := 33) X hk hw hv.1 (c_X0_make l Z et S (x2) (x3) (x4) _ (hg.2.2.2.1) h) (tb_V tw_312 tw_309 tw_311 tw_9 tw_40) xe_33 rfl rfl rfl rfl (by decide +kernel) ⟨Nat.le_of_ble_eq_true rfl, Nat.le_of_ble_eq_true rfl⟩ rfl (Nat.le_of_ble_eq_true rfl) dX0_perform_116 ⟨Nat.le_of_ble_eq_true rfl, Nat.le_of_ble_eq_true rfl⟩) hl (fun r_15 S_14 et1 H locs h hs1 hg1 hw hl => ?_)
    replace hst := hst.trans h5 hg hs1
    replace hg := hg.trans hg1
    generalize et1 = et at *
    exact xt_ai X hr hlocks hst hg hw hl h dX0_perform_119
  by_cases k_6 : x1 = 6
  · have h := hsw.2.2.2.2.2.2.1 k_6
    refine lv_tableIn (off := 119) (tgt := 120) X.1 X.2.1 dX0_perform_1 (by rw [k_6]; decide) (by rw [k_6]; decide) (by rw [k_6]; rfl) (by decide) ?_
    refine lv_aload_n X.1 X.2.1 dX0_perform_120 rfl (lv_at hv 0 rfl) ?_
    refine lv_iload_n X.1 X.2.1 dX0_perform_121 rfl (lv_at hv 2 rfl) ?_
    refine lv_iload_n X.1 X.2.1 dX0_perform_122 rfl (lv_at hv 3 rfl) ?_
    replace hv : lv_has ls 5 [] := lv_sub hv [] rfl
    refine xc_ai (xr_V (n := 2) (As := [.int (x2), .int (x3)]) (i := 33) X hk hw hv.1 (c_X0_twin l Z et S (x2) (x3) _ (hg.2.2.2.1) h) (tb_V tw_343 tw_340 tw_342 tw_10 tw_40) xe_33 rfl rfl rfl rfl (by decide +kernel) ⟨Nat.le_of_ble_eq_true rfl, Nat.le_of_ble_eq_true rfl⟩ rfl (Nat.le_of_ble_eq_true rfl) dX0_perform_123 ⟨Nat.le_of_ble_eq_true rfl, Nat.le_of_ble_eq_true rfl⟩) hl (fun r_17 S_16 et1 H locs h hs1 hg1 hw hl => ?_)
    replace hst := hst.trans h5 hg hs1
    replace hg := hg.trans hg1
    generalize et1 = et at *
    exact xt_ai X hr hlocks hst hg hw hl h dX0_perform_126
  by_cases k_7 : x1 = 7
  · have h := hsw.2.2.2.2.2.2.2.1 k_7
    refine lv_tableIn (off := 126) (tgt := 127) X.1 X.2.1 dX0_perform_1 (by rw [k_7]; decide) (by rw [k_7]; decide) (by rw [k_7]; rfl) (by decide) ?_
    refine lv_aload_n X.1 X.2.1 dX0_perform_127 rfl (lv_at hv 0 rfl) ?_
    refine xw_get X hk hw (i := 33) 0 xe_33 rfl tlX0 (by decide) rfl tw_96 dX0_perform_128 ?_
    refine lv_iload_n X.1 X.2.1 dX0_perform_131 rfl (lv_at hv 2 rfl) ?_
    refine lv_aload_n X.1 X.2.1 dX0_perform_132 rfl (lv_at hv 0 rfl) ?_
    refine xw_get X hk hw (i := 33) 0 xe_33 rfl tlX0 (by decide) rfl tw_96 dX0_perform_133 ?_
    refine lv_iload_n X.1 X.2.1 dX0_perform_136 rfl (lv_at hv 3 rfl) ?_
    obtain ⟨j_18, e_19, b_20, h⟩ := h
    refine xw_qld X hk hw xe_37 (C := RX7) rfl e_19 b_20 (by decide) dX0_perform_137 ?_
    obtain ⟨o_21, h⟩ := h
    obtain ⟨j_22, e_23, b_24, h⟩ := h
    refine xw_qst X hk hw hl (E := RX7) (xQ S 37 j_18) (oS_T o_21) xe_37 rfl rfl e_23 b_24 (by decide) dX0_perform_138 (fun H locs hw hl => ?_)
    obtain ⟨S_25, e_26⟩ : ∃ T : xs_T, T = sQ S 37 j_22 (xQ S 37 j_18) := ⟨_, rfl⟩
    rw [← e_26] at hw
    replace h := h S_25 e_26
    have hN : S_25.2.2.2.2 = S.2.2.2.2 := by rw [e_26]; rfl
    have o_27 := oT_N hN o_21
    replace hg := hg.N hN
    refine lv_iconst (v := 0) X.1 X.2.1 dX0_perform_139 (by decide) ?_
    refine W.widen (k := 2) (n := 66) (by omega) (by omega) ?_
    exact xt_ai X hr hlocks hst hg hw hl h dX0_perform_140
  by_cases k_8 : x1 = 8
  · have h := hsw.2.2.2.2.2.2.2.2.1 k_8
    refine lv_tableIn (off := 140) (tgt := 141) X.1 X.2.1 dX0_perform_1 (by rw [k_8]; decide) (by rw [k_8]; decide) (by rw [k_8]; rfl) (by decide) ?_
    refine lv_aload_n X.1 X.2.1 dX0_perform_141 rfl (lv_at hv 0 rfl) ?_
    refine lv_iload_n X.1 X.2.1 dX0_perform_142 rfl (lv_at hv 2 rfl) ?_
    refine lv_iload_n X.1 X.2.1 dX0_perform_143 rfl (lv_at hv 3 rfl) ?_
    refine xc_i (xr_V (n := 2) (As := [.int (x2), .int (x3)]) (i := 33) X hk hw hv.1 (c_X0_swap l Z et S (x2) (x3) _ h) (tb_V tw_348 tw_345 tw_347 tw_11 tw_40) xe_33 rfl rfl rfl rfl (by decide +kernel) ⟨Nat.le_of_ble_eq_true rfl, Nat.le_of_ble_eq_true rfl⟩ rfl (Nat.le_of_ble_eq_true rfl) dX0_perform_144 ⟨Nat.le_of_ble_eq_true rfl, Nat.le_of_ble_eq_true rfl⟩) hl (fun r_29 S_28 H locs h hN hw hl => ?_)
    replace hg := hg.N hN
    refine W.widen (k := 2) (n := 66) (by omega) (by omega) ?_
    exact xt_ai X hr hlocks hst hg hw hl h dX0_perform_147
  by_cases k_9 : x1 = 9
  · have h := hsw.2.2.2.2.2.2.2.2.2.1 k_9
    refine lv_tableIn (off := 147) (tgt := 148) X.1 X.2.1 dX0_perform_1 (by rw [k_9]; decide) (by rw [k_9]; decide) (by rw [k_9]; rfl) (by decide) ?_
    refine lv_aload_n X.1 X.2.1 dX0_perform_148 rfl (lv_at hv 0 rfl) ?_
    refine lv_iload_n X.1 X.2.1 dX0_perform_149 rfl (lv_at hv 2 rfl) ?_
    refine lv_iload_n X.1 X.2.1 dX0_perform_150 rfl (lv_at hv 3 rfl) ?_
    replace hv : lv_has ls 5 [] := lv_sub hv [] rfl
    refine xc_ai (xr_V (n := 2) (As := [.int (x2), .int (x3)]) (i := 33) X hk hw hv.1 (c_X0_hang l Z et S (x2) (x3) _ (hg.2.2.2.1) h) (tb_V tw_352 tw_349 tw_351 tw_12 tw_40) xe_33 rfl rfl rfl rfl (by decide +kernel) ⟨Nat.le_of_ble_eq_true rfl, Nat.le_of_ble_eq_true rfl⟩ rfl (Nat.le_of_ble_eq_true rfl) dX0_perform_151 ⟨Nat.le_of_ble_eq_true rfl, Nat.le_of_ble_eq_true rfl⟩) hl (fun r_31 S_30 et1 H locs h hs1 hg1 hw hl => ?_)
    replace hst := hst.trans h5 hg hs1
    replace hg := hg.trans hg1
    generalize et1 = et at *
    refine W.widen (k := 2) (n := 66) (by omega) (by omega) ?_
    exact xt_ai X hr hlocks hst hg hw hl h dX0_perform_154
  by_cases k_10 : x1 = 10
  · have h := hsw.2.2.2.2.2.2.2.2.2.2.1 k_10
    refine lv_tableIn (off := 154) (tgt := 155) X.1 X.2.1 dX0_perform_1 (by rw [k_10]; decide) (by rw [k_10]; decide) (by rw [k_10]; rfl) (by decide) ?_
    refine lv_aload_n X.1 X.2.1 dX0_perform_155 rfl (lv_at hv 0 rfl) ?_
    refine lv_iload_n X.1 X.2.1 dX0_perform_156 rfl (lv_at hv 2 rfl) ?_
    refine lv_iload X.1 X.2.1 dX0_perform_157 (lv_at hv 4 rfl) ?_
    refine xc_i (xr_V (n := 2) (As := [.int (x2), .int (x4)]) (i := 33) X hk hw hv.1 (c_X0_pin l Z et S (x2) (x4) _ h) (tb_V tw_386 tw_383 tw_385 tw_13 tw_40) xe_33 rfl rfl rfl rfl (by decide +kernel) ⟨Nat.le_of_ble_eq_true rfl, Nat.le_of_ble_eq_true rfl⟩ rfl (Nat.le_of_ble_eq_true rfl) dX0_perform_159 ⟨Nat.le_of_ble_eq_true rfl, Nat.le_of_ble_eq_true rfl⟩) hl (fun r_33 S_32 H locs h hN hw hl => ?_)
    replace hg := hg.N hN
    refine W.widen (k := 2) (n := 66) (by omega) (by omega) ?_
    exact xt_ai X hr hlocks hst hg hw hl h dX0_perform_162
  by_cases k_11 : x1 = 11
  · have h := hsw.2.2.2.2.2.2.2.2.2.2.2.1 k_11
    refine lv_tableIn (off := 162) (tgt := 163) X.1 X.2.1 dX0_perform_1 (by rw [k_11]; decide) (by rw [k_11]; decide) (by rw [k_11]; rfl) (by decide) ?_
    refine lv_aload_n X.1 X.2.1 dX0_perform_163 rfl (lv_at hv 0 rfl) ?_
    refine lv_iload_n X.1 X.2.1 dX0_perform_164 rfl (lv_at hv 2 rfl) ?_
    refine lv_iload_n X.1 X.2.1 dX0_perform_165 rfl (lv_at hv 3 rfl) ?_
    refine xc_i (xr_V (n := 2) (As := [.int (x2), .int (x3)]) (i := 33) X hk hw hv.1 (c_X0_seat l Z et S (x2) (x3) _ h) (tb_V tw_417 tw_414 tw_416 tw_14 tw_40) xe_33 rfl rfl rfl rfl (by decide +kernel) ⟨Nat.le_of_ble_eq_true rfl, Nat.le_of_ble_eq_true rfl⟩ rfl (Nat.le_of_ble_eq_true rfl) dX0_perform_166 ⟨Nat.le_of_ble_eq_true rfl, Nat.le_of_ble_eq_true rfl⟩) hl (fun r_35 S_34 H locs h hN hw hl => ?_)
    replace hg := hg.N hN
    refine W.widen (k := 2) (n := 66) (by omega) (by omega) ?_
    exact xt_ai X hr hlocks hst hg hw hl h dX0_perform_169
  by_cases k_12 : x1 = 12
  · have h := hsw.2.2.2.2.2.2.2.2.2.2.2.2.1 k_12
    refine lv_tableIn (off := 169) (tgt := 170) X.1 X.2.1 dX0_perform_1 (by rw [k_12]; decide) (by rw [k_12]; decide) (by rw [k_12]; rfl) (by decide) ?_
    refine lv_aload_n X.1 X.2.1 dX0_perform_170 rfl (lv_at hv 0 rfl) ?_
    refine lv_iload_n X.1 X.2.1 dX0_perform_171 rfl (lv_at hv 2 rfl) ?_
    refine lv_iload_n X.1 X.2.1 dX0_perform_172 rfl (lv_at hv 3 rfl) ?_
    refine xc_i (xr_V (n := 2) (As := [.int (x2), .int (x3)]) (i := 33) X hk hw hv.1 (c_X0_lift l Z et S (x2) (x3) _ h) (tb_V tw_422 tw_419 tw_421 tw_15 tw_40) xe_33 rfl rfl rfl rfl (by decide +kernel) ⟨Nat.le_of_ble_eq_true rfl, Nat.le_of_ble_eq_true rfl⟩ rfl (Nat.le_of_ble_eq_true rfl) dX0_perform_173 ⟨Nat.le_of_ble_eq_true rfl, Nat.le_of_ble_eq_true rfl⟩) hl (fun r_37 S_36 H locs h hN hw hl => ?_)
    replace hg := hg.N hN
    refine W.widen (k := 2) (n := 66) (by omega) (by omega) ?_
    exact xt_ai X hr hlocks hst hg hw hl h dX0_perform_176
  have h := hsw.2.2.2.2.2.2.2.2.2.2.2.2.2 k_0 k_1 k_2 k_3 k_4 k_5 k_6 k_7 k_8 k_9 k_10 k_11 k_12
  have n_0 := lv_neT k_0 (a := 0) (by decide)
  have n_1 := lv_neT k_1 (a := 1) (by decide)
  have n_2 := lv_neT k_2 (a := 2) (by decide)
  have n_3 := lv_neT k_3 (a := 3) (by decide)
  have n_4 := lv_neT k_4 (a := 4) (by decide)
  have n_5 := lv_neT k_5 (a := 5) (by decide)
  have n_6 := lv_neT k_6 (a := 6) (by decide)
  have n_7 := lv_neT k_7 (a := 7) (by decide)
  have n_8 := lv_neT k_8 (a := 8) (by decide)
  have n_9 := lv_neT k_9 (a := 9) (by decide)
  have n_10 := lv_neT k_10 (a := 10) (by decide)
  have n_11 := lv_neT k_11 (a := 11) (by decide)
  have n_12 := lv_neT k_12 (a := 12) (by decide)
  refine lv_tableOut (tgt := 177) X.1 X.2.1 dX0_perform_1 (by omega) (by decide) ?_
  refine lv_iconst (v := 0) X.1 X.2.1 dX0_perform_177 (by decide) ?_
  refine W.widen (k := 2) (n := 66) (by omega) (by omega) ?_
  exact xt_ai X hr hlocks hst hg hw hl h dX0_perform_178
def v_X9_begin_77 (K : Int32 → xs_T → Prop) (a6 : Int32) (S : xs_T) : Prop := ((a6 = 0 → K (a6) S) ∧ (¬ a6 = 0 → ∀ S_30 : xs_T, S_30 = sF S 32 5 (((xF S 32 5) + 1)) → K (a6) S_30))
def v_X9_begin_33 (K : Int32 → xs_T → Prop) (a1 : Int32) (a2 : Int32) (a3 : Int32) (a4 : Int32) (q5 : Option Nat) (S : xs_T) : Prop := oT S (q5) ∧ v_X0_perform (a1) (a2) (a3) (a4) S (fun (r_13 : Int32) (S_12 : xs_T) => ((q5 = none → v_X9_begin_77 K (r_13) S_12) ∧ (∀ u_18 : Nat, q5 = some u_18 → oR S_12 u_18 ∧ v_X5_differsFrom (u_18) (36) S_12 (fun (r_21 : Int32) (S_20 : xs_T) => ((r_21 = 0 → v_X9_begin_77 K (r_13) S_20) ∧ (¬ r_21 = 0 → v_X1_write (u_18) (36) S_20 (fun (S_25 : xs_T) => v_X9_begin_77 K (r_13) S_25)))))))
def v_X9_begin (x1 : Int32) (x2 : Int32) (x3 : Int32) (x4 : Int32) (S : xs_T) (K : Int32 → xs_T → Prop) : Prop := ∀ S_1 : xs_T, S_1 = sF S 32 4 (((xF S 32 4) + 1)) → v_X9_rowAtRisk (x1) (x2) (x3) S_1 (fun (r_4 : Option Nat) (S_3 : xs_T) => ((r_4 = none → v_X9_begin_33 K (x1) (x2) (x3) (x4) (r_4) S_3) ∧ (∀ u_6 : Nat, r_4 = some u_6 → oR S_3 u_6 ∧ v_X5_copyTo (u_6) (36) S_3 (fun (S_8 : xs_T) => v_X9_begin_33 K (x1) (x2) (x3) (x4) (some (u_6)) S_8))))
set_option maxHeartbeats 4000000 in
set_option maxRecDepth 100000 in
theorem j_X9_begin_77 {l : Launch} {p : Program} {e : Env} {s : State} {m : MethodId} {args : Array Value} {below : List Frame} {meth : Method} {c : Code} {Z : xz_T} {et0 : Nat → Nat} {S0 : xs_T} {K : Int32 → xs_T → Prop} (X : CallFix p m c cX9_begin 7 s args (wq yX9_begin cX9_begin 7 (some .int)) RX9) (hk : xk Z s) (hr : meth.sig.returnType = (some .int)) (hlocks : meth.locks = false) (h5 : xN S0 5 = 0) : ∀ (a6 : Int32) (S : xs_T) (et : Nat → Nat) (H : Heap) (locs : List Loc) (ls : Array Slot), v_X9_begin_77 K a6 S → xst Z et0 S0 et → xgr S0 S → wd Z et S H → xl Z locs → lv_has ls 7 [(0, .ref (et (32))), (6, .int (a6))] → W p l e (headSpec (wq yX9_begin cX9_begin 7 (some .int)) { frames := 6, cells := 2, slots := 66, locals := 142 }).room s m args below meth c H locs 2 66 (MQ below (xAi Z et0 S0 K) args s 2 66 (fun q => Z.2.2.1 ≤ q)) (F0 m 77 ls []) := by
  intro a6 S et H locs ls h hst hg hw hl hv
  unfold v_X9_begin_77 at h
  refine lv_iload X.1 X.2.1 dX9_begin_77 (lv_at hv 1 rfl) ?_
  refine lv_if_eq (tgt := 92) X.1 X.2.1 dX9_begin_79 (by decide) (fun c_29 => ?_) (fun c_29 => ?_)
  · skip
    replace h := h.1 c_29
    refine lv_iload X.1 X.2.1 dX9_begin_92 (lv_at hv 1 rfl) ?_
    exact xt_ai X hr hlocks hst hg hw hl h dX9_begin_94
  · skip
    replace h := h.2 c_29
    refine lv_aload_n X.1 X.2.1 dX9_begin_82 rfl (lv_at hv 0 rfl) ?_
    refine lv_dup X.1 X.2.1 dX9_begin_83 rfl ?_
    refine xw_get X hk hw (i := 32) 5 xe_32 rfl tlX9 (by decide) rfl tw_169 dX9_begin_84 ?_
    refine lv_iconst (v := 1) X.1 X.2.1 dX9_begin_87 (by decide) ?_
    refine lv_iadd X.1 X.2.1 dX9_begin_88 ?_
    refine xw_put X hk hw hl (i := 32) 5 xe_32 rfl rfl tlX9 tyX9 tyX9_ok nmX9 (by decide) tw_169 rfl rfl (Nat.le_of_ble_eq_true rfl) dX9_begin_89 (fun H locs hw hl => ?_)
    obtain ⟨S_30, e_31⟩ : ∃ T : xs_T, T = sF S 32 5 (((xF S 32 5) + 1)) := ⟨_, rfl⟩
    rw [← e_31] at hw
    replace h := h S_30 e_31
    have hN : S_30.2.2.2.2 = S.2.2.2.2 := by rw [e_31]; rfl
    replace hg := hg.N hN
    refine lv_iload X.1 X.2.1 dX9_begin_92 (lv_at hv 1 rfl) ?_
    exact xt_ai X hr hlocks hst hg hw hl h dX9_begin_94
set_option maxHeartbeats 4000000 in
set_option maxRecDepth 100000 in
theorem j_X9_begin_33 {l : Launch} {p : Program} {e : Env} {s : State} {m : MethodId} {args : Array Value} {below : List Frame} {meth : Method} {c : Code} {Z : xz_T} {et0 : Nat → Nat} {S0 : xs_T} {K : Int32 → xs_T → Prop} (X : CallFix p m c cX9_begin 7 s args (wq yX9_begin cX9_begin 7 (some .int)) RX9) (hk : xk Z s) (hr : meth.sig.returnType = (some .int)) (hlocks : meth.locks = false) (h5 : xN S0 5 = 0) : ∀ (a1 : Int32) (a2 : Int32) (a3 : Int32) (a4 : Int32) (q5 : Option Nat) (S : xs_T) (et : Nat → Nat) (H : Heap) (locs : List Loc) (ls : Array Slot), v_X9_begin_33 K a1 a2 a3 a4 q5 S → xst Z et0 S0 et → xgr S0 S → wd Z et S H → xl Z locs → lv_has ls 7 [(0, .ref (et (32))), (1, .int (a1)), (2, .int (a2)), (3, .int (a3)), (4, .int (a4)), (5, va_rf (Option.map et (q5)))] → W p l e (headSpec (wq yX9_begin cX9_begin 7 (some .int)) { frames := 6, cells := 2, slots := 66, locals := 142 }).room s m args below meth c H locs 0 0 (MQ below (xAi Z et0 S0 K) args s 2 66 (fun q => Z.2.2.1 ≤ q)) (F0 m 33 ls []) := by
  intro a1 a2 a3 a4 q5 S et H locs ls h hst hg hw hl hv
  unfold v_X9_begin_33 at h
  refine lv_aload_n X.1 X.2.1 dX9_begin_33 rfl (lv_at hv 0 rfl) ?_
  refine xw_get X hk hw (i := 32) 0 xe_32 rfl tlX9 (by decide) rfl tw_164 dX9_begin_34 ?_
  refine lv_iload_n X.1 X.2.1 dX9_begin_37 rfl (lv_at hv 1 rfl) ?_
  refine lv_iload_n X.1 X.2.1 dX9_begin_38 rfl (lv_at hv 2 rfl) ?_
  refine lv_iload_n X.1 X.2.1 dX9_begin_39 rfl (lv_at hv 3 rfl) ?_
  refine lv_iload X.1 X.2.1 dX9_begin_40 (lv_at hv 4 rfl) ?_
  obtain ⟨o_11, h⟩ := h
  replace hv : lv_has ls 7 [(0, .ref (et (32))), (5, va_rf (Option.map et (q5)))] := lv_sub hv [0, 5] rfl
  refine xc_ai (xr_V (n := 4) (As := [.int (a1), .int (a2), .int (a3), .int (a4)]) (i := 33) X hk hw hv.1 (c_X0_perform l Z et S (a1) (a2) (a3) (a4) _ (hg.2.2.2.1) h) (tb_V tw_236 tw_233 tw_234 tw_235 tw_40) xe_33 rfl rfl rfl rfl (by decide +kernel) ⟨Nat.le_of_ble_eq_true rfl, Nat.le_of_ble_eq_true rfl⟩ rfl (Nat.le_of_ble_eq_true rfl) dX9_begin_42 ⟨Nat.le_of_ble_eq_true rfl, Nat.le_of_ble_eq_true rfl⟩) hl (fun r_13 S_12 et1 H locs h hs1 hg1 hw hl => ?_)
  have o_14 := oT_g hg1 o_11
  replace hst := hst.trans h5 hg hs1
  replace hg := hg.trans hg1
  have e_15 := hs1 (32) (sn_ne (xe_32 (S := S)))
  have e_16 : Option.map et1 (q5) = Option.map et (q5) := oT_map hs1 o_11
  replace hv : lv_has ls 7 [(0, .ref (et1 (32))), (5, va_rf (Option.map et1 (q5)))] := by rw [e_15, e_16]; exact hv
  generalize et1 = et at *
  refine lv_istore (lv' := [(6, .int (r_13)), (0, .ref (et (32))), (5, va_rf (Option.map et (q5)))]) X.1 X.2.1 dX9_begin_45 hv (by decide) (by generalize q5 = q9; cases q9 <;> rfl) (fun ls hv => ?_)
  refine xv_aload X.1 X.2.1 dX9_begin_47 (lv_at hv 2 rfl) ?_
  refine xv_ifnull (tgt := 77) X.1 X.2.1 dX9_begin_49 (by decide) (fun c_17 => ?_) (fun u_18 c_17 => ?_)
  · skip
    replace h := h.1 c_17
    exact j_X9_begin_77 X hk hr hlocks h5 (r_13) S_12 et _ _ _ h hst hg hw hl (lv_sub hv [1, 0] rfl)
  · skip
    replace h := h.2 u_18 c_17
    rw [c_17] at hv
    replace hv : lv_has ls 7 [(6, .int (r_13)), (0, .ref (et (32))), (5, .ref (et (u_18)))] := hv
    refine lv_aload X.1 X.2.1 dX9_begin_52 (lv_at hv 2 rfl) ?_
    refine lv_aload_n X.1 X.2.1 dX9_begin_54 rfl (lv_at hv 1 rfl) ?_
    refine xw_get X hk hw (i := 32) 3 xe_32 rfl tlX9 (by decide) rfl tw_167 dX9_begin_55 ?_
    obtain ⟨o_19, h⟩ := h
    refine xc_i (xr_V (n := 1) (As := [.ref (et (36))]) (i := u_18) X hk hw hv.1 (c_X5_differsFrom l Z et S_12 (u_18) (36) _ h) (tb_V tw_427 tw_424 tw_425 tw_426 tw_48) (xE_row o_19) rfl rfl rfl rfl (by decide +kernel) ⟨Nat.le_of_ble_eq_true rfl, Nat.le_of_ble_eq_true rfl⟩ rfl (Nat.le_of_ble_eq_true rfl) dX9_begin_58 ⟨Nat.le_of_ble_eq_true rfl, Nat.le_of_ble_eq_true rfl⟩) hl (fun r_21 S_20 H locs h hN hw hl => ?_)
    have o_22 := oT_N hN o_14
    have o_23 := oR_N hN o_19
    replace hg := hg.N hN
    refine lv_if_eq (tgt := 77) X.1 X.2.1 dX9_begin_61 (by decide) (fun c_24 => ?_) (fun c_24 => ?_)
    · skip
      replace h := h.1 c_24
      exact j_X9_begin_77 X hk hr hlocks h5 (r_13) S_20 et _ _ _ h hst hg hw hl (lv_sub hv [1, 0] rfl)
    · skip
      replace h := h.2 c_24
      refine lv_aload_n X.1 X.2.1 dX9_begin_64 rfl (lv_at hv 1 rfl) ?_
      refine xw_get X hk hw (i := 32) 2 xe_32 rfl tlX9 (by decide) rfl tw_166 dX9_begin_65 ?_
      refine lv_aload X.1 X.2.1 dX9_begin_68 (lv_at hv 2 rfl) ?_
      refine lv_aload_n X.1 X.2.1 dX9_begin_70 rfl (lv_at hv 1 rfl) ?_
      refine xw_get X hk hw (i := 32) 3 xe_32 rfl tlX9 (by decide) rfl tw_167 dX9_begin_71 ?_
      refine xc_v (xr_V (n := 2) (As := [.ref (et (u_18)), .ref (et (36))]) (i := 35) X hk hw hv.1 (c_X1_write l Z et S_20 (u_18) (36) _ h) (tb_V tw_431 tw_428 tw_429 tw_430 tw_43) xe_35 rfl rfl rfl rfl (by decide +kernel) ⟨Nat.le_of_ble_eq_true rfl, Nat.le_of_ble_eq_true rfl⟩ rfl (Nat.le_of_ble_eq_true rfl) dX9_begin_74 ⟨Nat.le_of_ble_eq_true rfl, Nat.le_of_ble_eq_true rfl⟩) hl (fun S_25 H locs h hN hw hl => ?_)
      have o_27 := oT_N hN o_22
      have o_28 := oR_N hN o_23
      replace hg := hg.N hN
      exact j_X9_begin_77 X hk hr hlocks h5 (r_13) S_25 et _ _ _ h hst hg hw hl (lv_sub hv [1, 0] rfl)
set_option maxHeartbeats 4000000 in
set_option maxRecDepth 100000 in
theorem c_X9_begin (l : Launch) (Z : xz_T) (et : Nat → Nat) (S : xs_T) (x1 : Int32) (x2 : Int32) (x3 : Int32) (x4 : Int32) (K : Int32 → xs_T → Prop) (h5 : xN S 5 = 0) (h : v_X9_begin x1 x2 x3 x4 S K) : Met l yX9_begin (wq yX9_begin cX9_begin 7 (some .int)) { frames := 6, cells := 2, slots := 66, locals := 142 } (xPc Z et S [.ref (et (32)), .int (x1), .int (x2), .int (x3), .int (x4)]) (xAi Z et S K) 2 66 (fun q => Z.2.2.1 ≤ q) := by
  refine Met.ofW (cc := cX9_begin) (maxL := 7) (ret := (some .int)) (by decide +kernel) rfl ?_
  intro p e s m args below meth c s₁ B hml hv0
  obtain ⟨rfl, hk, hw⟩ := hv0
  have X : CallFix p m c cX9_begin 7 s _ (wq yX9_begin cX9_begin 7 (some .int)) RX9 := ⟨B.exec, B.bytes, hml, findClass_of_methodNamed B.named, atoms_spec (ws := (wq yX9_begin cX9_begin 7 (some .int))) B.pre⟩
  have hr := B.returns
  have hlocks := B.notSynchronized
  have hl : xl Z [] := fun _ h => by cases h
  have hst : xst Z et S et := fun _ _ => rfl
  have hg : xgr S S := xgr.refl h5
  have hv := lv_entry [.ref (et (32)), .int (x1), .int (x2), .int (x3), .int (x4)] (n := 7) (Nat.le_of_ble_eq_true rfl)
  rw [lg_entry_eq]
  generalize (lg_sl [.ref (et (32)), .int (x1), .int (x2), .int (x3), .int (x4)] ++ List.replicate (7 - (lg_sl [.ref (et (32)), .int (x1), .int (x2), .int (x3), .int (x4)]).length) Slot.unset).toArray = ls at hv ⊢
  replace hv : lv_has ls 7 [(0, .ref (et (32))), (1, .int (x1)), (2, .int (x2)), (3, .int (x3)), (4, .int (x4))] := hv
  unfold v_X9_begin at h
  refine lv_aload_n X.1 X.2.1 dX9_begin_0 rfl (lv_at hv 0 rfl) ?_
  refine lv_dup X.1 X.2.1 dX9_begin_1 rfl ?_
  refine xw_get X hk hw (i := 32) 4 xe_32 rfl tlX9 (by decide) rfl tw_168 dX9_begin_2 ?_
  refine lv_iconst (v := 1) X.1 X.2.1 dX9_begin_5 (by decide) ?_
  refine lv_iadd X.1 X.2.1 dX9_begin_6 ?_
  refine xw_put X hk hw hl (i := 32) 4 xe_32 rfl rfl tlX9 tyX9 tyX9_ok nmX9 (by decide) tw_168 rfl rfl (Nat.le_of_ble_eq_true rfl) dX9_begin_7 (fun H locs hw hl => ?_)
  obtain ⟨S_1, e_2⟩ : ∃ T : xs_T, T = sF S 32 4 (((xF S 32 4) + 1)) := ⟨_, rfl⟩
  rw [← e_2] at hw
  replace h := h S_1 e_2
  have hN : S_1.2.2.2.2 = S.2.2.2.2 := by rw [e_2]; rfl
  replace hg := hg.N hN
  refine lv_aload_n X.1 X.2.1 dX9_begin_10 rfl (lv_at hv 0 rfl) ?_
  refine lv_iload_n X.1 X.2.1 dX9_begin_11 rfl (lv_at hv 1 rfl) ?_
  refine lv_iload_n X.1 X.2.1 dX9_begin_12 rfl (lv_at hv 2 rfl) ?_
  refine lv_iload_n X.1 X.2.1 dX9_begin_13 rfl (lv_at hv 3 rfl) ?_
  refine xc_q (xr_V (n := 3) (As := [.int (x1), .int (x2), .int (x3)]) (i := 32) X hk hw hv.1 (c_X9_rowAtRisk l Z et S_1 (x1) (x2) (x3) _ h) (tb_V tw_224 tw_221 tw_223 tw_1 tw_39) xe_32 rfl rfl rfl rfl (by decide +kernel) ⟨Nat.le_of_ble_eq_true rfl, Nat.le_of_ble_eq_true rfl⟩ rfl (Nat.le_of_ble_eq_true rfl) dX9_begin_14 ⟨Nat.le_of_ble_eq_true rfl, Nat.le_of_ble_eq_true rfl⟩) hl (fun r_4 S_3 H locs h hN hw hl => ?_)
  replace hg := hg.N hN
  refine xv_astore (lv' := [(5, va_rf (Option.map et (r_4))), (0, .ref (et (32))), (1, .int (x1)), (2, .int (x2)), (3, .int (x3)), (4, .int (x4))]) X.1 X.2.1 dX9_begin_17 hv (by decide) rfl (fun ls hv => ?_)
  refine xv_aload X.1 X.2.1 dX9_begin_19 (lv_at hv 0 rfl) ?_
  refine xv_ifnull (tgt := 33) X.1 X.2.1 dX9_begin_21 (by decide) (fun c_5 => ?_) (fun u_6 c_5 => ?_)
  · skip
    replace h := h.1 c_5
    exact j_X9_begin_33 X hk hr hlocks h5 (x1) (x2) (x3) (x4) (r_4) S_3 et _ _ _ h hst hg hw hl (lv_sub hv [1, 2, 3, 4, 5, 0] rfl)
  · skip
    replace h := h.2 u_6 c_5
    rw [c_5] at hv
    replace hv : lv_has ls 7 [(5, .ref (et (u_6))), (0, .ref (et (32))), (1, .int (x1)), (2, .int (x2)), (3, .int (x3)), (4, .int (x4))] := hv
    refine lv_aload X.1 X.2.1 dX9_begin_24 (lv_at hv 0 rfl) ?_
    refine lv_aload_n X.1 X.2.1 dX9_begin_26 rfl (lv_at hv 1 rfl) ?_
    refine xw_get X hk hw (i := 32) 3 xe_32 rfl tlX9 (by decide) rfl tw_167 dX9_begin_27 ?_
    obtain ⟨o_7, h⟩ := h
    refine xc_v (xr_V (n := 1) (As := [.ref (et (36))]) (i := u_6) X hk hw hv.1 (c_X5_copyTo l Z et S_3 (u_6) (36) _ h) (tb_V tw_229 tw_226 tw_227 tw_228 tw_48) (xE_row o_7) rfl rfl rfl rfl (by decide +kernel) ⟨Nat.le_of_ble_eq_true rfl, Nat.le_of_ble_eq_true rfl⟩ rfl (Nat.le_of_ble_eq_true rfl) dX9_begin_30 ⟨Nat.le_of_ble_eq_true rfl, Nat.le_of_ble_eq_true rfl⟩) hl (fun S_8 H locs h hN hw hl => ?_)
    have o_10 := oR_N hN o_7
    replace hg := hg.N hN
    exact j_X9_begin_33 X hk hr hlocks h5 (x1) (x2) (x3) (x4) (some (u_6)) S_8 et _ _ _ h hst hg hw hl (lv_sub hv [1, 2, 3, 4, 5, 0] rfl)
def v_X9_act (x1 : Int32) (x2 : Int32) (x3 : Int32) (x4 : Int32) (S : xs_T) (K : Int32 → xs_T → Prop) : Prop := ((12 < x1 → K ((-1)) S) ∧ (¬ 12 < x1 → v_X9_isAsTold (x1) (x2) (x3) (x4) S (fun (r_3 : Int32) (S_2 : xs_T) => ((¬ r_3 = 0 → (((xF S_2 32 4) < 4000 → v_X9_begin (x1) (x2) (x3) (x4) S_2 (fun (r_7 : Int32) (S_6 : xs_T) => K (r_7) S_6)) ∧ (¬ (xF S_2 32 4) < 4000 → K (6) S_2))) ∧ (r_3 = 0 → K ((-1)) S_2)))))
set_option maxHeartbeats 4000000 in
set_option maxRecDepth 100000 in
theorem c_X9_act (l : Launch) (Z : xz_T) (et : Nat → Nat) (S : xs_T) (x1 : Int32) (x2 : Int32) (x3 : Int32) (x4 : Int32) (K : Int32 → xs_T → Prop) (h5 : xN S 5 = 0) (h : v_X9_act x1 x2 x3 x4 S K) : Met l yX9_act (wq yX9_act cX9_act 5 (some .int)) { frames := 7, cells := 2, slots := 66, locals := 168 } (xPc Z et S [.ref (et (32)), .int (x1), .int (x2), .int (x3), .int (x4)]) (xAi Z et S K) 2 66 (fun q => Z.2.2.1 ≤ q) := by
  refine Met.ofW (cc := cX9_act) (maxL := 5) (ret := (some .int)) (by decide +kernel) rfl ?_
  intro p e s m args below meth c s₁ B hml hv0
  obtain ⟨rfl, hk, hw⟩ := hv0
  have X : CallFix p m c cX9_act 5 s _ (wq yX9_act cX9_act 5 (some .int)) RX9 := ⟨B.exec, B.bytes, hml, findClass_of_methodNamed B.named, atoms_spec (ws := (wq yX9_act cX9_act 5 (some .int))) B.pre⟩
  have hr := B.returns
  have hlocks := B.notSynchronized
  have hl : xl Z [] := fun _ h => by cases h
  have hst : xst Z et S et := fun _ _ => rfl
  have hg : xgr S S := xgr.refl h5
  have hv := lv_entry [.ref (et (32)), .int (x1), .int (x2), .int (x3), .int (x4)] (n := 5) (Nat.le_of_ble_eq_true rfl)
  rw [lg_entry_eq]
  generalize (lg_sl [.ref (et (32)), .int (x1), .int (x2), .int (x3), .int (x4)] ++ List.replicate (5 - (lg_sl [.ref (et (32)), .int (x1), .int (x2), .int (x3), .int (x4)]).length) Slot.unset).toArray = ls at hv ⊢
  replace hv : lv_has ls 5 [(0, .ref (et (32))), (1, .int (x1)), (2, .int (x2)), (3, .int (x3)), (4, .int (x4))] := hv
  unfold v_X9_act at h
  refine lv_iload_n X.1 X.2.1 dX9_act_0 rfl (lv_at hv 1 rfl) ?_
  refine lv_bipush (v := 12) X.1 X.2.1 dX9_act_1 (by decide) ?_
  refine lv_icmp_gt (tgt := 17) X.1 X.2.1 dX9_act_3 (by decide) (fun c_1 => ?_) (fun c_1 => ?_)
  · skip
    replace h := h.1 c_1
    refine lv_iconst (v := (-1)) X.1 X.2.1 dX9_act_17 (by decide) ?_
    refine W.widen (k := 2) (n := 66) (by omega) (by omega) ?_
    exact xt_ai X hr hlocks hst hg hw hl h dX9_act_18
  · skip
    replace h := h.2 c_1
    refine lv_iload_n X.1 X.2.1 dX9_act_6 rfl (lv_at hv 1 rfl) ?_
    refine lv_iload_n X.1 X.2.1 dX9_act_7 rfl (lv_at hv 2 rfl) ?_
    refine lv_iload_n X.1 X.2.1 dX9_act_8 rfl (lv_at hv 3 rfl) ?_
    refine lv_iload X.1 X.2.1 dX9_act_9 (lv_at hv 4 rfl) ?_
    refine xc_i (xr_S (n := 4) X hk hw hv.1 (c_X9_isAsTold l Z et S (x1) (x2) (x3) (x4) _ h) (tb_S tw_198 tw_196 tw_197 tw_39) rfl rfl (by decide +kernel) ⟨Nat.le_of_ble_eq_true rfl, Nat.le_of_ble_eq_true rfl⟩ rfl (Nat.le_of_ble_eq_true rfl) dX9_act_11 ⟨Nat.le_of_ble_eq_true rfl, Nat.le_of_ble_eq_true rfl⟩) hl (fun r_3 S_2 H locs h hN hw hl => ?_)
    replace hg := hg.N hN
    refine lv_if_ne (tgt := 19) X.1 X.2.1 dX9_act_14 (by decide) (fun c_4 => ?_) (fun c_4 => ?_)
    · skip
      replace h := h.1 c_4
      refine lv_aload_n X.1 X.2.1 dX9_act_19 rfl (lv_at hv 0 rfl) ?_
      refine xw_get X hk hw (i := 32) 4 xe_32 rfl tlX9 (by decide) rfl tw_168 dX9_act_20 ?_
      refine lv_sipush (v := 4000) X.1 X.2.1 dX9_act_23 (by decide) ?_
      refine lv_icmp_lt (tgt := 32) X.1 X.2.1 dX9_act_26 (by decide) (fun c_5 => ?_) (fun c_5 => ?_)
      · skip
        replace h := h.1 c_5
        refine lv_aload_n X.1 X.2.1 dX9_act_32 rfl (lv_at hv 0 rfl) ?_
        refine lv_iload_n X.1 X.2.1 dX9_act_33 rfl (lv_at hv 1 rfl) ?_
        refine lv_iload_n X.1 X.2.1 dX9_act_34 rfl (lv_at hv 2 rfl) ?_
        refine lv_iload_n X.1 X.2.1 dX9_act_35 rfl (lv_at hv 3 rfl) ?_
        refine lv_iload X.1 X.2.1 dX9_act_36 (lv_at hv 4 rfl) ?_
        replace hv : lv_has ls 5 [] := lv_sub hv [] rfl
        refine xc_ai (xr_V (n := 4) (As := [.int (x1), .int (x2), .int (x3), .int (x4)]) (i := 32) X hk hw hv.1 (c_X9_begin l Z et S_2 (x1) (x2) (x3) (x4) _ (hg.2.2.2.1) h) (tb_V tw_220 tw_217 tw_219 tw_0 tw_39) xe_32 rfl rfl rfl rfl (by decide +kernel) ⟨Nat.le_of_ble_eq_true rfl, Nat.le_of_ble_eq_true rfl⟩ rfl (Nat.le_of_ble_eq_true rfl) dX9_act_38 ⟨Nat.le_of_ble_eq_true rfl, Nat.le_of_ble_eq_true rfl⟩) hl (fun r_7 S_6 et1 H locs h hs1 hg1 hw hl => ?_)
        replace hst := hst.trans h5 hg hs1
        replace hg := hg.trans hg1
        generalize et1 = et at *
        exact xt_ai X hr hlocks hst hg hw hl h dX9_act_41
      · skip
        replace h := h.2 c_5
        refine lv_bipush (v := 6) X.1 X.2.1 dX9_act_29 (by decide) ?_
        refine W.widen (k := 2) (n := 66) (by omega) (by omega) ?_
        exact xt_ai X hr hlocks hst hg hw hl h dX9_act_31
    · skip
      replace h := h.2 c_4
      refine lv_iconst (v := (-1)) X.1 X.2.1 dX9_act_17 (by decide) ?_
      refine W.widen (k := 2) (n := 66) (by omega) (by omega) ?_
      exact xt_ai X hr hlocks hst hg hw hl h dX9_act_18
def v_X9_run_34 (nu : Nat) (K : Int32 → xs_T → Prop) : Nat → Nat → Int32 → Int32 → Int32 → xs_T → Prop
  | 0, _, _, _, _, _ => False
  | n + 1, k9, a1, a2, a3, S => ((a1 < a3 → K (0) S) ∧ (¬ a1 < a3 → (((xF S 34 5) ≤ a2 → K (0) S) ∧ (¬ (xF S 34 5) ≤ a2 → (((xF S 32 4) < 4000 → ((¬ a3 = a1 → ∀ S_14 : xs_T, S_14 = sF S 32 7 (((xF S 32 7) + 1)) → ∃ j_16 : Nat, a2 = nI j_16 ∧ j_16 < 60 ∧ ∃ j_19 : Nat, a2 = nI j_19 ∧ j_19 < 60 ∧ ∃ j_22 : Nat, a2 = nI j_22 ∧ j_22 < 60 ∧ ∃ j_25 : Nat, a2 = nI j_25 ∧ j_25 < 60 ∧ k9 + 1 ≤ nu ∧ v_X9_begin ((xI S_14 42 j_16)) ((xI S_14 43 j_19)) ((xI S_14 44 j_22)) ((xI S_14 45 j_25)) S_14 (fun (r_30 : Int32) (S_29 : xs_T) => ((¬ r_30 = 0 → v_X8_meeting (a2) (r_30) S_29 (fun (r_34 : Int32) (S_33 : xs_T) => ((¬ r_34 = (-1) → ((r_30 = 0 → v_X9_run_34 nu K n ((k9 + 1)) (a1) (r_34) ((a3 + 1)) S_33) ∧ (¬ r_30 = 0 → ∀ S_37 : xs_T, S_37 = sF S_33 32 6 (((xF S_33 32 6) + 1)) → v_X9_run_34 nu K n ((k9 + 1)) (a1) (r_34) ((a3 + 1)) S_37))) ∧ (r_34 = (-1) → ∀ S_39 : xs_T, S_39 = sF S_33 32 8 (a2) → K (r_30) S_39)))) ∧ (r_30 = 0 → v_X8_following (a2) S_29 (fun (r_42 : Int32) (S_41 : xs_T) => ((¬ r_42 = (-1) → ((r_30 = 0 → v_X9_run_34 nu K n ((k9 + 1)) (a1) (r_42) ((a3 + 1)) S_41) ∧ (¬ r_30 = 0 → ∀ S_45 : xs_T, S_45 = sF S_41 32 6 (((xF S_41 32 6) + 1)) → v_X9_run_34 nu K n ((k9 + 1)) (a1) (r_42) ((a3 + 1)) S_45))) ∧ (r_42 = (-1) → ∀ S_47 : xs_T, S_47 = sF S_41 32 8 (a2) → K (r_30) S_47))))))) ∧ (a3 = a1 → K (7) S))) ∧ (¬ (xF S 32 4) < 4000 → ∀ S_49 : xs_T, S_49 = sF S 32 8 (a2) → K (6) S_49))))))
def v_X9_run (nu : Nat) (x1 : Int32) (S : xs_T) (K : Int32 → xs_T → Prop) : Prop := ((x1 < 0 → K ((-1)) S) ∧ (¬ x1 < 0 → ((x1 ≤ 300 → v_X8_forgetAgains  S (fun (S_3 : xs_T) => ∀ S_5 : xs_T, S_5 = sF S_3 32 7 (0) → ∀ S_7 : xs_T, S_7 = sF S_5 32 8 ((-1)) → ∃ n, v_X9_run_34 nu K n (0) (x1) (0) (0) S_7)) ∧ (¬ x1 ≤ 300 → K ((-1)) S))))
set_option maxHeartbeats 4000000 in
set_option maxRecDepth 100000 in
theorem j_X9_run_34 {l : Launch} {p : Program} {e : Env} {s : State} {m : MethodId} {args : Array Value} {below : List Frame} {meth : Method} {c : Code} {Z : xz_T} {et0 : Nat → Nat} {S0 : xs_T} {K : Int32 → xs_T → Prop} {nu : Nat} (X : CallFix p m c cX9_run 6 s args (wq yX9_run cX9_run 6 (some .int)) RX9) (hk : xk Z s) (hr : meth.sig.returnType = (some .int)) (hlocks : meth.locks = false) (h5 : xN S0 5 = 0) : ∀ (n : Nat) (k9 : Nat) (a1 : Int32) (a2 : Int32) (a3 : Int32) (S : xs_T) (et : Nat → Nat) (H : Heap) (locs : List Loc) (ls : Array Slot), v_X9_run_34 nu K n k9 a1 a2 a3 S → xst Z et0 S0 et → xgr S0 S → wd Z et S H → xl Z locs → lv_has ls 6 [(0, .ref (et (32))), (1, .int (a1)), (2, .int (a2)), (3, .int (a3))] → k9 ≤ nu → W p l e (headSpec (wq yX9_run cX9_run 6 (some .int)) { frames := 7, cells := (2 * nu), slots := (66 * nu), locals := 168 }).room s m args below meth c H locs (2 * k9) (66 * k9) (MQ below (xAi Z et0 S0 K) args s (2 * nu) (66 * nu) (fun q => Z.2.2.1 ≤ q)) (F0 m 34 ls []) := by
  intro n
  induction n with
  | zero =>
    intro k9 a1 a2 a3 S et H locs ls h hst hg hw hl hv hku
    exact False.elim h
  | succ n ih =>
    intro k9 a1 a2 a3 S et H locs ls h hst hg hw hl hv hku
    rw [v_X9_run_34] at h
    refine lv_iload_n X.1 X.2.1 dX9_run_34 rfl (lv_at hv 3 rfl) ?_
    refine lv_iload_n X.1 X.2.1 dX9_run_35 rfl (lv_at hv 1 rfl) ?_
    refine lv_icmp_gt (tgt := 194) X.1 X.2.1 dX9_run_36 (by decide) (fun c_10 => ?_) (fun c_10 => ?_)
    · skip
      replace h := h.1 c_10
      refine lv_iconst (v := 0) X.1 X.2.1 dX9_run_194 (by decide) ?_
      refine W.widen (k := 2 * nu) (n := 66 * nu) (by omega) (by omega) ?_
      exact xt_ai X hr hlocks hst hg hw hl h dX9_run_195
    · skip
      replace h := h.2 c_10
      refine lv_iload_n X.1 X.2.1 dX9_run_39 rfl (lv_at hv 2 rfl) ?_
      refine lv_aload_n X.1 X.2.1 dX9_run_40 rfl (lv_at hv 0 rfl) ?_
      refine xw_get X hk hw (i := 32) 1 xe_32 rfl tlX9 (by decide) rfl tw_165 dX9_run_41 ?_
      refine xw_getN X hk hw (i := 34) 5 xe_34 rfl tlX8 (by decide) rfl xn_13 dX9_run_44 ?_
      refine lv_icmp_ge (tgt := 194) X.1 X.2.1 dX9_run_47 (by decide) (fun c_11 => ?_) (fun c_11 => ?_)
      · skip
        replace h := h.1 c_11
        refine lv_iconst (v := 0) X.1 X.2.1 dX9_run_194 (by decide) ?_
        refine W.widen (k := 2 * nu) (n := 66 * nu) (by omega) (by omega) ?_
        exact xt_ai X hr hlocks hst hg hw hl h dX9_run_195
      · skip
        replace h := h.2 c_11
        refine lv_aload_n X.1 X.2.1 dX9_run_50 rfl (lv_at hv 0 rfl) ?_
        refine xw_get X hk hw (i := 32) 4 xe_32 rfl tlX9 (by decide) rfl tw_168 dX9_run_51 ?_
        refine lv_sipush (v := 4000) X.1 X.2.1 dX9_run_54 (by decide) ?_
        refine lv_icmp_lt (tgt := 68) X.1 X.2.1 dX9_run_57 (by decide) (fun c_12 => ?_) (fun c_12 => ?_)
        · skip
          replace h := h.1 c_12
          refine lv_iload_n X.1 X.2.1 dX9_run_68 rfl (lv_at hv 3 rfl) ?_
          refine lv_iload_n X.1 X.2.1 dX9_run_69 rfl (lv_at hv 1 rfl) ?_
          refine lv_icmp_ne (tgt := 76) X.1 X.2.1 dX9_run_70 (by decide) (fun c_13 => ?_) (fun c_13 => ?_)
          · skip
            replace h := h.1 c_13
            refine lv_aload_n X.1 X.2.1 dX9_run_76 rfl (lv_at hv 0 rfl) ?_
            refine lv_dup X.1 X.2.1 dX9_run_77 rfl ?_
            refine xw_get X hk hw (i := 32) 7 xe_32 rfl tlX9 (by decide) rfl tw_171 dX9_run_78 ?_
            refine lv_iconst (v := 1) X.1 X.2.1 dX9_run_81 (by decide) ?_
            refine lv_iadd X.1 X.2.1 dX9_run_82 ?_
            refine xw_put X hk hw hl (i := 32) 7 xe_32 rfl rfl tlX9 tyX9 tyX9_ok nmX9 (by decide) tw_171 rfl rfl (Nat.le_of_ble_eq_true rfl) dX9_run_83 (fun H locs hw hl => ?_)
            obtain ⟨S_14, e_15⟩ : ∃ T : xs_T, T = sF S 32 7 (((xF S 32 7) + 1)) := ⟨_, rfl⟩
            rw [← e_15] at hw
            replace h := h S_14 e_15
            have hN : S_14.2.2.2.2 = S.2.2.2.2 := by rw [e_15]; rfl
            replace hg := hg.N hN
            refine lv_aload_n X.1 X.2.1 dX9_run_86 rfl (lv_at hv 0 rfl) ?_
            refine lv_aload_n X.1 X.2.1 dX9_run_87 rfl (lv_at hv 0 rfl) ?_
            refine xw_get X hk hw (i := 32) 1 xe_32 rfl tlX9 (by decide) rfl tw_165 dX9_run_88 ?_
            refine xw_getN X hk hw (i := 34) 0 xe_34 rfl tlX8 (by decide) rfl xn_9 dX9_run_91 ?_
            refine lv_iload_n X.1 X.2.1 dX9_run_94 rfl (lv_at hv 2 rfl) ?_
            obtain ⟨j_16, e_17, b_18, h⟩ := h
            refine xw_ild X hk hw xe_42 e_17 b_18 (by decide) dX9_run_95 ?_
            refine lv_aload_n X.1 X.2.1 dX9_run_96 rfl (lv_at hv 0 rfl) ?_
            refine xw_get X hk hw (i := 32) 1 xe_32 rfl tlX9 (by decide) rfl tw_165 dX9_run_97 ?_
            refine xw_getN X hk hw (i := 34) 1 xe_34 rfl tlX8 (by decide) rfl xn_10 dX9_run_100 ?_
            refine lv_iload_n X.1 X.2.1 dX9_run_103 rfl (lv_at hv 2 rfl) ?_
            obtain ⟨j_19, e_20, b_21, h⟩ := h
            refine xw_ild X hk hw xe_43 e_20 b_21 (by decide) dX9_run_104 ?_
            refine lv_aload_n X.1 X.2.1 dX9_run_105 rfl (lv_at hv 0 rfl) ?_
            refine xw_get X hk hw (i := 32) 1 xe_32 rfl tlX9 (by decide) rfl tw_165 dX9_run_106 ?_
            refine xw_getN X hk hw (i := 34) 2 xe_34 rfl tlX8 (by decide) rfl xn_11 dX9_run_109 ?_
            refine lv_iload_n X.1 X.2.1 dX9_run_112 rfl (lv_at hv 2 rfl) ?_
            obtain ⟨j_22, e_23, b_24, h⟩ := h
            refine xw_ild X hk hw xe_44 e_23 b_24 (by decide) dX9_run_113 ?_
            refine lv_aload_n X.1 X.2.1 dX9_run_114 rfl (lv_at hv 0 rfl) ?_
            refine xw_get X hk hw (i := 32) 1 xe_32 rfl tlX9 (by decide) rfl tw_165 dX9_run_115 ?_
            refine xw_getN X hk hw (i := 34) 3 xe_34 rfl tlX8 (by decide) rfl xn_12 dX9_run_118 ?_
            refine lv_iload_n X.1 X.2.1 dX9_run_121 rfl (lv_at hv 2 rfl) ?_
            obtain ⟨j_25, e_26, b_27, h⟩ := h
            refine xw_ild X hk hw xe_45 e_26 b_27 (by decide) dX9_run_122 ?_
            obtain ⟨b_28, h⟩ := h
            refine xc_ai (xr_V (n := 4) (As := [.int ((xI S_14 42 j_16)), .int ((xI S_14 43 j_19)), .int ((xI S_14 44 j_22)), .int ((xI S_14 45 j_25))]) (i := 32) X hk hw hv.1 (c_X9_begin l Z et S_14 ((xI S_14 42 j_16)) ((xI S_14 43 j_19)) ((xI S_14 44 j_22)) ((xI S_14 45 j_25)) _ (hg.2.2.2.1) h) (tb_V tw_220 tw_217 tw_219 tw_0 tw_39) xe_32 rfl rfl rfl rfl (by decide +kernel) ⟨Nat.le_of_ble_eq_true rfl, Nat.le_of_ble_eq_true rfl⟩ rfl (Nat.le_of_ble_eq_true rfl) dX9_run_123 ⟨by show 2 * k9 + 2 ≤ 2 * nu; omega, by show 66 * k9 + 66 ≤ 66 * nu; omega⟩) hl (fun r_30 S_29 et1 H locs h hs1 hg1 hw hl => ?_)
            replace hst := hst.trans h5 hg hs1
            replace hg := hg.trans hg1
            have e_31 := hs1 (32) (sn_ne (xe_32 (S := S_14)))
            replace hv : lv_has ls 6 [(0, .ref (et1 (32))), (1, .int (a1)), (2, .int (a2)), (3, .int (a3))] := by rw [e_31]; exact hv
            generalize et1 = et at *
            refine W.widen (k := 2 * (k9 + 1)) (n := 66 * (k9 + 1)) (by omega) (by omega) ?_
            replace hku := b_28
            refine lv_istore (lv' := [(4, .int (r_30)), (0, .ref (et (32))), (1, .int (a1)), (2, .int (a2)), (3, .int (a3))]) X.1 X.2.1 dX9_run_126 hv (by decide) rfl (fun ls hv => ?_)
            refine lv_iload X.1 X.2.1 dX9_run_128 (lv_at hv 0 rfl) ?_
            refine lv_if_ne (tgt := 144) X.1 X.2.1 dX9_run_130 (by decide) (fun c_32 => ?_) (fun c_32 => ?_)
            · skip
              replace h := h.1 c_32
              refine lv_aload_n X.1 X.2.1 dX9_run_144 rfl (lv_at hv 1 rfl) ?_
              refine xw_get X hk hw (i := 32) 1 xe_32 rfl tlX9 (by decide) rfl tw_165 dX9_run_145 ?_
              refine lv_iload_n X.1 X.2.1 dX9_run_148 rfl (lv_at hv 3 rfl) ?_
              refine lv_iload X.1 X.2.1 dX9_run_149 (lv_at hv 0 rfl) ?_
              refine xc_i (xr_V (n := 2) (As := [.int (a2), .int (r_30)]) (i := 34) X hk hw hv.1 (c_X8_meeting l Z et S_29 (a2) (r_30) _ h) (tb_V tw_454 tw_451 tw_452 tw_453 tw_42) xe_34 rfl rfl rfl rfl (by decide +kernel) ⟨Nat.le_of_ble_eq_true rfl, Nat.le_of_ble_eq_true rfl⟩ rfl (Nat.le_of_ble_eq_true rfl) dX9_run_151 ⟨by show 2 * (k9 + 1) + 0 ≤ 2 * nu; omega, by show 66 * (k9 + 1) + 0 ≤ 66 * nu; omega⟩) hl (fun r_34 S_33 H locs h hN hw hl => ?_)
              replace hg := hg.N hN
              refine lv_istore (lv' := [(5, .int (r_34)), (4, .int (r_30)), (0, .ref (et (32))), (1, .int (a1)), (2, .int (a2)), (3, .int (a3))]) X.1 X.2.1 dX9_run_154 hv (by decide) rfl (fun ls hv => ?_)
              refine lv_iload X.1 X.2.1 dX9_run_156 (lv_at hv 0 rfl) ?_
              refine lv_iconst (v := (-1)) X.1 X.2.1 dX9_run_158 (by decide) ?_
              refine lv_icmp_ne (tgt := 170) X.1 X.2.1 dX9_run_159 (by decide) (fun c_35 => ?_) (fun c_35 => ?_)
              · skip
                replace h := h.1 c_35
                refine lv_iload X.1 X.2.1 dX9_run_170 (lv_at hv 1 rfl) ?_
                refine lv_if_eq (tgt := 185) X.1 X.2.1 dX9_run_172 (by decide) (fun c_36 => ?_) (fun c_36 => ?_)
                · skip
                  replace h := h.1 c_36
                  refine lv_iload X.1 X.2.1 dX9_run_185 (lv_at hv 0 rfl) ?_
                  refine lv_istore_n (lv' := [(2, .int (r_34)), (5, .int (r_34)), (4, .int (r_30)), (0, .ref (et (32))), (1, .int (a1)), (3, .int (a3))]) X.1 X.2.1 dX9_run_187 rfl hv (by decide) rfl (fun ls hv => ?_)
                  refine lv_iinc (v := (a3 + 1)) (lv' := [(3, .int ((a3 + 1))), (2, .int (r_34)), (5, .int (r_34)), (4, .int (r_30)), (0, .ref (et (32))), (1, .int (a1))]) X.1 X.2.1 dX9_run_188 hv (k := 5) rfl rfl (by decide) rfl (fun ls hv => ?_)
                  refine lv_goto (tgt := 34) X.1 X.2.1 dX9_run_191 (by decide) ?_
                  exact ih ((k9 + 1)) (a1) (r_34) ((a3 + 1)) S_33 et _ _ _ h hst hg hw hl (lv_sub hv [4, 5, 1, 0] rfl) hku
                · skip
                  replace h := h.2 c_36
                  refine lv_aload_n X.1 X.2.1 dX9_run_175 rfl (lv_at hv 2 rfl) ?_
                  refine lv_dup X.1 X.2.1 dX9_run_176 rfl ?_
                  refine xw_get X hk hw (i := 32) 6 xe_32 rfl tlX9 (by decide) rfl tw_170 dX9_run_177 ?_
                  refine lv_iconst (v := 1) X.1 X.2.1 dX9_run_180 (by decide) ?_
                  refine lv_iadd X.1 X.2.1 dX9_run_181 ?_
                  refine xw_put X hk hw hl (i := 32) 6 xe_32 rfl rfl tlX9 tyX9 tyX9_ok nmX9 (by decide) tw_170 rfl rfl (Nat.le_of_ble_eq_true rfl) dX9_run_182 (fun H locs hw hl => ?_)
                  obtain ⟨S_37, e_38⟩ : ∃ T : xs_T, T = sF S_33 32 6 (((xF S_33 32 6) + 1)) := ⟨_, rfl⟩
                  rw [← e_38] at hw
                  replace h := h S_37 e_38
                  have hN : S_37.2.2.2.2 = S_33.2.2.2.2 := by rw [e_38]; rfl
                  replace hg := hg.N hN
                  refine lv_iload X.1 X.2.1 dX9_run_185 (lv_at hv 0 rfl) ?_
                  refine lv_istore_n (lv' := [(2, .int (r_34)), (5, .int (r_34)), (4, .int (r_30)), (0, .ref (et (32))), (1, .int (a1)), (3, .int (a3))]) X.1 X.2.1 dX9_run_187 rfl hv (by decide) rfl (fun ls hv => ?_)
                  refine lv_iinc (v := (a3 + 1)) (lv' := [(3, .int ((a3 + 1))), (2, .int (r_34)), (5, .int (r_34)), (4, .int (r_30)), (0, .ref (et (32))), (1, .int (a1))]) X.1 X.2.1 dX9_run_188 hv (k := 5) rfl rfl (by decide) rfl (fun ls hv => ?_)
                  refine lv_goto (tgt := 34) X.1 X.2.1 dX9_run_191 (by decide) ?_
                  exact ih ((k9 + 1)) (a1) (r_34) ((a3 + 1)) S_37 et _ _ _ h hst hg hw hl (lv_sub hv [4, 5, 1, 0] rfl) hku
              · skip
                replace h := h.2 c_35
                refine lv_aload_n X.1 X.2.1 dX9_run_162 rfl (lv_at hv 2 rfl) ?_
                refine lv_iload_n X.1 X.2.1 dX9_run_163 rfl (lv_at hv 4 rfl) ?_
                refine xw_put X hk hw hl (i := 32) 8 xe_32 rfl rfl tlX9 tyX9 tyX9_ok nmX9 (by decide) tw_172 rfl rfl (Nat.le_of_ble_eq_true rfl) dX9_run_164 (fun H locs hw hl => ?_)
                obtain ⟨S_39, e_40⟩ : ∃ T : xs_T, T = sF S_33 32 8 (a2) := ⟨_, rfl⟩
                rw [← e_40] at hw
                replace h := h S_39 e_40
                have hN : S_39.2.2.2.2 = S_33.2.2.2.2 := by rw [e_40]; rfl
                replace hg := hg.N hN
                refine lv_iload X.1 X.2.1 dX9_run_167 (lv_at hv 1 rfl) ?_
                refine W.widen (k := 2 * nu) (n := 66 * nu) (by omega) (by omega) ?_
                exact xt_ai X hr hlocks hst hg hw hl h dX9_run_169
            · skip
              replace h := h.2 c_32
              refine lv_aload_n X.1 X.2.1 dX9_run_133 rfl (lv_at hv 1 rfl) ?_
              refine xw_get X hk hw (i := 32) 1 xe_32 rfl tlX9 (by decide) rfl tw_165 dX9_run_134 ?_
              refine lv_iload_n X.1 X.2.1 dX9_run_137 rfl (lv_at hv 3 rfl) ?_
              refine xc_i (xr_V (n := 1) (As := [.int (a2)]) (i := 34) X hk hw hv.1 (c_X8_following l Z et S_29 (a2) _ h) (tb_V tw_447 tw_444 tw_445 tw_446 tw_42) xe_34 rfl rfl rfl rfl (by decide +kernel) ⟨Nat.le_of_ble_eq_true rfl, Nat.le_of_ble_eq_true rfl⟩ rfl (Nat.le_of_ble_eq_true rfl) dX9_run_138 ⟨by show 2 * (k9 + 1) + 0 ≤ 2 * nu; omega, by show 66 * (k9 + 1) + 0 ≤ 66 * nu; omega⟩) hl (fun r_42 S_41 H locs h hN hw hl => ?_)
              replace hg := hg.N hN
              refine lv_goto (tgt := 154) X.1 X.2.1 dX9_run_141 (by decide) ?_
              refine lv_istore (lv' := [(5, .int (r_42)), (4, .int (r_30)), (0, .ref (et (32))), (1, .int (a1)), (2, .int (a2)), (3, .int (a3))]) X.1 X.2.1 dX9_run_154 hv (by decide) rfl (fun ls hv => ?_)
              refine lv_iload X.1 X.2.1 dX9_run_156 (lv_at hv 0 rfl) ?_
              refine lv_iconst (v := (-1)) X.1 X.2.1 dX9_run_158 (by decide) ?_
              refine lv_icmp_ne (tgt := 170) X.1 X.2.1 dX9_run_159 (by decide) (fun c_43 => ?_) (fun c_43 => ?_)
              · skip
                replace h := h.1 c_43
                refine lv_iload X.1 X.2.1 dX9_run_170 (lv_at hv 1 rfl) ?_
                refine lv_if_eq (tgt := 185) X.1 X.2.1 dX9_run_172 (by decide) (fun c_44 => ?_) (fun c_44 => ?_)
                · skip
                  replace h := h.1 c_44
                  refine lv_iload X.1 X.2.1 dX9_run_185 (lv_at hv 0 rfl) ?_
                  refine lv_istore_n (lv' := [(2, .int (r_42)), (5, .int (r_42)), (4, .int (r_30)), (0, .ref (et (32))), (1, .int (a1)), (3, .int (a3))]) X.1 X.2.1 dX9_run_187 rfl hv (by decide) rfl (fun ls hv => ?_)
                  refine lv_iinc (v := (a3 + 1)) (lv' := [(3, .int ((a3 + 1))), (2, .int (r_42)), (5, .int (r_42)), (4, .int (r_30)), (0, .ref (et (32))), (1, .int (a1))]) X.1 X.2.1 dX9_run_188 hv (k := 5) rfl rfl (by decide) rfl (fun ls hv => ?_)
                  refine lv_goto (tgt := 34) X.1 X.2.1 dX9_run_191 (by decide) ?_
                  exact ih ((k9 + 1)) (a1) (r_42) ((a3 + 1)) S_41 et _ _ _ h hst hg hw hl (lv_sub hv [4, 5, 1, 0] rfl) hku
                · skip
                  replace h := h.2 c_44
                  refine lv_aload_n X.1 X.2.1 dX9_run_175 rfl (lv_at hv 2 rfl) ?_
                  refine lv_dup X.1 X.2.1 dX9_run_176 rfl ?_
                  refine xw_get X hk hw (i := 32) 6 xe_32 rfl tlX9 (by decide) rfl tw_170 dX9_run_177 ?_
                  refine lv_iconst (v := 1) X.1 X.2.1 dX9_run_180 (by decide) ?_
                  refine lv_iadd X.1 X.2.1 dX9_run_181 ?_
                  refine xw_put X hk hw hl (i := 32) 6 xe_32 rfl rfl tlX9 tyX9 tyX9_ok nmX9 (by decide) tw_170 rfl rfl (Nat.le_of_ble_eq_true rfl) dX9_run_182 (fun H locs hw hl => ?_)
                  obtain ⟨S_45, e_46⟩ : ∃ T : xs_T, T = sF S_41 32 6 (((xF S_41 32 6) + 1)) := ⟨_, rfl⟩
                  rw [← e_46] at hw
                  replace h := h S_45 e_46
                  have hN : S_45.2.2.2.2 = S_41.2.2.2.2 := by rw [e_46]; rfl
                  replace hg := hg.N hN
                  refine lv_iload X.1 X.2.1 dX9_run_185 (lv_at hv 0 rfl) ?_
                  refine lv_istore_n (lv' := [(2, .int (r_42)), (5, .int (r_42)), (4, .int (r_30)), (0, .ref (et (32))), (1, .int (a1)), (3, .int (a3))]) X.1 X.2.1 dX9_run_187 rfl hv (by decide) rfl (fun ls hv => ?_)
                  refine lv_iinc (v := (a3 + 1)) (lv' := [(3, .int ((a3 + 1))), (2, .int (r_42)), (5, .int (r_42)), (4, .int (r_30)), (0, .ref (et (32))), (1, .int (a1))]) X.1 X.2.1 dX9_run_188 hv (k := 5) rfl rfl (by decide) rfl (fun ls hv => ?_)
                  refine lv_goto (tgt := 34) X.1 X.2.1 dX9_run_191 (by decide) ?_
                  exact ih ((k9 + 1)) (a1) (r_42) ((a3 + 1)) S_45 et _ _ _ h hst hg hw hl (lv_sub hv [4, 5, 1, 0] rfl) hku
              · skip
                replace h := h.2 c_43
                refine lv_aload_n X.1 X.2.1 dX9_run_162 rfl (lv_at hv 2 rfl) ?_
                refine lv_iload_n X.1 X.2.1 dX9_run_163 rfl (lv_at hv 4 rfl) ?_
                refine xw_put X hk hw hl (i := 32) 8 xe_32 rfl rfl tlX9 tyX9 tyX9_ok nmX9 (by decide) tw_172 rfl rfl (Nat.le_of_ble_eq_true rfl) dX9_run_164 (fun H locs hw hl => ?_)
                obtain ⟨S_47, e_48⟩ : ∃ T : xs_T, T = sF S_41 32 8 (a2) := ⟨_, rfl⟩
                rw [← e_48] at hw
                replace h := h S_47 e_48
                have hN : S_47.2.2.2.2 = S_41.2.2.2.2 := by rw [e_48]; rfl
                replace hg := hg.N hN
                refine lv_iload X.1 X.2.1 dX9_run_167 (lv_at hv 1 rfl) ?_
                refine W.widen (k := 2 * nu) (n := 66 * nu) (by omega) (by omega) ?_
                exact xt_ai X hr hlocks hst hg hw hl h dX9_run_169
          · skip
            replace h := h.2 c_13
            refine lv_bipush (v := 7) X.1 X.2.1 dX9_run_73 (by decide) ?_
            refine W.widen (k := 2 * nu) (n := 66 * nu) (by omega) (by omega) ?_
            exact xt_ai X hr hlocks hst hg hw hl h dX9_run_75
        · skip
          replace h := h.2 c_12
          refine lv_aload_n X.1 X.2.1 dX9_run_60 rfl (lv_at hv 0 rfl) ?_
          refine lv_iload_n X.1 X.2.1 dX9_run_61 rfl (lv_at hv 2 rfl) ?_
          refine xw_put X hk hw hl (i := 32) 8 xe_32 rfl rfl tlX9 tyX9 tyX9_ok nmX9 (by decide) tw_172 rfl rfl (Nat.le_of_ble_eq_true rfl) dX9_run_62 (fun H locs hw hl => ?_)
          obtain ⟨S_49, e_50⟩ : ∃ T : xs_T, T = sF S 32 8 (a2) := ⟨_, rfl⟩
          rw [← e_50] at hw
          replace h := h S_49 e_50
          have hN : S_49.2.2.2.2 = S.2.2.2.2 := by rw [e_50]; rfl
          replace hg := hg.N hN
          refine lv_bipush (v := 6) X.1 X.2.1 dX9_run_65 (by decide) ?_
          refine W.widen (k := 2 * nu) (n := 66 * nu) (by omega) (by omega) ?_
          exact xt_ai X hr hlocks hst hg hw hl h dX9_run_67
set_option maxHeartbeats 4000000 in
set_option maxRecDepth 100000 in
theorem c_X9_run (l : Launch) (Z : xz_T) (et : Nat → Nat) (S : xs_T) (nu : Nat) (x1 : Int32) (K : Int32 → xs_T → Prop) (h5 : xN S 5 = 0) (h : v_X9_run nu x1 S K) : Met l yX9_run (wq yX9_run cX9_run 6 (some .int)) { frames := 7, cells := (2 * nu), slots := (66 * nu), locals := 168 } (xPc Z et S [.ref (et (32)), .int (x1)]) (xAi Z et S K) (2 * nu) (66 * nu) (fun q => Z.2.2.1 ≤ q) := by
  refine Met.ofW (cc := cX9_run) (maxL := 6) (ret := (some .int)) (by decide +kernel) rfl ?_
  intro p e s m args below meth c s₁ B hml hv0
  obtain ⟨rfl, hk, hw⟩ := hv0
  have X : CallFix p m c cX9_run 6 s _ (wq yX9_run cX9_run 6 (some .int)) RX9 := ⟨B.exec, B.bytes, hml, findClass_of_methodNamed B.named, atoms_spec (ws := (wq yX9_run cX9_run 6 (some .int))) B.pre⟩
  have hr := B.returns
  have hlocks := B.notSynchronized
  have hl : xl Z [] := fun _ h => by cases h
  have hku : 0 ≤ nu := Nat.zero_le nu
  have hst : xst Z et S et := fun _ _ => rfl
  have hg : xgr S S := xgr.refl h5
  have hv := lv_entry [.ref (et (32)), .int (x1)] (n := 6) (Nat.le_of_ble_eq_true rfl)
  rw [lg_entry_eq]
  generalize (lg_sl [.ref (et (32)), .int (x1)] ++ List.replicate (6 - (lg_sl [.ref (et (32)), .int (x1)]).length) Slot.unset).toArray = ls at hv ⊢
  replace hv : lv_has ls 6 [(0, .ref (et (32))), (1, .int (x1))] := hv
  unfold v_X9_run at h
  refine lv_iload_n X.1 X.2.1 dX9_run_0 rfl (lv_at hv 1 rfl) ?_
  refine lv_if_lt (tgt := 11) X.1 X.2.1 dX9_run_1 (by decide) (fun c_1 => ?_) (fun c_1 => ?_)
  · skip
    replace h := h.1 c_1
    refine lv_iconst (v := (-1)) X.1 X.2.1 dX9_run_11 (by decide) ?_
    refine W.widen (k := 2 * nu) (n := 66 * nu) (by omega) (by omega) ?_
    exact xt_ai X hr hlocks hst hg hw hl h dX9_run_12
  · skip
    replace h := h.2 c_1
    refine lv_iload_n X.1 X.2.1 dX9_run_4 rfl (lv_at hv 1 rfl) ?_
    refine lv_sipush (v := 300) X.1 X.2.1 dX9_run_5 (by decide) ?_
    refine lv_icmp_le (tgt := 13) X.1 X.2.1 dX9_run_8 (by decide) (fun c_2 => ?_) (fun c_2 => ?_)
    · skip
      replace h := h.1 c_2
      refine lv_aload_n X.1 X.2.1 dX9_run_13 rfl (lv_at hv 0 rfl) ?_
      refine xw_get X hk hw (i := 32) 1 xe_32 rfl tlX9 (by decide) rfl tw_165 dX9_run_14 ?_
      refine xc_v (xr_V (n := 0) (As := []) (i := 34) X hk hw hv.1 (c_X8_forgetAgains l Z et S  _ h) (tb_V tw_443 tw_440 tw_441 tw_442 tw_42) xe_34 rfl rfl rfl rfl (by decide +kernel) ⟨Nat.le_of_ble_eq_true rfl, Nat.le_of_ble_eq_true rfl⟩ rfl (Nat.le_of_ble_eq_true rfl) dX9_run_17 ⟨by show 2 * 0 + 0 ≤ 2 * nu; omega, by show 66 * 0 + 0 ≤ 66 * nu; omega⟩) hl (fun S_3 H locs h hN hw hl => ?_)
      replace hg := hg.N hN
      refine lv_aload_n X.1 X.2.1 dX9_run_20 rfl (lv_at hv 0 rfl) ?_
      refine lv_iconst (v := 0) X.1 X.2.1 dX9_run_21 (by decide) ?_
      refine xw_put X hk hw hl (i := 32) 7 xe_32 rfl rfl tlX9 tyX9 tyX9_ok nmX9 (by decide) tw_171 rfl rfl (Nat.le_of_ble_eq_true rfl) dX9_run_22 (fun H locs hw hl => ?_)
      obtain ⟨S_5, e_6⟩ : ∃ T : xs_T, T = sF S_3 32 7 (0) := ⟨_, rfl⟩
      rw [← e_6] at hw
      replace h := h S_5 e_6
      have hN : S_5.2.2.2.2 = S_3.2.2.2.2 := by rw [e_6]; rfl
      replace hg := hg.N hN
      refine lv_aload_n X.1 X.2.1 dX9_run_25 rfl (lv_at hv 0 rfl) ?_
      refine lv_iconst (v := (-1)) X.1 X.2.1 dX9_run_26 (by decide) ?_
      refine xw_put X hk hw hl (i := 32) 8 xe_32 rfl rfl tlX9 tyX9 tyX9_ok nmX9 (by decide) tw_172 rfl rfl (Nat.le_of_ble_eq_true rfl) dX9_run_27 (fun H locs hw hl => ?_)
      obtain ⟨S_7, e_8⟩ : ∃ T : xs_T, T = sF S_5 32 8 ((-1)) := ⟨_, rfl⟩
      rw [← e_8] at hw
      replace h := h S_7 e_8
      have hN : S_7.2.2.2.2 = S_5.2.2.2.2 := by rw [e_8]; rfl
      replace hg := hg.N hN
      refine lv_iconst (v := 0) X.1 X.2.1 dX9_run_30 (by decide) ?_
      refine lv_istore_n (lv' := [(2, .int (0)), (0, .ref (et (32))), (1, .int (x1))]) X.1 X.2.1 dX9_run_31 rfl hv (by decide) rfl (fun ls hv => ?_)
      refine lv_iconst (v := 0) X.1 X.2.1 dX9_run_32 (by decide) ?_
      refine lv_istore_n (lv' := [(3, .int (0)), (2, .int (0)), (0, .ref (et (32))), (1, .int (x1))]) X.1 X.2.1 dX9_run_33 rfl hv (by decide) rfl (fun ls hv => ?_)
      obtain ⟨n_9, h⟩ := h
      exact j_X9_run_34 X hk hr hlocks h5 n_9 (0) (x1) (0) (0) S_7 et _ _ _ h hst hg hw hl (lv_sub hv [2, 3, 1, 0] rfl) hku
    · skip
      replace h := h.2 c_2
      refine lv_iconst (v := (-1)) X.1 X.2.1 dX9_run_11 (by decide) ?_
      refine W.widen (k := 2 * nu) (n := 66 * nu) (by omega) (by omega) ?_
      exact xt_ai X hr hlocks hst hg hw hl h dX9_run_12
