def v_X10_does (x1 : Int32) (x2 : Int32) (x3 : Int32) (x4 : Int32) (S : xs_T) (K : Int32 → xs_T → Prop) : Prop := (((x1 = 0) → ∃ j_1 : Nat, x2 = nI j_1 ∧ j_1 < 10 ∧ ∀ S_4 : xs_T, S_4 = sI S 11 j_1 (x4) → K (0) S_4) ∧ ((x1 = 1) → v_X10_splice (x2) (x3) (x4) S (fun (r_7 : Int32) (S_6 : xs_T) => K (r_7) S_6)) ∧ ((x1 = 2) → v_X10_turn (x2) (x4) S (fun (r_9 : Int32) (S_8 : xs_T) => K (r_9) S_8)) ∧ ((x1 = 3) → v_X10_open (x2) (x4) (0) S (fun (r_11 : Int32) (S_10 : xs_T) => K (r_11) S_10)) ∧ ((x1 = 4) → v_X10_open (x2) (x4) (1) S (fun (r_13 : Int32) (S_12 : xs_T) => K (r_13) S_12)) ∧ ((x1 = 5) → v_X10_makeOn (x2) (x3) (x4) S (fun (r_15 : Int32) (S_14 : xs_T) => K (r_15) S_14)) ∧ ((x1 = 6) → v_X10_twin (x2) (x3) S (fun (r_17 : Int32) (S_16 : xs_T) => K (r_17) S_16)) ∧ ((x1 = 7) → ∃ j_18 : Nat, x3 = nI j_18 ∧ j_18 < 10 ∧ ∃ j_21 : Nat, x3 = nI j_21 ∧ j_21 < 10 ∧ v_X10_hold (x2) ((xI S 9 j_18)) ((xI S 10 j_21)) S (fun (S_24 : xs_T) => K (0) S_24)) ∧ ((x1 = 8) → v_X10_swap (x2) (x3) S (fun (S_26 : xs_T) => K (0) S_26)) ∧ ((x1 = 9) → v_X10_hang (x2) (x3) S (fun (r_29 : Int32) (S_28 : xs_T) => K (r_29) S_28)) ∧ ((x1 = 10) → v_X10_pin (x2) (x4) S (fun (r_31 : Int32) (S_30 : xs_T) => K (r_31) S_30)) ∧ ((x1 = 11) → v_X10_seat (x2) (x3) S (fun (r_33 : Int32) (S_32 : xs_T) => K (r_33) S_32)) ∧ (¬ x1 = 0 → ¬ x1 = 1 → ¬ x1 = 2 → ¬ x1 = 3 → ¬ x1 = 4 → ¬ x1 = 5 → ¬ x1 = 6 → ¬ x1 = 7 → ¬ x1 = 8 → ¬ x1 = 9 → ¬ x1 = 10 → ¬ x1 = 11 → v_X10_lift (x2) (x3) S (fun (r_35 : Int32) (S_34 : xs_T) => K (r_35) S_34)))
set_option maxHeartbeats 4000000 in
set_option maxRecDepth 100000 in
theorem c_X10_does (l : Launch) (Z : xz_T) (et : Nat → Nat) (S : xs_T) (x1 : Int32) (x2 : Int32) (x3 : Int32) (x4 : Int32) (K : Int32 → xs_T → Prop) (h : v_X10_does x1 x2 x3 x4 S K) : Met l yX10_does (wq yX10_does cX10_does 5 (some .int)) { frames := 4, cells := 0, slots := 0, locals := 95 } (xPc Z et S [.ref (et (0)), .int (x1), .int (x2), .int (x3), .int (x4)]) (xQi Z et S.2.2.2.2 K) 0 0 (fun q => Z.2.2.1 ≤ q) := by
  refine Met.ofW (cc := cX10_does) (maxL := 5) (ret := (some .int)) (by decide +kernel) rfl ?_
  intro p e s m args below meth c s₁ B hml hv0
  obtain ⟨rfl, hk, hw⟩ := hv0
  have X : CallFix p m c cX10_does 5 s _ (wq yX10_does cX10_does 5 (some .int)) RX10 := ⟨B.exec, B.bytes, hml, findClass_of_methodNamed B.named, atoms_spec (ws := (wq yX10_does cX10_does 5 (some .int))) B.pre⟩
  have hr := B.returns
  have hlocks := B.notSynchronized
  have hl : xl Z [] := fun _ h => by cases h
  have hNN : S.2.2.2.2 = S.2.2.2.2 := rfl
  have hv := lv_entry [.ref (et (0)), .int (x1), .int (x2), .int (x3), .int (x4)] (n := 5) (Nat.le_of_ble_eq_true rfl)
  rw [lg_entry_eq]
  generalize (lg_sl [.ref (et (0)), .int (x1), .int (x2), .int (x3), .int (x4)] ++ List.replicate (5 - (lg_sl [.ref (et (0)), .int (x1), .int (x2), .int (x3), .int (x4)]).length) Slot.unset).toArray = ls at hv ⊢
  replace hv : lv_has ls 5 [(0, .ref (et (0))), (1, .int (x1)), (2, .int (x2)), (3, .int (x3)), (4, .int (x4))] := hv
  unfold v_X10_does at h
  refine lv_iload_n X.1 X.2.1 dX10_does_0 rfl (lv_at hv 1 rfl) ?_
  have hsw := h
  by_cases k_0 : x1 = 0
  · have h := hsw.1 k_0
    refine lv_tableIn (off := 63) (tgt := 64) X.1 X.2.1 dX10_does_1 (by rw [k_0]; decide) (by rw [k_0]; decide) (by rw [k_0]; rfl) (by decide) ?_
    refine lv_aload_n X.1 X.2.1 dX10_does_64 rfl (lv_at hv 0 rfl) ?_
    refine xw_get X hk hw (i := 0) 11 xe_0 rfl tlX10 (by decide) rfl tw_530 dX10_does_65 ?_
    refine lv_iload_n X.1 X.2.1 dX10_does_68 rfl (lv_at hv 2 rfl) ?_
    refine lv_iload X.1 X.2.1 dX10_does_69 (lv_at hv 4 rfl) ?_
    obtain ⟨j_1, e_2, b_3, h⟩ := h
    refine xw_ist X hk hw hl xe_11 rfl e_2 b_3 (by decide) dX10_does_71 (fun H locs hw hl => ?_)
    obtain ⟨S_4, e_5⟩ : ∃ T : xs_T, T = sI S 11 j_1 (x4) := ⟨_, rfl⟩
    rw [← e_5] at hw
    replace h := h S_4 e_5
    have hN : S_4.2.2.2.2 = S.2.2.2.2 := by rw [e_5]; rfl
    replace hNN := hN.trans hNN
    refine lv_iconst (v := 0) X.1 X.2.1 dX10_does_72 (by decide) ?_
    exact xt_i X hr hlocks hNN hw hl h dX10_does_73
  by_cases k_1 : x1 = 1
  · have h := hsw.2.1 k_1
    refine lv_tableIn (off := 73) (tgt := 74) X.1 X.2.1 dX10_does_1 (by rw [k_1]; decide) (by rw [k_1]; decide) (by rw [k_1]; rfl) (by decide) ?_
    refine lv_aload_n X.1 X.2.1 dX10_does_74 rfl (lv_at hv 0 rfl) ?_
    refine lv_iload_n X.1 X.2.1 dX10_does_75 rfl (lv_at hv 2 rfl) ?_
    refine lv_iload_n X.1 X.2.1 dX10_does_76 rfl (lv_at hv 3 rfl) ?_
    refine lv_iload X.1 X.2.1 dX10_does_77 (lv_at hv 4 rfl) ?_
    refine xc_i (xr_V (n := 3) (As := [.int (x2), .int (x3), .int (x4)]) (i := 0) X hk hw hv.1 (c_X10_splice l Z et S (x2) (x3) (x4) _ h) (tb_V tw_637 tw_634 tw_636 tw_20 tw_44) xe_0 rfl rfl rfl rfl (by decide +kernel) ⟨Nat.le_of_ble_eq_true rfl, Nat.le_of_ble_eq_true rfl⟩ rfl (Nat.le_of_ble_eq_true rfl) dX10_does_79 ⟨Nat.le_of_ble_eq_true rfl, Nat.le_of_ble_eq_true rfl⟩) hl (fun r_7 S_6 H locs h hN hw hl => ?_)
    replace hNN := hN.trans hNN
    exact xt_i X hr hlocks hNN hw hl h dX10_does_82
  by_cases k_2 : x1 = 2
  · have h := hsw.2.2.1 k_2
    refine lv_tableIn (off := 82) (tgt := 83) X.1 X.2.1 dX10_does_1 (by rw [k_2]; decide) (by rw [k_2]; decide) (by rw [k_2]; rfl) (by decide) ?_
    refine lv_aload_n X.1 X.2.1 dX10_does_83 rfl (lv_at hv 0 rfl) ?_
    refine lv_iload_n X.1 X.2.1 dX10_does_84 rfl (lv_at hv 2 rfl) ?_
    refine lv_iload X.1 X.2.1 dX10_does_85 (lv_at hv 4 rfl) ?_
    refine xc_i (xr_V (n := 2) (As := [.int (x2), .int (x4)]) (i := 0) X hk hw hv.1 (c_X10_turn l Z et S (x2) (x4) _ h) (tb_V tw_645 tw_642 tw_644 tw_22 tw_44) xe_0 rfl rfl rfl rfl (by decide +kernel) ⟨Nat.le_of_ble_eq_true rfl, Nat.le_of_ble_eq_true rfl⟩ rfl (Nat.le_of_ble_eq_true rfl) dX10_does_87 ⟨Nat.le_of_ble_eq_true rfl, Nat.le_of_ble_eq_true rfl⟩) hl (fun r_9 S_8 H locs h hN hw hl => ?_)
    replace hNN := hN.trans hNN
    exact xt_i X hr hlocks hNN hw hl h dX10_does_90
  by_cases k_3 : x1 = 3
  · have h := hsw.2.2.2.1 k_3
    refine lv_tableIn (off := 90) (tgt := 91) X.1 X.2.1 dX10_does_1 (by rw [k_3]; decide) (by rw [k_3]; decide) (by rw [k_3]; rfl) (by decide) ?_
    refine lv_aload_n X.1 X.2.1 dX10_does_91 rfl (lv_at hv 0 rfl) ?_
    refine lv_iload_n X.1 X.2.1 dX10_does_92 rfl (lv_at hv 2 rfl) ?_
    refine lv_iload X.1 X.2.1 dX10_does_93 (lv_at hv 4 rfl) ?_
    refine lv_iconst (v := 0) X.1 X.2.1 dX10_does_95 (by decide) ?_
    refine xc_i (xr_V (n := 3) (As := [.int (x2), .int (x4), .int (0)]) (i := 0) X hk hw hv.1 (c_X10_open l Z et S (x2) (x4) (0) _ h) (tb_V tw_649 tw_646 tw_648 tw_23 tw_44) xe_0 rfl rfl rfl rfl (by decide +kernel) ⟨Nat.le_of_ble_eq_true rfl, Nat.le_of_ble_eq_true rfl⟩ rfl (Nat.le_of_ble_eq_true rfl) dX10_does_96 ⟨Nat.le_of_ble_eq_true rfl, Nat.le_of_ble_eq_true rfl⟩) hl (fun r_11 S_10 H locs h hN hw hl => ?_)
    replace hNN := hN.trans hNN
    exact xt_i X hr hlocks hNN hw hl h dX10_does_99
  by_cases k_4 : x1 = 4
  · have h := hsw.2.2.2.2.1 k_4
    refine lv_tableIn (off := 99) (tgt := 100) X.1 X.2.1 dX10_does_1 (by rw [k_4]; decide) (by rw [k_4]; decide) (by rw [k_4]; rfl) (by decide) ?_
    refine lv_aload_n X.1 X.2.1 dX10_does_100 rfl (lv_at hv 0 rfl) ?_
    refine lv_iload_n X.1 X.2.1 dX10_does_101 rfl (lv_at hv 2 rfl) ?_
    refine lv_iload X.1 X.2.1 dX10_does_102 (lv_at hv 4 rfl) ?_
    refine lv_iconst (v := 1) X.1 X.2.1 dX10_does_104 (by decide) ?_
    refine xc_i (xr_V (n := 3) (As := [.int (x2), .int (x4), .int (1)]) (i := 0) X hk hw hv.1 (c_X10_open l Z et S (x2) (x4) (1) _ h) (tb_V tw_649 tw_646 tw_648 tw_23 tw_44) xe_0 rfl rfl rfl rfl (by decide +kernel) ⟨Nat.le_of_ble_eq_true rfl, Nat.le_of_ble_eq_true rfl⟩ rfl (Nat.le_of_ble_eq_true rfl) dX10_does_105 ⟨Nat.le_of_ble_eq_true rfl, Nat.le_of_ble_eq_true rfl⟩) hl (fun r_13 S_12 H locs h hN hw hl => ?_)
    replace hNN := hN.trans hNN
    exact xt_i X hr hlocks hNN hw hl h dX10_does_108
  by_cases k_5 : x1 = 5
  · have h := hsw.2.2.2.2.2.1 k_5
    refine lv_tableIn (off := 108) (tgt := 109) X.1 X.2.1 dX10_does_1 (by rw [k_5]; decide) (by rw [k_5]; decide) (by rw [k_5]; rfl) (by decide) ?_
    refine lv_aload_n X.1 X.2.1 dX10_does_109 rfl (lv_at hv 0 rfl) ?_
    refine lv_iload_n X.1 X.2.1 dX10_does_110 rfl (lv_at hv 2 rfl) ?_
    refine lv_iload_n X.1 X.2.1 dX10_does_111 rfl (lv_at hv 3 rfl) ?_
    refine lv_iload X.1 X.2.1 dX10_does_112 (lv_at hv 4 rfl) ?_
    refine xc_i (xr_V (n := 3) (As := [.int (x2), .int (x3), .int (x4)]) (i := 0) X hk hw hv.1 (c_X10_makeOn l Z et S (x2) (x3) (x4) _ h) (tb_V tw_653 tw_650 tw_652 tw_24 tw_44) xe_0 rfl rfl rfl rfl (by decide +kernel) ⟨Nat.le_of_ble_eq_true rfl, Nat.le_of_ble_eq_true rfl⟩ rfl (Nat.le_of_ble_eq_true rfl) dX10_does_114 ⟨Nat.le_of_ble_eq_true rfl, Nat.le_of_ble_eq_true rfl⟩) hl (fun r_15 S_14 H locs h hN hw hl => ?_)
    replace hNN := hN.trans hNN
    exact xt_i X hr hlocks hNN hw hl h dX10_does_117
  by_cases k_6 : x1 = 6
  · have h := hsw.2.2.2.2.2.2.1 k_6
    refine lv_tableIn (off := 117) (tgt := 118) X.1 X.2.1 dX10_does_1 (by rw [k_6]; decide) (by rw [k_6]; decide) (by rw [k_6]; rfl) (by decide) ?_
    refine lv_aload_n X.1 X.2.1 dX10_does_118 rfl (lv_at hv 0 rfl) ?_
    refine lv_iload_n X.1 X.2.1 dX10_does_119 rfl (lv_at hv 2 rfl) ?_
    refine lv_iload_n X.1 X.2.1 dX10_does_120 rfl (lv_at hv 3 rfl) ?_
    refine xc_i (xr_V (n := 2) (As := [.int (x2), .int (x3)]) (i := 0) X hk hw hv.1 (c_X10_twin l Z et S (x2) (x3) _ h) (tb_V tw_669 tw_666 tw_668 tw_28 tw_44) xe_0 rfl rfl rfl rfl (by decide +kernel) ⟨Nat.le_of_ble_eq_true rfl, Nat.le_of_ble_eq_true rfl⟩ rfl (Nat.le_of_ble_eq_true rfl) dX10_does_121 ⟨Nat.le_of_ble_eq_true rfl, Nat.le_of_ble_eq_true rfl⟩) hl (fun r_17 S_16 H locs h hN hw hl => ?_)
    replace hNN := hN.trans hNN
    exact xt_i X hr hlocks hNN hw hl h dX10_does_124
  by_cases k_7 : x1 = 7
  · have h := hsw.2.2.2.2.2.2.2.1 k_7
    refine lv_tableIn (off := 124) (tgt := 125) X.1 X.2.1 dX10_does_1 (by rw [k_7]; decide) (by rw [k_7]; decide) (by rw [k_7]; rfl) (by decide) ?_
    refine lv_aload_n X.1 X.2.1 dX10_does_125 rfl (lv_at hv 0 rfl) ?_
    refine lv_iload_n X.1 X.2.1 dX10_does_126 rfl (lv_at hv 2 rfl) ?_
    refine lv_aload_n X.1 X.2.1 dX10_does_127 rfl (lv_at hv 0 rfl) ?_
    refine xw_get X hk hw (i := 0) 9 xe_0 rfl tlX10 (by decide) rfl tw_528 dX10_does_128 ?_
    refine lv_iload_n X.1 X.2.1 dX10_does_131 rfl (lv_at hv 3 rfl) ?_
    obtain ⟨j_18, e_19, b_20, h⟩ := h
    refine xw_ild X hk hw xe_9 e_19 b_20 (by decide) dX10_does_132 ?_
    refine lv_aload_n X.1 X.2.1 dX10_does_133 rfl (lv_at hv 0 rfl) ?_
    refine xw_get X hk hw (i := 0) 10 xe_0 rfl tlX10 (by decide) rfl tw_529 dX10_does_134 ?_
    refine lv_iload_n X.1 X.2.1 dX10_does_137 rfl (lv_at hv 3 rfl) ?_
    obtain ⟨j_21, e_22, b_23, h⟩ := h
    refine xw_ild X hk hw xe_10 e_22 b_23 (by decide) dX10_does_138 ?_
    refine xc_v (xr_V (n := 3) (As := [.int (x2), .int ((xI S 9 j_18)), .int ((xI S 10 j_21))]) (i := 0) X hk hw hv.1 (c_X10_hold l Z et S (x2) ((xI S 9 j_18)) ((xI S 10 j_21)) _ h) (tb_V tw_665 tw_662 tw_664 tw_27 tw_44) xe_0 rfl rfl rfl rfl (by decide +kernel) ⟨Nat.le_of_ble_eq_true rfl, Nat.le_of_ble_eq_true rfl⟩ rfl (Nat.le_of_ble_eq_true rfl) dX10_does_139 ⟨Nat.le_of_ble_eq_true rfl, Nat.le_of_ble_eq_true rfl⟩) hl (fun S_24 H locs h hN hw hl => ?_)
    replace hNN := hN.trans hNN
    refine lv_iconst (v := 0) X.1 X.2.1 dX10_does_142 (by decide) ?_
    exact xt_i X hr hlocks hNN hw hl h dX10_does_143
  by_cases k_8 : x1 = 8
  · have h := hsw.2.2.2.2.2.2.2.2.1 k_8
    refine lv_tableIn (off := 143) (tgt := 144) X.1 X.2.1 dX10_does_1 (by rw [k_8]; decide) (by rw [k_8]; decide) (by rw [k_8]; rfl) (by decide) ?_
    refine lv_aload_n X.1 X.2.1 dX10_does_144 rfl (lv_at hv 0 rfl) ?_
    refine lv_iload_n X.1 X.2.1 dX10_does_145 rfl (lv_at hv 2 rfl) ?_
    refine lv_iload_n X.1 X.2.1 dX10_does_146 rfl (lv_at hv 3 rfl) ?_
    refine xc_v (xr_V (n := 2) (As := [.int (x2), .int (x3)]) (i := 0) X hk hw hv.1 (c_X10_swap l Z et S (x2) (x3) _ h) (tb_V tw_673 tw_670 tw_672 tw_29 tw_44) xe_0 rfl rfl rfl rfl (by decide +kernel) ⟨Nat.le_of_ble_eq_true rfl, Nat.le_of_ble_eq_true rfl⟩ rfl (Nat.le_of_ble_eq_true rfl) dX10_does_147 ⟨Nat.le_of_ble_eq_true rfl, Nat.le_of_ble_eq_true rfl⟩) hl (fun S_26 H locs h hN hw hl => ?_)
    replace hNN := hN.trans hNN
    refine lv_iconst (v := 0) X.1 X.2.1 dX10_does_150 (by decide) ?_
    exact xt_i X hr hlocks hNN hw hl h dX10_does_151
  by_cases k_9 : x1 = 9
  · have h := hsw.2.2.2.2.2.2.2.2.2.1 k_9
    refine lv_tableIn (off := 151) (tgt := 152) X.1 X.2.1 dX10_does_1 (by rw [k_9]; decide) (by rw [k_9]; decide) (by rw [k_9]; rfl) (by decide) ?_
    refine lv_aload_n X.1 X.2.1 dX10_does_152 rfl (lv_at hv 0 rfl) ?_
    refine lv_iload_n X.1 X.2.1 dX10_does_153 rfl (lv_at hv 2 rfl) ?_
    refine lv_iload_n X.1 X.2.1 dX10_does_154 rfl (lv_at hv 3 rfl) ?_
    refine xc_i (xr_V (n := 2) (As := [.int (x2), .int (x3)]) (i := 0) X hk hw hv.1 (c_X10_hang l Z et S (x2) (x3) _ h) (tb_V tw_677 tw_674 tw_676 tw_30 tw_44) xe_0 rfl rfl rfl rfl (by decide +kernel) ⟨Nat.le_of_ble_eq_true rfl, Nat.le_of_ble_eq_true rfl⟩ rfl (Nat.le_of_ble_eq_true rfl) dX10_does_155 ⟨Nat.le_of_ble_eq_true rfl, Nat.le_of_ble_eq_true rfl⟩) hl (fun r_29 S_28 H locs h hN hw hl => ?_)
    replace hNN := hN.trans hNN
    exact xt_i X hr hlocks hNN hw hl h dX10_does_158
  by_cases k_10 : x1 = 10
  · have h := hsw.2.2.2.2.2.2.2.2.2.2.1 k_10
    refine lv_tableIn (off := 158) (tgt := 159) X.1 X.2.1 dX10_does_1 (by rw [k_10]; decide) (by rw [k_10]; decide) (by rw [k_10]; rfl) (by decide) ?_
    refine lv_aload_n X.1 X.2.1 dX10_does_159 rfl (lv_at hv 0 rfl) ?_
    refine lv_iload_n X.1 X.2.1 dX10_does_160 rfl (lv_at hv 2 rfl) ?_
    refine lv_iload X.1 X.2.1 dX10_does_161 (lv_at hv 4 rfl) ?_
    refine xc_i (xr_V (n := 2) (As := [.int (x2), .int (x4)]) (i := 0) X hk hw hv.1 (c_X10_pin l Z et S (x2) (x4) _ h) (tb_V tw_681 tw_678 tw_680 tw_31 tw_44) xe_0 rfl rfl rfl rfl (by decide +kernel) ⟨Nat.le_of_ble_eq_true rfl, Nat.le_of_ble_eq_true rfl⟩ rfl (Nat.le_of_ble_eq_true rfl) dX10_does_163 ⟨Nat.le_of_ble_eq_true rfl, Nat.le_of_ble_eq_true rfl⟩) hl (fun r_31 S_30 H locs h hN hw hl => ?_)
    replace hNN := hN.trans hNN
    exact xt_i X hr hlocks hNN hw hl h dX10_does_166
  by_cases k_11 : x1 = 11
  · have h := hsw.2.2.2.2.2.2.2.2.2.2.2.1 k_11
    refine lv_tableIn (off := 166) (tgt := 167) X.1 X.2.1 dX10_does_1 (by rw [k_11]; decide) (by rw [k_11]; decide) (by rw [k_11]; rfl) (by decide) ?_
    refine lv_aload_n X.1 X.2.1 dX10_does_167 rfl (lv_at hv 0 rfl) ?_
    refine lv_iload_n X.1 X.2.1 dX10_does_168 rfl (lv_at hv 2 rfl) ?_
    refine lv_iload_n X.1 X.2.1 dX10_does_169 rfl (lv_at hv 3 rfl) ?_
    refine xc_i (xr_V (n := 2) (As := [.int (x2), .int (x3)]) (i := 0) X hk hw hv.1 (c_X10_seat l Z et S (x2) (x3) _ h) (tb_V tw_709 tw_706 tw_708 tw_32 tw_44) xe_0 rfl rfl rfl rfl (by decide +kernel) ⟨Nat.le_of_ble_eq_true rfl, Nat.le_of_ble_eq_true rfl⟩ rfl (Nat.le_of_ble_eq_true rfl) dX10_does_170 ⟨Nat.le_of_ble_eq_true rfl, Nat.le_of_ble_eq_true rfl⟩) hl (fun r_33 S_32 H locs h hN hw hl => ?_)
    replace hNN := hN.trans hNN
    exact xt_i X hr hlocks hNN hw hl h dX10_does_173
  have h := hsw.2.2.2.2.2.2.2.2.2.2.2.2 k_0 k_1 k_2 k_3 k_4 k_5 k_6 k_7 k_8 k_9 k_10 k_11
  have n_0 := lv_neT k_0 (a := 0) (by decide)
  have n_1 := lv_neT k_1 (a := 1) (by decide)
  have n_2 := lv_neT k_2 (a := 2) (by decide)
  have n_3 := lv_neT k_3 (a := 3) (by decide)
  have n_4 := lv_neT k_4 (a := 4) (by decide)
  have n_5 := lv_neT k_5 (a := 5) (by decide)
  have n_6 := lv_neT k_6 (a := 6) (by decide)
  have n_7 := lv_neT k_7 (a := 7) (by decide)
  have n_8 := lv_neT k_8 (a := 8) (by decide)
  have n_9 := lv_neT k_9 (a := 9) (by decide)
  have n_10 := lv_neT k_10 (a := 10) (by decide)
  have n_11 := lv_neT k_11 (a := 11) (by decide)
  refine lv_tableOut (tgt := 174) X.1 X.2.1 dX10_does_1 (by omega) (by decide) ?_
  refine lv_aload_n X.1 X.2.1 dX10_does_174 rfl (lv_at hv 0 rfl) ?_
  refine lv_iload_n X.1 X.2.1 dX10_does_175 rfl (lv_at hv 2 rfl) ?_
  refine lv_iload_n X.1 X.2.1 dX10_does_176 rfl (lv_at hv 3 rfl) ?_
  refine xc_i (xr_V (n := 2) (As := [.int (x2), .int (x3)]) (i := 0) X hk hw hv.1 (c_X10_lift l Z et S (x2) (x3) _ h) (tb_V tw_713 tw_710 tw_712 tw_33 tw_44) xe_0 rfl rfl rfl rfl (by decide +kernel) ⟨Nat.le_of_ble_eq_true rfl, Nat.le_of_ble_eq_true rfl⟩ rfl (Nat.le_of_ble_eq_true rfl) dX10_does_177 ⟨Nat.le_of_ble_eq_true rfl, Nat.le_of_ble_eq_true rfl⟩) hl (fun r_35 S_34 H locs h hN hw hl => ?_)
  replace hNN := hN.trans hNN
  exact xt_i X hr hlocks hNN hw hl h dX10_does_180
def v_X10_write_90 (K : xs_T → Prop) : Nat → Int32 → Int32 → xs_T → Prop
  | 0, _, _, _ => False
  | n + 1, a1, a2, S => ∃ j_19 : Nat, a1 = nI j_19 ∧ j_19 < 120 ∧ (((xI S 2 j_19) ≤ a2 → ∀ S_23 : xs_T, S_23 = sF S 0 18 (((xF S 0 18) + 1)) → K S_23) ∧ (¬ (xI S 2 j_19) ≤ a2 → ∃ j_25 : Nat, a2 = nI j_25 ∧ j_25 < 64 ∧ ∃ j_28 : Nat, ((64 * (xF S 0 18)) + a2) = nI j_28 ∧ j_28 < 1280 ∧ ∀ S_31 : xs_T, S_31 = sL S 20 j_28 ((xL S 21 j_25)) → v_X10_write_90 K n (a1) ((a2 + 1)) S_31))
def v_X10_write_78 (K : xs_T → Prop) (a1 : Int32) (S : xs_T) : Prop := ∃ j_3 : Nat, (xF S 0 18) = nI j_3 ∧ j_3 < 20 ∧ ∀ S_6 : xs_T, S_6 = sI S 19 j_3 (a1) → ∃ n, v_X10_write_90 K n (a1) (0) S_6
def v_X10_write_40 (K : xs_T → Prop) : Nat → Int32 → Int32 → xs_T → Prop
  | 0, _, _, _ => False
  | n + 1, a1, a2, S => ((1280 ≤ a2 → ∀ S_34 : xs_T, S_34 = sF S 0 18 (((xF S 0 18) - 1)) → v_X10_write_78 K (a1) S_34) ∧ (¬ 1280 ≤ a2 → ∃ j_36 : Nat, a2 = nI j_36 ∧ j_36 < 1280 ∧ ∃ j_39 : Nat, (a2 - 64) = nI j_39 ∧ j_39 < 1280 ∧ ∀ S_42 : xs_T, S_42 = sL S 20 j_39 ((xL S 20 j_36)) → v_X10_write_40 K n (a1) ((a2 + 1)) S_42))
def v_X10_write_11 (K : xs_T → Prop) : Nat → Int32 → Int32 → xs_T → Prop
  | 0, _, _, _ => False
  | n + 1, a1, a2, S => ((20 ≤ a2 → ∃ n, v_X10_write_40 K n (a1) (64) S) ∧ (¬ 20 ≤ a2 → ∃ j_11 : Nat, a2 = nI j_11 ∧ j_11 < 20 ∧ ∃ j_14 : Nat, (a2 - 1) = nI j_14 ∧ j_14 < 20 ∧ ∀ S_17 : xs_T, S_17 = sI S 19 j_14 ((xI S 19 j_11)) → v_X10_write_11 K n (a1) ((a2 + 1)) S_17))
def v_X10_write (x1 : Int32) (S : xs_T) (K : xs_T → Prop) : Prop := ((¬ (xF S 0 18) = 20 → v_X10_write_78 K (x1) S) ∧ ((xF S 0 18) = 20 → ∃ n, v_X10_write_11 K n (x1) (1) S))
set_option maxHeartbeats 4000000 in
set_option maxRecDepth 100000 in
theorem j_X10_write_90 {l : Launch} {p : Program} {e : Env} {s : State} {m : MethodId} {args : Array Value} {below : List Frame} {meth : Method} {c : Code} {Z : xz_T} {et : Nat → Nat} {Nn : Nat → Nat} {K : xs_T → Prop} (X : CallFix p m c cX10_write 3 s args (wq yX10_write cX10_write 3 none) RX10) (hk : xk Z s) (hr : meth.sig.returnType = none) (hlocks : meth.locks = false) : ∀ (n : Nat) (a1 : Int32) (a2 : Int32) (S : xs_T) (H : Heap) (locs : List Loc) (ls : Array Slot), v_X10_write_90 K n a1 a2 S → S.2.2.2.2 = Nn → wd Z et S H → xl Z locs → lv_has ls 3 [(0, .ref (et (0))), (1, .int (a1)), (2, .int (a2))] → W p l e (headSpec (wq yX10_write cX10_write 3 none) { frames := 0, cells := 0, slots := 0, locals := 0 }).room s m args below meth c H locs 0 0 (MQ below (xQv Z et Nn K) args s 0 0 (fun q => Z.2.2.1 ≤ q)) (F0 m 90 ls []) := by
  intro n
  induction n with
  | zero =>
    intro a1 a2 S H locs ls h hNN hw hl hv
    exact False.elim h
  | succ n ih =>
    intro a1 a2 S H locs ls h hNN hw hl hv
    rw [v_X10_write_90] at h
    refine lv_iload_n X.1 X.2.1 dX10_write_90 rfl (lv_at hv 2 rfl) ?_
    refine lv_aload_n X.1 X.2.1 dX10_write_91 rfl (lv_at hv 0 rfl) ?_
    refine xw_get X hk hw (i := 0) 2 xe_0 rfl tlX10 (by decide) rfl tw_521 dX10_write_92 ?_
    refine lv_iload_n X.1 X.2.1 dX10_write_95 rfl (lv_at hv 1 rfl) ?_
    obtain ⟨j_19, e_20, b_21, h⟩ := h
    refine xw_ild X hk hw xe_2 e_20 b_21 (by decide) dX10_write_96 ?_
    refine lv_icmp_ge (tgt := 126) X.1 X.2.1 dX10_write_97 (by decide) (fun c_22 => ?_) (fun c_22 => ?_)
    · skip
      replace h := h.1 c_22
      refine lv_aload_n X.1 X.2.1 dX10_write_126 rfl (lv_at hv 0 rfl) ?_
      refine lv_dup X.1 X.2.1 dX10_write_127 rfl ?_
      refine xw_get X hk hw (i := 0) 18 xe_0 rfl tlX10 (by decide) rfl tw_537 dX10_write_128 ?_
      refine lv_iconst (v := 1) X.1 X.2.1 dX10_write_131 (by decide) ?_
      refine lv_iadd X.1 X.2.1 dX10_write_132 ?_
      refine xw_put X hk hw hl (i := 0) 18 xe_0 rfl rfl tlX10 tyX10 tyX10_ok nmX10 (by decide) tw_537 rfl rfl (Nat.le_of_ble_eq_true rfl) dX10_write_133 (fun H locs hw hl => ?_)
      obtain ⟨S_23, e_24⟩ : ∃ T : xs_T, T = sF S 0 18 (((xF S 0 18) + 1)) := ⟨_, rfl⟩
      rw [← e_24] at hw
      replace h := h S_23 e_24
      have hN : S_23.2.2.2.2 = S.2.2.2.2 := by rw [e_24]; rfl
      replace hNN := hN.trans hNN
      exact xt_v X hr hlocks hNN hw hl h dX10_write_136
    · skip
      replace h := h.2 c_22
      refine lv_aload_n X.1 X.2.1 dX10_write_100 rfl (lv_at hv 0 rfl) ?_
      refine xw_get X hk hw (i := 0) 20 xe_0 rfl tlX10 (by decide) rfl tw_539 dX10_write_101 ?_
      refine lv_bipush (v := 64) X.1 X.2.1 dX10_write_104 (by decide) ?_
      refine lv_aload_n X.1 X.2.1 dX10_write_106 rfl (lv_at hv 0 rfl) ?_
      refine xw_get X hk hw (i := 0) 18 xe_0 rfl tlX10 (by decide) rfl tw_537 dX10_write_107 ?_
      refine lv_imul X.1 X.2.1 dX10_write_110 ?_
      refine lv_iload_n X.1 X.2.1 dX10_write_111 rfl (lv_at hv 2 rfl) ?_
      refine lv_iadd X.1 X.2.1 dX10_write_112 ?_
      refine lv_aload_n X.1 X.2.1 dX10_write_113 rfl (lv_at hv 0 rfl) ?_
      refine xw_get X hk hw (i := 0) 21 xe_0 rfl tlX10 (by decide) rfl tw_540 dX10_write_114 ?_
      refine lv_iload_n X.1 X.2.1 dX10_write_117 rfl (lv_at hv 2 rfl) ?_
      obtain ⟨j_25, e_26, b_27, h⟩ := h
      refine xw_lld X hk hw xe_21 e_26 b_27 (by decide) dX10_write_118 ?_
      obtain ⟨j_28, e_29, b_30, h⟩ := h
      refine xw_lst X hk hw hl xe_20 rfl e_29 b_30 (by decide) dX10_write_119 (fun H locs hw hl => ?_)
      obtain ⟨S_31, e_32⟩ : ∃ T : xs_T, T = sL S 20 j_28 ((xL S 21 j_25)) := ⟨_, rfl⟩
      rw [← e_32] at hw
      replace h := h S_31 e_32
      have hN : S_31.2.2.2.2 = S.2.2.2.2 := by rw [e_32]; rfl
      replace hNN := hN.trans hNN
      refine lv_iinc (v := (a2 + 1)) (lv' := [(2, .int ((a2 + 1))), (0, .ref (et (0))), (1, .int (a1))]) X.1 X.2.1 dX10_write_120 hv (k := 2) rfl rfl (by decide) rfl (fun ls hv => ?_)
      refine lv_goto (tgt := 90) X.1 X.2.1 dX10_write_123 (by decide) ?_
      exact ih (a1) ((a2 + 1)) S_31 _ _ _ h hNN hw hl (lv_sub hv [1, 2, 0] rfl)
set_option maxHeartbeats 4000000 in
set_option maxRecDepth 100000 in
theorem j_X10_write_78 {l : Launch} {p : Program} {e : Env} {s : State} {m : MethodId} {args : Array Value} {below : List Frame} {meth : Method} {c : Code} {Z : xz_T} {et : Nat → Nat} {Nn : Nat → Nat} {K : xs_T → Prop} (X : CallFix p m c cX10_write 3 s args (wq yX10_write cX10_write 3 none) RX10) (hk : xk Z s) (hr : meth.sig.returnType = none) (hlocks : meth.locks = false) : ∀ (a1 : Int32) (S : xs_T) (H : Heap) (locs : List Loc) (ls : Array Slot), v_X10_write_78 K a1 S → S.2.2.2.2 = Nn → wd Z et S H → xl Z locs → lv_has ls 3 [(0, .ref (et (0))), (1, .int (a1))] → W p l e (headSpec (wq yX10_write cX10_write 3 none) { frames := 0, cells := 0, slots := 0, locals := 0 }).room s m args below meth c H locs 0 0 (MQ below (xQv Z et Nn K) args s 0 0 (fun q => Z.2.2.1 ≤ q)) (F0 m 78 ls []) := by
  intro a1 S H locs ls h hNN hw hl hv
  unfold v_X10_write_78 at h
  refine lv_aload_n X.1 X.2.1 dX10_write_78 rfl (lv_at hv 0 rfl) ?_
  refine xw_get X hk hw (i := 0) 19 xe_0 rfl tlX10 (by decide) rfl tw_538 dX10_write_79 ?_
  refine lv_aload_n X.1 X.2.1 dX10_write_82 rfl (lv_at hv 0 rfl) ?_
  refine xw_get X hk hw (i := 0) 18 xe_0 rfl tlX10 (by decide) rfl tw_537 dX10_write_83 ?_
  refine lv_iload_n X.1 X.2.1 dX10_write_86 rfl (lv_at hv 1 rfl) ?_
  obtain ⟨j_3, e_4, b_5, h⟩ := h
  refine xw_ist X hk hw hl xe_19 rfl e_4 b_5 (by decide) dX10_write_87 (fun H locs hw hl => ?_)
  obtain ⟨S_6, e_7⟩ : ∃ T : xs_T, T = sI S 19 j_3 (a1) := ⟨_, rfl⟩
  rw [← e_7] at hw
  replace h := h S_6 e_7
  have hN : S_6.2.2.2.2 = S.2.2.2.2 := by rw [e_7]; rfl
  replace hNN := hN.trans hNN
  refine lv_iconst (v := 0) X.1 X.2.1 dX10_write_88 (by decide) ?_
  refine lv_istore_n (lv' := [(2, .int (0)), (0, .ref (et (0))), (1, .int (a1))]) X.1 X.2.1 dX10_write_89 rfl hv (by decide) rfl (fun ls hv => ?_)
  obtain ⟨n_8, h⟩ := h
  exact j_X10_write_90 X hk hr hlocks n_8 (a1) (0) S_6 _ _ _ h hNN hw hl (lv_sub hv [1, 2, 0] rfl)
set_option maxHeartbeats 4000000 in
set_option maxRecDepth 100000 in
theorem j_X10_write_40 {l : Launch} {p : Program} {e : Env} {s : State} {m : MethodId} {args : Array Value} {below : List Frame} {meth : Method} {c : Code} {Z : xz_T} {et : Nat → Nat} {Nn : Nat → Nat} {K : xs_T → Prop} (X : CallFix p m c cX10_write 3 s args (wq yX10_write cX10_write 3 none) RX10) (hk : xk Z s) (hr : meth.sig.returnType = none) (hlocks : meth.locks = false) : ∀ (n : Nat) (a1 : Int32) (a2 : Int32) (S : xs_T) (H : Heap) (locs : List Loc) (ls : Array Slot), v_X10_write_40 K n a1 a2 S → S.2.2.2.2 = Nn → wd Z et S H → xl Z locs → lv_has ls 3 [(0, .ref (et (0))), (1, .int (a1)), (2, .int (a2))] → W p l e (headSpec (wq yX10_write cX10_write 3 none) { frames := 0, cells := 0, slots := 0, locals := 0 }).room s m args below meth c H locs 0 0 (MQ below (xQv Z et Nn K) args s 0 0 (fun q => Z.2.2.1 ≤ q)) (F0 m 40 ls []) := by
  intro n
  induction n with
  | zero =>
    intro a1 a2 S H locs ls h hNN hw hl hv
    exact False.elim h
  | succ n ih =>
    intro a1 a2 S H locs ls h hNN hw hl hv
    rw [v_X10_write_40] at h
    refine lv_iload_n X.1 X.2.1 dX10_write_40 rfl (lv_at hv 2 rfl) ?_
    refine lv_sipush (v := 1280) X.1 X.2.1 dX10_write_41 (by decide) ?_
    refine lv_icmp_ge (tgt := 68) X.1 X.2.1 dX10_write_44 (by decide) (fun c_33 => ?_) (fun c_33 => ?_)
    · skip
      replace h := h.1 c_33
      refine lv_aload_n X.1 X.2.1 dX10_write_68 rfl (lv_at hv 0 rfl) ?_
      refine lv_dup X.1 X.2.1 dX10_write_69 rfl ?_
      refine xw_get X hk hw (i := 0) 18 xe_0 rfl tlX10 (by decide) rfl tw_537 dX10_write_70 ?_
      refine lv_iconst (v := 1) X.1 X.2.1 dX10_write_73 (by decide) ?_
      refine lv_isub X.1 X.2.1 dX10_write_74 ?_
      refine xw_put X hk hw hl (i := 0) 18 xe_0 rfl rfl tlX10 tyX10 tyX10_ok nmX10 (by decide) tw_537 rfl rfl (Nat.le_of_ble_eq_true rfl) dX10_write_75 (fun H locs hw hl => ?_)
      obtain ⟨S_34, e_35⟩ : ∃ T : xs_T, T = sF S 0 18 (((xF S 0 18) - 1)) := ⟨_, rfl⟩
      rw [← e_35] at hw
      replace h := h S_34 e_35
      have hN : S_34.2.2.2.2 = S.2.2.2.2 := by rw [e_35]; rfl
      replace hNN := hN.trans hNN
      exact j_X10_write_78 X hk hr hlocks (a1) S_34 _ _ _ h hNN hw hl (lv_sub hv [0, 1] rfl)
    · skip
      replace h := h.2 c_33
      refine lv_aload_n X.1 X.2.1 dX10_write_47 rfl (lv_at hv 0 rfl) ?_
      refine xw_get X hk hw (i := 0) 20 xe_0 rfl tlX10 (by decide) rfl tw_539 dX10_write_48 ?_
      refine lv_iload_n X.1 X.2.1 dX10_write_51 rfl (lv_at hv 2 rfl) ?_
      refine lv_bipush (v := 64) X.1 X.2.1 dX10_write_52 (by decide) ?_
      refine lv_isub X.1 X.2.1 dX10_write_54 ?_
      refine lv_aload_n X.1 X.2.1 dX10_write_55 rfl (lv_at hv 0 rfl) ?_
      refine xw_get X hk hw (i := 0) 20 xe_0 rfl tlX10 (by decide) rfl tw_539 dX10_write_56 ?_
      refine lv_iload_n X.1 X.2.1 dX10_write_59 rfl (lv_at hv 2 rfl) ?_
      obtain ⟨j_36, e_37, b_38, h⟩ := h
      refine xw_lld X hk hw xe_20 e_37 b_38 (by decide) dX10_write_60 ?_
      obtain ⟨j_39, e_40, b_41, h⟩ := h
      refine xw_lst X hk hw hl xe_20 rfl e_40 b_41 (by decide) dX10_write_61 (fun H locs hw hl => ?_)
      obtain ⟨S_42, e_43⟩ : ∃ T : xs_T, T = sL S 20 j_39 ((xL S 20 j_36)) := ⟨_, rfl⟩
      rw [← e_43] at hw
      replace h := h S_42 e_43
      have hN : S_42.2.2.2.2 = S.2.2.2.2 := by rw [e_43]; rfl
      replace hNN := hN.trans hNN
      refine lv_iinc (v := (a2 + 1)) (lv' := [(2, .int ((a2 + 1))), (0, .ref (et (0))), (1, .int (a1))]) X.1 X.2.1 dX10_write_62 hv (k := 2) rfl rfl (by decide) rfl (fun ls hv => ?_)
      refine lv_goto (tgt := 40) X.1 X.2.1 dX10_write_65 (by decide) ?_
      exact ih (a1) ((a2 + 1)) S_42 _ _ _ h hNN hw hl (lv_sub hv [1, 2, 0] rfl)
set_option maxHeartbeats 4000000 in
set_option maxRecDepth 100000 in
theorem j_X10_write_11 {l : Launch} {p : Program} {e : Env} {s : State} {m : MethodId} {args : Array Value} {below : List Frame} {meth : Method} {c : Code} {Z : xz_T} {et : Nat → Nat} {Nn : Nat → Nat} {K : xs_T → Prop} (X : CallFix p m c cX10_write 3 s args (wq yX10_write cX10_write 3 none) RX10) (hk : xk Z s) (hr : meth.sig.returnType = none) (hlocks : meth.locks = false) : ∀ (n : Nat) (a1 : Int32) (a2 : Int32) (S : xs_T) (H : Heap) (locs : List Loc) (ls : Array Slot), v_X10_write_11 K n a1 a2 S → S.2.2.2.2 = Nn → wd Z et S H → xl Z locs → lv_has ls 3 [(0, .ref (et (0))), (1, .int (a1)), (2, .int (a2))] → W p l e (headSpec (wq yX10_write cX10_write 3 none) { frames := 0, cells := 0, slots := 0, locals := 0 }).room s m args below meth c H locs 0 0 (MQ below (xQv Z et Nn K) args s 0 0 (fun q => Z.2.2.1 ≤ q)) (F0 m 11 ls []) := by
  intro n
  induction n with
  | zero =>
    intro a1 a2 S H locs ls h hNN hw hl hv
    exact False.elim h
  | succ n ih =>
    intro a1 a2 S H locs ls h hNN hw hl hv
    rw [v_X10_write_11] at h
    refine lv_iload_n X.1 X.2.1 dX10_write_11 rfl (lv_at hv 2 rfl) ?_
    refine lv_bipush (v := 20) X.1 X.2.1 dX10_write_12 (by decide) ?_
    refine lv_icmp_ge (tgt := 37) X.1 X.2.1 dX10_write_14 (by decide) (fun c_9 => ?_) (fun c_9 => ?_)
    · skip
      replace h := h.1 c_9
      refine lv_bipush (v := 64) X.1 X.2.1 dX10_write_37 (by decide) ?_
      refine lv_istore_n (lv' := [(2, .int (64)), (0, .ref (et (0))), (1, .int (a1))]) X.1 X.2.1 dX10_write_39 rfl hv (by decide) rfl (fun ls hv => ?_)
      obtain ⟨n_10, h⟩ := h
      exact j_X10_write_40 X hk hr hlocks n_10 (a1) (64) S _ _ _ h hNN hw hl (lv_sub hv [1, 2, 0] rfl)
    · skip
      replace h := h.2 c_9
      refine lv_aload_n X.1 X.2.1 dX10_write_17 rfl (lv_at hv 0 rfl) ?_
      refine xw_get X hk hw (i := 0) 19 xe_0 rfl tlX10 (by decide) rfl tw_538 dX10_write_18 ?_
      refine lv_iload_n X.1 X.2.1 dX10_write_21 rfl (lv_at hv 2 rfl) ?_
      refine lv_iconst (v := 1) X.1 X.2.1 dX10_write_22 (by decide) ?_
      refine lv_isub X.1 X.2.1 dX10_write_23 ?_
      refine lv_aload_n X.1 X.2.1 dX10_write_24 rfl (lv_at hv 0 rfl) ?_
      refine xw_get X hk hw (i := 0) 19 xe_0 rfl tlX10 (by decide) rfl tw_538 dX10_write_25 ?_
      refine lv_iload_n X.1 X.2.1 dX10_write_28 rfl (lv_at hv 2 rfl) ?_
      obtain ⟨j_11, e_12, b_13, h⟩ := h
      refine xw_ild X hk hw xe_19 e_12 b_13 (by decide) dX10_write_29 ?_
      obtain ⟨j_14, e_15, b_16, h⟩ := h
      refine xw_ist X hk hw hl xe_19 rfl e_15 b_16 (by decide) dX10_write_30 (fun H locs hw hl => ?_)
      obtain ⟨S_17, e_18⟩ : ∃ T : xs_T, T = sI S 19 j_14 ((xI S 19 j_11)) := ⟨_, rfl⟩
      rw [← e_18] at hw
      replace h := h S_17 e_18
      have hN : S_17.2.2.2.2 = S.2.2.2.2 := by rw [e_18]; rfl
      replace hNN := hN.trans hNN
      refine lv_iinc (v := (a2 + 1)) (lv' := [(2, .int ((a2 + 1))), (0, .ref (et (0))), (1, .int (a1))]) X.1 X.2.1 dX10_write_31 hv (k := 2) rfl rfl (by decide) rfl (fun ls hv => ?_)
      refine lv_goto (tgt := 11) X.1 X.2.1 dX10_write_34 (by decide) ?_
      exact ih (a1) ((a2 + 1)) S_17 _ _ _ h hNN hw hl (lv_sub hv [1, 2, 0] rfl)
set_option maxHeartbeats 4000000 in
set_option maxRecDepth 100000 in
theorem c_X10_write (l : Launch) (Z : xz_T) (et : Nat → Nat) (S : xs_T) (x1 : Int32) (K : xs_T → Prop) (h : v_X10_write x1 S K) : Met l yX10_write (wq yX10_write cX10_write 3 none) { frames := 0, cells := 0, slots := 0, locals := 0 } (xPc Z et S [.ref (et (0)), .int (x1)]) (xQv Z et S.2.2.2.2 K) 0 0 (fun q => Z.2.2.1 ≤ q) := by
  refine Met.ofW (cc := cX10_write) (maxL := 3) (ret := none) (by decide +kernel) rfl ?_
  intro p e s m args below meth c s₁ B hml hv0
  obtain ⟨rfl, hk, hw⟩ := hv0
  have X : CallFix p m c cX10_write 3 s _ (wq yX10_write cX10_write 3 none) RX10 := ⟨B.exec, B.bytes, hml, findClass_of_methodNamed B.named, atoms_spec (ws := (wq yX10_write cX10_write 3 none)) B.pre⟩
  have hr := B.returns
  have hlocks := B.notSynchronized
  have hl : xl Z [] := fun _ h => by cases h
  have hNN : S.2.2.2.2 = S.2.2.2.2 := rfl
  have hv := lv_entry [.ref (et (0)), .int (x1)] (n := 3) (Nat.le_of_ble_eq_true rfl)
  rw [lg_entry_eq]
  generalize (lg_sl [.ref (et (0)), .int (x1)] ++ List.replicate (3 - (lg_sl [.ref (et (0)), .int (x1)]).length) Slot.unset).toArray = ls at hv ⊢
  replace hv : lv_has ls 3 [(0, .ref (et (0))), (1, .int (x1))] := hv
  unfold v_X10_write at h
  refine lv_aload_n X.1 X.2.1 dX10_write_0 rfl (lv_at hv 0 rfl) ?_
  refine xw_get X hk hw (i := 0) 18 xe_0 rfl tlX10 (by decide) rfl tw_537 dX10_write_1 ?_
  refine lv_bipush (v := 20) X.1 X.2.1 dX10_write_4 (by decide) ?_
  refine lv_icmp_ne (tgt := 78) X.1 X.2.1 dX10_write_6 (by decide) (fun c_1 => ?_) (fun c_1 => ?_)
  · skip
    replace h := h.1 c_1
    exact j_X10_write_78 X hk hr hlocks (x1) S _ _ _ h hNN hw hl (lv_sub hv [0, 1] rfl)
  · skip
    replace h := h.2 c_1
    refine lv_iconst (v := 1) X.1 X.2.1 dX10_write_9 (by decide) ?_
    refine lv_istore_n (lv' := [(2, .int (1)), (0, .ref (et (0))), (1, .int (x1))]) X.1 X.2.1 dX10_write_10 rfl hv (by decide) rfl (fun ls hv => ?_)
    obtain ⟨n_2, h⟩ := h
    exact j_X10_write_11 X hk hr hlocks n_2 (x1) (1) S _ _ _ h hNN hw hl (lv_sub hv [1, 2, 0] rfl)
def v_X10_begin_198 (K : Int32 → xs_T → Prop) (a6 : Int32) (S : xs_T) : Prop := ((a6 ≤ 0 → ∀ S_67 : xs_T, S_67 = sF S 0 24 ((xF S 0 24)) → K (a6) S_67) ∧ (¬ a6 ≤ 0 → ∀ S_69 : xs_T, S_69 = sF S 0 24 (((xF S 0 24) + 1)) → K (a6) S_69))
def v_X10_begin_187 (K : Int32 → xs_T → Prop) (a5 : Int32) (a6 : Int32) (a7 : Int32) (S : xs_T) : Prop := ((a7 = 0 → v_X10_begin_198 K (a6) S) ∧ (¬ a7 = 0 → v_X10_write (a5) S (fun (S_64 : xs_T) => v_X10_begin_198 K (a6) S_64)))
def v_X10_begin_126 (K : Int32 → xs_T → Prop) : Nat → Int32 → Int32 → Int32 → Int32 → xs_T → Prop
  | 0, _, _, _, _, _ => False
  | n + 1, a5, a6, a7, a8, S => ((a5 < 0 → v_X10_begin_187 K (a5) (a6) (a7) S) ∧ (¬ a5 < 0 → ∃ j_48 : Nat, a5 = nI j_48 ∧ j_48 < 120 ∧ (((xI S 2 j_48) ≤ a8 → v_X10_begin_187 K (a5) (a6) (a7) S) ∧ (¬ (xI S 2 j_48) ≤ a8 → ((¬ a7 = 0 → v_X10_begin_126 K n (a5) (a6) (1) ((a8 + 1)) S) ∧ (a7 = 0 → ∃ j_53 : Nat, a8 = nI j_53 ∧ j_53 < 64 ∧ ∃ j_56 : Nat, a5 = nI j_56 ∧ j_56 < 120 ∧ ∃ j_59 : Nat, ((xI S 3 j_56) + a8) = nI j_59 ∧ j_59 < 3000 ∧ (((xL S 21 j_53) = (xL S 5 j_59) → v_X10_begin_126 K n (a5) (a6) (0) ((a8 + 1)) S) ∧ (¬ (xL S 21 j_53) = (xL S 5 j_59) → v_X10_begin_126 K n (a5) (a6) (1) ((a8 + 1)) S))))))))
def v_X10_begin_109 (K : Int32 → xs_T → Prop) (a1 : Int32) (a2 : Int32) (a3 : Int32) (a4 : Int32) (a5 : Int32) (S : xs_T) : Prop := v_X10_does (a1) (a2) (a3) (a4) S (fun (r_45 : Int32) (S_44 : xs_T) => ∃ n, v_X10_begin_126 K n (a5) (r_45) (0) (0) S_44)
def v_X10_begin_64 (K : Int32 → xs_T → Prop) : Nat → Int32 → Int32 → Int32 → Int32 → Int32 → Int32 → xs_T → Prop
  | 0, _, _, _, _, _, _, _ => False
  | n + 1, a1, a2, a3, a4, a5, a6, S => ((a5 < 0 → v_X10_begin_109 K (a1) (a2) (a3) (a4) (a5) S) ∧ (¬ a5 < 0 → ∃ j_29 : Nat, a5 = nI j_29 ∧ j_29 < 120 ∧ (((xI S 2 j_29) ≤ a6 → v_X10_begin_109 K (a1) (a2) (a3) (a4) (a5) S) ∧ (¬ (xI S 2 j_29) ≤ a6 → ∃ j_33 : Nat, a5 = nI j_33 ∧ j_33 < 120 ∧ ∃ j_36 : Nat, ((xI S 3 j_33) + a6) = nI j_36 ∧ j_36 < 3000 ∧ ∃ j_39 : Nat, a6 = nI j_39 ∧ j_39 < 64 ∧ ∀ S_42 : xs_T, S_42 = sL S 21 j_39 ((xL S 5 j_36)) → v_X10_begin_64 K n (a1) (a2) (a3) (a4) (a5) ((a6 + 1)) S_42))))
def v_X10_begin (x1 : Int32) (x2 : Int32) (x3 : Int32) (x4 : Int32) (S : xs_T) (K : Int32 → xs_T → Prop) : Prop := ∀ S_1 : xs_T, S_1 = sF S 0 23 (((xF S 0 23) + 1)) → ((¬ x1 = 1 → ((x1 = 2 → v_X10_rowOn (x2) S_1 (fun (r_6 : Int32) (S_5 : xs_T) => ∃ n, v_X10_begin_64 K n (x1) (x2) (x3) (x4) (r_6) (0) S_5)) ∧ (¬ x1 = 2 → ((x1 = 3 → v_X10_rowOn (x2) S_1 (fun (r_10 : Int32) (S_9 : xs_T) => ∃ n, v_X10_begin_64 K n (x1) (x2) (x3) (x4) (r_10) (0) S_9)) ∧ (¬ x1 = 3 → ((x1 = 4 → v_X10_rowOn (x2) S_1 (fun (r_14 : Int32) (S_13 : xs_T) => ∃ n, v_X10_begin_64 K n (x1) (x2) (x3) (x4) (r_14) (0) S_13)) ∧ (¬ x1 = 4 → ((x1 = 10 → v_X10_rowOn (x2) S_1 (fun (r_18 : Int32) (S_17 : xs_T) => ∃ n, v_X10_begin_64 K n (x1) (x2) (x3) (x4) (r_18) (0) S_17)) ∧ (¬ x1 = 10 → ((¬ x1 = 11 → ∃ n, v_X10_begin_64 K n (x1) (x2) (x3) (x4) ((-1)) (0) S_1) ∧ (x1 = 11 → v_X10_rowOn (x2) S_1 (fun (r_23 : Int32) (S_22 : xs_T) => ∃ n, v_X10_begin_64 K n (x1) (x2) (x3) (x4) (r_23) (0) S_22)))))))))))) ∧ (x1 = 1 → v_X10_rowOn (x3) S_1 (fun (r_26 : Int32) (S_25 : xs_T) => ∃ n, v_X10_begin_64 K n (x1) (x2) (x3) (x4) (r_26) (0) S_25)))
set_option maxHeartbeats 4000000 in
set_option maxRecDepth 100000 in
theorem j_X10_begin_198 {l : Launch} {p : Program} {e : Env} {s : State} {m : MethodId} {args : Array Value} {below : List Frame} {meth : Method} {c : Code} {Z : xz_T} {et : Nat → Nat} {Nn : Nat → Nat} {K : Int32 → xs_T → Prop} (X : CallFix p m c cX10_begin 9 s args (wq yX10_begin cX10_begin 9 (some .int)) RX10) (hk : xk Z s) (hr : meth.sig.returnType = (some .int)) (hlocks : meth.locks = false) : ∀ (a6 : Int32) (S : xs_T) (H : Heap) (locs : List Loc) (ls : Array Slot), v_X10_begin_198 K a6 S → S.2.2.2.2 = Nn → wd Z et S H → xl Z locs → lv_has ls 9 [(0, .ref (et (0))), (6, .int (a6))] → W p l e (headSpec (wq yX10_begin cX10_begin 9 (some .int)) { frames := 5, cells := 0, slots := 0, locals := 119 }).room s m args below meth c H locs 0 0 (MQ below (xQi Z et Nn K) args s 0 0 (fun q => Z.2.2.1 ≤ q)) (F0 m 198 ls []) := by
  intro a6 S H locs ls h hNN hw hl hv
  unfold v_X10_begin_198 at h
  refine lv_aload_n X.1 X.2.1 dX10_begin_198 rfl (lv_at hv 0 rfl) ?_
  refine lv_iload X.1 X.2.1 dX10_begin_199 (lv_at hv 1 rfl) ?_
  refine lv_if_le (tgt := 213) X.1 X.2.1 dX10_begin_201 (by decide) (fun c_66 => ?_) (fun c_66 => ?_)
  · skip
    replace h := h.1 c_66
    refine lv_aload_n X.1 X.2.1 dX10_begin_213 rfl (lv_at hv 0 rfl) ?_
    refine xw_get X hk hw (i := 0) 24 xe_0 rfl tlX10 (by decide) rfl tw_543 dX10_begin_214 ?_
    refine xw_put X hk hw hl (i := 0) 24 xe_0 rfl rfl tlX10 tyX10 tyX10_ok nmX10 (by decide) tw_543 rfl rfl (Nat.le_of_ble_eq_true rfl) dX10_begin_217 (fun H locs hw hl => ?_)
    obtain ⟨S_67, e_68⟩ : ∃ T : xs_T, T = sF S 0 24 ((xF S 0 24)) := ⟨_, rfl⟩
    rw [← e_68] at hw
    replace h := h S_67 e_68
    have hN : S_67.2.2.2.2 = S.2.2.2.2 := by rw [e_68]; rfl
    replace hNN := hN.trans hNN
    refine lv_iload X.1 X.2.1 dX10_begin_220 (lv_at hv 1 rfl) ?_
    exact xt_i X hr hlocks hNN hw hl h dX10_begin_222
  · skip
    replace h := h.2 c_66
    refine lv_aload_n X.1 X.2.1 dX10_begin_204 rfl (lv_at hv 0 rfl) ?_
    refine xw_get X hk hw (i := 0) 24 xe_0 rfl tlX10 (by decide) rfl tw_543 dX10_begin_205 ?_
    refine lv_iconst (v := 1) X.1 X.2.1 dX10_begin_208 (by decide) ?_
    refine lv_iadd X.1 X.2.1 dX10_begin_209 ?_
    refine lv_goto (tgt := 217) X.1 X.2.1 dX10_begin_210 (by decide) ?_
    refine xw_put X hk hw hl (i := 0) 24 xe_0 rfl rfl tlX10 tyX10 tyX10_ok nmX10 (by decide) tw_543 rfl rfl (Nat.le_of_ble_eq_true rfl) dX10_begin_217 (fun H locs hw hl => ?_)
    obtain ⟨S_69, e_70⟩ : ∃ T : xs_T, T = sF S 0 24 (((xF S 0 24) + 1)) := ⟨_, rfl⟩
    rw [← e_70] at hw
    replace h := h S_69 e_70
    have hN : S_69.2.2.2.2 = S.2.2.2.2 := by rw [e_70]; rfl
    replace hNN := hN.trans hNN
    refine lv_iload X.1 X.2.1 dX10_begin_220 (lv_at hv 1 rfl) ?_
    exact xt_i X hr hlocks hNN hw hl h dX10_begin_222
set_option maxHeartbeats 4000000 in
set_option maxRecDepth 100000 in
theorem j_X10_begin_187 {l : Launch} {p : Program} {e : Env} {s : State} {m : MethodId} {args : Array Value} {below : List Frame} {meth : Method} {c : Code} {Z : xz_T} {et : Nat → Nat} {Nn : Nat → Nat} {K : Int32 → xs_T → Prop} (X : CallFix p m c cX10_begin 9 s args (wq yX10_begin cX10_begin 9 (some .int)) RX10) (hk : xk Z s) (hr : meth.sig.returnType = (some .int)) (hlocks : meth.locks = false) : ∀ (a5 : Int32) (a6 : Int32) (a7 : Int32) (S : xs_T) (H : Heap) (locs : List Loc) (ls : Array Slot), v_X10_begin_187 K a5 a6 a7 S → S.2.2.2.2 = Nn → wd Z et S H → xl Z locs → lv_has ls 9 [(0, .ref (et (0))), (5, .int (a5)), (6, .int (a6)), (7, .int (a7))] → W p l e (headSpec (wq yX10_begin cX10_begin 9 (some .int)) { frames := 5, cells := 0, slots := 0, locals := 119 }).room s m args below meth c H locs 0 0 (MQ below (xQi Z et Nn K) args s 0 0 (fun q => Z.2.2.1 ≤ q)) (F0 m 187 ls []) := by
  intro a5 a6 a7 S H locs ls h hNN hw hl hv
  unfold v_X10_begin_187 at h
  refine lv_iload X.1 X.2.1 dX10_begin_187 (lv_at hv 3 rfl) ?_
  refine lv_if_eq (tgt := 198) X.1 X.2.1 dX10_begin_189 (by decide) (fun c_63 => ?_) (fun c_63 => ?_)
  · skip
    replace h := h.1 c_63
    exact j_X10_begin_198 X hk hr hlocks (a6) S _ _ _ h hNN hw hl (lv_sub hv [0, 2] rfl)
  · skip
    replace h := h.2 c_63
    refine lv_aload_n X.1 X.2.1 dX10_begin_192 rfl (lv_at hv 0 rfl) ?_
    refine lv_iload X.1 X.2.1 dX10_begin_193 (lv_at hv 1 rfl) ?_
    refine xc_v (xr_V (n := 1) (As := [.int (a5)]) (i := 0) X hk hw hv.1 (c_X10_write l Z et S (a5) _ h) (tb_V tw_717 tw_714 tw_716 tw_34 tw_44) xe_0 rfl rfl rfl rfl (by decide +kernel) ⟨Nat.le_of_ble_eq_true rfl, Nat.le_of_ble_eq_true rfl⟩ rfl (Nat.le_of_ble_eq_true rfl) dX10_begin_195 ⟨Nat.le_of_ble_eq_true rfl, Nat.le_of_ble_eq_true rfl⟩) hl (fun S_64 H locs h hN hw hl => ?_)
    replace hNN := hN.trans hNN
    exact j_X10_begin_198 X hk hr hlocks (a6) S_64 _ _ _ h hNN hw hl (lv_sub hv [0, 2] rfl)
set_option maxHeartbeats 4000000 in
set_option maxRecDepth 100000 in
theorem j_X10_begin_126 {l : Launch} {p : Program} {e : Env} {s : State} {m : MethodId} {args : Array Value} {below : List Frame} {meth : Method} {c : Code} {Z : xz_T} {et : Nat → Nat} {Nn : Nat → Nat} {K : Int32 → xs_T → Prop} (X : CallFix p m c cX10_begin 9 s args (wq yX10_begin cX10_begin 9 (some .int)) RX10) (hk : xk Z s) (hr : meth.sig.returnType = (some .int)) (hlocks : meth.locks = false) : ∀ (n : Nat) (a5 : Int32) (a6 : Int32) (a7 : Int32) (a8 : Int32) (S : xs_T) (H : Heap) (locs : List Loc) (ls : Array Slot), v_X10_begin_126 K n a5 a6 a7 a8 S → S.2.2.2.2 = Nn → wd Z et S H → xl Z locs → lv_has ls 9 [(0, .ref (et (0))), (5, .int (a5)), (6, .int (a6)), (7, .int (a7)), (8, .int (a8))] → W p l e (headSpec (wq yX10_begin cX10_begin 9 (some .int)) { frames := 5, cells := 0, slots := 0, locals := 119 }).room s m args below meth c H locs 0 0 (MQ below (xQi Z et Nn K) args s 0 0 (fun q => Z.2.2.1 ≤ q)) (F0 m 126 ls []) := by
  intro n
  induction n with
  | zero =>
    intro a5 a6 a7 a8 S H locs ls h hNN hw hl hv
    exact False.elim h
  | succ n ih =>
    intro a5 a6 a7 a8 S H locs ls h hNN hw hl hv
    rw [v_X10_begin_126] at h
    refine lv_iload X.1 X.2.1 dX10_begin_126 (lv_at hv 1 rfl) ?_
    refine lv_if_lt (tgt := 187) X.1 X.2.1 dX10_begin_128 (by decide) (fun c_47 => ?_) (fun c_47 => ?_)
    · skip
      replace h := h.1 c_47
      exact j_X10_begin_187 X hk hr hlocks (a5) (a6) (a7) S _ _ _ h hNN hw hl (lv_sub hv [0, 1, 2, 3] rfl)
    · skip
      replace h := h.2 c_47
      refine lv_iload X.1 X.2.1 dX10_begin_131 (lv_at hv 4 rfl) ?_
      refine lv_aload_n X.1 X.2.1 dX10_begin_133 rfl (lv_at hv 0 rfl) ?_
      refine xw_get X hk hw (i := 0) 2 xe_0 rfl tlX10 (by decide) rfl tw_521 dX10_begin_134 ?_
      refine lv_iload X.1 X.2.1 dX10_begin_137 (lv_at hv 1 rfl) ?_
      obtain ⟨j_48, e_49, b_50, h⟩ := h
      refine xw_ild X hk hw xe_2 e_49 b_50 (by decide) dX10_begin_139 ?_
      refine lv_icmp_ge (tgt := 187) X.1 X.2.1 dX10_begin_140 (by decide) (fun c_51 => ?_) (fun c_51 => ?_)
      · skip
        replace h := h.1 c_51
        exact j_X10_begin_187 X hk hr hlocks (a5) (a6) (a7) S _ _ _ h hNN hw hl (lv_sub hv [0, 1, 2, 3] rfl)
      · skip
        replace h := h.2 c_51
        refine lv_iload X.1 X.2.1 dX10_begin_143 (lv_at hv 3 rfl) ?_
        refine lv_if_ne (tgt := 174) X.1 X.2.1 dX10_begin_145 (by decide) (fun c_52 => ?_) (fun c_52 => ?_)
        · skip
          replace h := h.1 c_52
          refine lv_iconst (v := 1) X.1 X.2.1 dX10_begin_174 (by decide) ?_
          refine lv_goto (tgt := 179) X.1 X.2.1 dX10_begin_175 (by decide) ?_
          refine lv_istore (lv' := [(7, .int (1)), (0, .ref (et (0))), (5, .int (a5)), (6, .int (a6)), (8, .int (a8))]) X.1 X.2.1 dX10_begin_179 hv (by decide) rfl (fun ls hv => ?_)
          refine lv_iinc (v := (a8 + 1)) (lv' := [(8, .int ((a8 + 1))), (7, .int (1)), (0, .ref (et (0))), (5, .int (a5)), (6, .int (a6))]) X.1 X.2.1 dX10_begin_181 hv (k := 4) rfl rfl (by decide) rfl (fun ls hv => ?_)
          refine lv_goto (tgt := 126) X.1 X.2.1 dX10_begin_184 (by decide) ?_
          exact ih (a5) (a6) (1) ((a8 + 1)) S _ _ _ h hNN hw hl (lv_sub hv [2, 3, 4, 1, 0] rfl)
        · skip
          replace h := h.2 c_52
          refine lv_aload_n X.1 X.2.1 dX10_begin_148 rfl (lv_at hv 0 rfl) ?_
          refine xw_get X hk hw (i := 0) 21 xe_0 rfl tlX10 (by decide) rfl tw_540 dX10_begin_149 ?_
          refine lv_iload X.1 X.2.1 dX10_begin_152 (lv_at hv 4 rfl) ?_
          obtain ⟨j_53, e_54, b_55, h⟩ := h
          refine xw_lld X hk hw xe_21 e_54 b_55 (by decide) dX10_begin_154 ?_
          refine lv_aload_n X.1 X.2.1 dX10_begin_155 rfl (lv_at hv 0 rfl) ?_
          refine xw_get X hk hw (i := 0) 5 xe_0 rfl tlX10 (by decide) rfl tw_524 dX10_begin_156 ?_
          refine lv_aload_n X.1 X.2.1 dX10_begin_159 rfl (lv_at hv 0 rfl) ?_
          refine xw_get X hk hw (i := 0) 3 xe_0 rfl tlX10 (by decide) rfl tw_522 dX10_begin_160 ?_
          refine lv_iload X.1 X.2.1 dX10_begin_163 (lv_at hv 1 rfl) ?_
          obtain ⟨j_56, e_57, b_58, h⟩ := h
          refine xw_ild X hk hw xe_3 e_57 b_58 (by decide) dX10_begin_165 ?_
          refine lv_iload X.1 X.2.1 dX10_begin_166 (lv_at hv 4 rfl) ?_
          refine lv_iadd X.1 X.2.1 dX10_begin_168 ?_
          obtain ⟨j_59, e_60, b_61, h⟩ := h
          refine xw_lld X hk hw xe_5 e_60 b_61 (by decide) dX10_begin_169 ?_
          refine W.lcmp X.1 X.2.1 dX10_begin_170 ?_
          refine lv_if_eq (tgt := 178) X.1 X.2.1 dX10_begin_171 (by decide) (fun c_62 => ?_) (fun c_62 => ?_)
          · skip
            replace c_62 := (lg_cmp_eq _ _).mp c_62
            replace h := h.1 c_62
            refine lv_iconst (v := 0) X.1 X.2.1 dX10_begin_178 (by decide) ?_
            refine lv_istore (lv' := [(7, .int (0)), (0, .ref (et (0))), (5, .int (a5)), (6, .int (a6)), (8, .int (a8))]) X.1 X.2.1 dX10_begin_179 hv (by decide) rfl (fun ls hv => ?_)
            refine lv_iinc (v := (a8 + 1)) (lv' := [(8, .int ((a8 + 1))), (7, .int (0)), (0, .ref (et (0))), (5, .int (a5)), (6, .int (a6))]) X.1 X.2.1 dX10_begin_181 hv (k := 4) rfl rfl (by decide) rfl (fun ls hv => ?_)
            refine lv_goto (tgt := 126) X.1 X.2.1 dX10_begin_184 (by decide) ?_
            exact ih (a5) (a6) (0) ((a8 + 1)) S _ _ _ h hNN hw hl (lv_sub hv [2, 3, 4, 1, 0] rfl)
          · skip
            replace c_62 := fun q => c_62 ((lg_cmp_eq _ _).mpr q)
            replace h := h.2 c_62
            refine lv_iconst (v := 1) X.1 X.2.1 dX10_begin_174 (by decide) ?_
            refine lv_goto (tgt := 179) X.1 X.2.1 dX10_begin_175 (by decide) ?_
            refine lv_istore (lv' := [(7, .int (1)), (0, .ref (et (0))), (5, .int (a5)), (6, .int (a6)), (8, .int (a8))]) X.1 X.2.1 dX10_begin_179 hv (by decide) rfl (fun ls hv => ?_)
            refine lv_iinc (v := (a8 + 1)) (lv' := [(8, .int ((a8 + 1))), (7, .int (1)), (0, .ref (et (0))), (5, .int (a5)), (6, .int (a6))]) X.1 X.2.1 dX10_begin_181 hv (k := 4) rfl rfl (by decide) rfl (fun ls hv => ?_)
            refine lv_goto (tgt := 126) X.1 X.2.1 dX10_begin_184 (by decide) ?_
            exact ih (a5) (a6) (1) ((a8 + 1)) S _ _ _ h hNN hw hl (lv_sub hv [2, 3, 4, 1, 0] rfl)
set_option maxHeartbeats 4000000 in
set_option maxRecDepth 100000 in
theorem j_X10_begin_109 {l : Launch} {p : Program} {e : Env} {s : State} {m : MethodId} {args : Array Value} {below : List Frame} {meth : Method} {c : Code} {Z : xz_T} {et : Nat → Nat} {Nn : Nat → Nat} {K : Int32 → xs_T → Prop} (X : CallFix p m c cX10_begin 9 s args (wq yX10_begin cX10_begin 9 (some .int)) RX10) (hk : xk Z s) (hr : meth.sig.returnType = (some .int)) (hlocks : meth.locks = false) : ∀ (a1 : Int32) (a2 : Int32) (a3 : Int32) (a4 : Int32) (a5 : Int32) (S : xs_T) (H : Heap) (locs : List Loc) (ls : Array Slot), v_X10_begin_109 K a1 a2 a3 a4 a5 S → S.2.2.2.2 = Nn → wd Z et S H → xl Z locs → lv_has ls 9 [(0, .ref (et (0))), (1, .int (a1)), (2, .int (a2)), (3, .int (a3)), (4, .int (a4)), (5, .int (a5))] → W p l e (headSpec (wq yX10_begin cX10_begin 9 (some .int)) { frames := 5, cells := 0, slots := 0, locals := 119 }).room s m args below meth c H locs 0 0 (MQ below (xQi Z et Nn K) args s 0 0 (fun q => Z.2.2.1 ≤ q)) (F0 m 109 ls []) := by
  intro a1 a2 a3 a4 a5 S H locs ls h hNN hw hl hv
  unfold v_X10_begin_109 at h
  refine lv_aload_n X.1 X.2.1 dX10_begin_109 rfl (lv_at hv 0 rfl) ?_
  refine lv_iload_n X.1 X.2.1 dX10_begin_110 rfl (lv_at hv 1 rfl) ?_
  refine lv_iload_n X.1 X.2.1 dX10_begin_111 rfl (lv_at hv 2 rfl) ?_
  refine lv_iload_n X.1 X.2.1 dX10_begin_112 rfl (lv_at hv 3 rfl) ?_
  refine lv_iload X.1 X.2.1 dX10_begin_113 (lv_at hv 4 rfl) ?_
  refine xc_i (xr_V (n := 4) (As := [.int (a1), .int (a2), .int (a3), .int (a4)]) (i := 0) X hk hw hv.1 (c_X10_does l Z et S (a1) (a2) (a3) (a4) _ h) (tb_V tw_633 tw_630 tw_632 tw_19 tw_44) xe_0 rfl rfl rfl rfl (by decide +kernel) ⟨Nat.le_of_ble_eq_true rfl, Nat.le_of_ble_eq_true rfl⟩ rfl (Nat.le_of_ble_eq_true rfl) dX10_begin_115 ⟨Nat.le_of_ble_eq_true rfl, Nat.le_of_ble_eq_true rfl⟩) hl (fun r_45 S_44 H locs h hN hw hl => ?_)
  replace hNN := hN.trans hNN
  refine lv_istore (lv' := [(6, .int (r_45)), (0, .ref (et (0))), (1, .int (a1)), (2, .int (a2)), (3, .int (a3)), (4, .int (a4)), (5, .int (a5))]) X.1 X.2.1 dX10_begin_118 hv (by decide) rfl (fun ls hv => ?_)
  refine lv_iconst (v := 0) X.1 X.2.1 dX10_begin_120 (by decide) ?_
  refine lv_istore (lv' := [(7, .int (0)), (6, .int (r_45)), (0, .ref (et (0))), (1, .int (a1)), (2, .int (a2)), (3, .int (a3)), (4, .int (a4)), (5, .int (a5))]) X.1 X.2.1 dX10_begin_121 hv (by decide) rfl (fun ls hv => ?_)
  refine lv_iconst (v := 0) X.1 X.2.1 dX10_begin_123 (by decide) ?_
  refine lv_istore (lv' := [(8, .int (0)), (7, .int (0)), (6, .int (r_45)), (0, .ref (et (0))), (1, .int (a1)), (2, .int (a2)), (3, .int (a3)), (4, .int (a4)), (5, .int (a5))]) X.1 X.2.1 dX10_begin_124 hv (by decide) rfl (fun ls hv => ?_)
  obtain ⟨n_46, h⟩ := h
  exact j_X10_begin_126 X hk hr hlocks n_46 (a5) (r_45) (0) (0) S_44 _ _ _ h hNN hw hl (lv_sub hv [3, 8, 2, 1, 0] rfl)
set_option maxHeartbeats 4000000 in
set_option maxRecDepth 100000 in
theorem j_X10_begin_64 {l : Launch} {p : Program} {e : Env} {s : State} {m : MethodId} {args : Array Value} {below : List Frame} {meth : Method} {c : Code} {Z : xz_T} {et : Nat → Nat} {Nn : Nat → Nat} {K : Int32 → xs_T → Prop} (X : CallFix p m c cX10_begin 9 s args (wq yX10_begin cX10_begin 9 (some .int)) RX10) (hk : xk Z s) (hr : meth.sig.returnType = (some .int)) (hlocks : meth.locks = false) : ∀ (n : Nat) (a1 : Int32) (a2 : Int32) (a3 : Int32) (a4 : Int32) (a5 : Int32) (a6 : Int32) (S : xs_T) (H : Heap) (locs : List Loc) (ls : Array Slot), v_X10_begin_64 K n a1 a2 a3 a4 a5 a6 S → S.2.2.2.2 = Nn → wd Z et S H → xl Z locs → lv_has ls 9 [(0, .ref (et (0))), (1, .int (a1)), (2, .int (a2)), (3, .int (a3)), (4, .int (a4)), (5, .int (a5)), (6, .int (a6))] → W p l e (headSpec (wq yX10_begin cX10_begin 9 (some .int)) { frames := 5, cells := 0, slots := 0, locals := 119 }).room s m args below meth c H locs 0 0 (MQ below (xQi Z et Nn K) args s 0 0 (fun q => Z.2.2.1 ≤ q)) (F0 m 64 ls []) := by
  intro n
  induction n with
  | zero =>
    intro a1 a2 a3 a4 a5 a6 S H locs ls h hNN hw hl hv
    exact False.elim h
  | succ n ih =>
    intro a1 a2 a3 a4 a5 a6 S H locs ls h hNN hw hl hv
    rw [v_X10_begin_64] at h
    refine lv_iload X.1 X.2.1 dX10_begin_64 (lv_at hv 5 rfl) ?_
    refine lv_if_lt (tgt := 109) X.1 X.2.1 dX10_begin_66 (by decide) (fun c_28 => ?_) (fun c_28 => ?_)
    · skip
      replace h := h.1 c_28
      exact j_X10_begin_109 X hk hr hlocks (a1) (a2) (a3) (a4) (a5) S _ _ _ h hNN hw hl (lv_sub hv [0, 1, 2, 3, 4, 5] rfl)
    · skip
      replace h := h.2 c_28
      refine lv_iload X.1 X.2.1 dX10_begin_69 (lv_at hv 6 rfl) ?_
      refine lv_aload_n X.1 X.2.1 dX10_begin_71 rfl (lv_at hv 0 rfl) ?_
      refine xw_get X hk hw (i := 0) 2 xe_0 rfl tlX10 (by decide) rfl tw_521 dX10_begin_72 ?_
      refine lv_iload X.1 X.2.1 dX10_begin_75 (lv_at hv 5 rfl) ?_
      obtain ⟨j_29, e_30, b_31, h⟩ := h
      refine xw_ild X hk hw xe_2 e_30 b_31 (by decide) dX10_begin_77 ?_
      refine lv_icmp_ge (tgt := 109) X.1 X.2.1 dX10_begin_78 (by decide) (fun c_32 => ?_) (fun c_32 => ?_)
      · skip
        replace h := h.1 c_32
        exact j_X10_begin_109 X hk hr hlocks (a1) (a2) (a3) (a4) (a5) S _ _ _ h hNN hw hl (lv_sub hv [0, 1, 2, 3, 4, 5] rfl)
      · skip
        replace h := h.2 c_32
        refine lv_aload_n X.1 X.2.1 dX10_begin_81 rfl (lv_at hv 0 rfl) ?_
        refine xw_get X hk hw (i := 0) 21 xe_0 rfl tlX10 (by decide) rfl tw_540 dX10_begin_82 ?_
        refine lv_iload X.1 X.2.1 dX10_begin_85 (lv_at hv 6 rfl) ?_
        refine lv_aload_n X.1 X.2.1 dX10_begin_87 rfl (lv_at hv 0 rfl) ?_
        refine xw_get X hk hw (i := 0) 5 xe_0 rfl tlX10 (by decide) rfl tw_524 dX10_begin_88 ?_
        refine lv_aload_n X.1 X.2.1 dX10_begin_91 rfl (lv_at hv 0 rfl) ?_
        refine xw_get X hk hw (i := 0) 3 xe_0 rfl tlX10 (by decide) rfl tw_522 dX10_begin_92 ?_
        refine lv_iload X.1 X.2.1 dX10_begin_95 (lv_at hv 5 rfl) ?_
        obtain ⟨j_33, e_34, b_35, h⟩ := h
        refine xw_ild X hk hw xe_3 e_34 b_35 (by decide) dX10_begin_97 ?_
        refine lv_iload X.1 X.2.1 dX10_begin_98 (lv_at hv 6 rfl) ?_
        refine lv_iadd X.1 X.2.1 dX10_begin_100 ?_
        obtain ⟨j_36, e_37, b_38, h⟩ := h
        refine xw_lld X hk hw xe_5 e_37 b_38 (by decide) dX10_begin_101 ?_
        obtain ⟨j_39, e_40, b_41, h⟩ := h
        refine xw_lst X hk hw hl xe_21 rfl e_40 b_41 (by decide) dX10_begin_102 (fun H locs hw hl => ?_)
        obtain ⟨S_42, e_43⟩ : ∃ T : xs_T, T = sL S 21 j_39 ((xL S 5 j_36)) := ⟨_, rfl⟩
        rw [← e_43] at hw
        replace h := h S_42 e_43
        have hN : S_42.2.2.2.2 = S.2.2.2.2 := by rw [e_43]; rfl
        replace hNN := hN.trans hNN
        refine lv_iinc (v := (a6 + 1)) (lv' := [(6, .int ((a6 + 1))), (0, .ref (et (0))), (1, .int (a1)), (2, .int (a2)), (3, .int (a3)), (4, .int (a4)), (5, .int (a5))]) X.1 X.2.1 dX10_begin_103 hv (k := 6) rfl rfl (by decide) rfl (fun ls hv => ?_)
        refine lv_goto (tgt := 64) X.1 X.2.1 dX10_begin_106 (by decide) ?_
        exact ih (a1) (a2) (a3) (a4) (a5) ((a6 + 1)) S_42 _ _ _ h hNN hw hl (lv_sub hv [1, 2, 3, 4, 5, 6, 0] rfl)
set_option maxHeartbeats 4000000 in
set_option maxRecDepth 100000 in
theorem c_X10_begin (l : Launch) (Z : xz_T) (et : Nat → Nat) (S : xs_T) (x1 : Int32) (x2 : Int32) (x3 : Int32) (x4 : Int32) (K : Int32 → xs_T → Prop) (h : v_X10_begin x1 x2 x3 x4 S K) : Met l yX10_begin (wq yX10_begin cX10_begin 9 (some .int)) { frames := 5, cells := 0, slots := 0, locals := 119 } (xPc Z et S [.ref (et (0)), .int (x1), .int (x2), .int (x3), .int (x4)]) (xQi Z et S.2.2.2.2 K) 0 0 (fun q => Z.2.2.1 ≤ q) := by
  refine Met.ofW (cc := cX10_begin) (maxL := 9) (ret := (some .int)) (by decide +kernel) rfl ?_
  intro p e s m args below meth c s₁ B hml hv0
  obtain ⟨rfl, hk, hw⟩ := hv0
  have X : CallFix p m c cX10_begin 9 s _ (wq yX10_begin cX10_begin 9 (some .int)) RX10 := ⟨B.exec, B.bytes, hml, findClass_of_methodNamed B.named, atoms_spec (ws := (wq yX10_begin cX10_begin 9 (some .int))) B.pre⟩
  have hr := B.returns
  have hlocks := B.notSynchronized
  have hl : xl Z [] := fun _ h => by cases h
  have hNN : S.2.2.2.2 = S.2.2.2.2 := rfl
  have hv := lv_entry [.ref (et (0)), .int (x1), .int (x2), .int (x3), .int (x4)] (n := 9) (Nat.le_of_ble_eq_true rfl)
  rw [lg_entry_eq]
  generalize (lg_sl [.ref (et (0)), .int (x1), .int (x2), .int (x3), .int (x4)] ++ List.replicate (9 - (lg_sl [.ref (et (0)), .int (x1), .int (x2), .int (x3), .int (x4)]).length) Slot.unset).toArray = ls at hv ⊢
  replace hv : lv_has ls 9 [(0, .ref (et (0))), (1, .int (x1)), (2, .int (x2)), (3, .int (x3)), (4, .int (x4))] := hv
  unfold v_X10_begin at h
  refine lv_aload_n X.1 X.2.1 dX10_begin_0 rfl (lv_at hv 0 rfl) ?_
  refine lv_dup X.1 X.2.1 dX10_begin_1 rfl ?_
  refine xw_get X hk hw (i := 0) 23 xe_0 rfl tlX10 (by decide) rfl tw_542 dX10_begin_2 ?_
  refine lv_iconst (v := 1) X.1 X.2.1 dX10_begin_5 (by decide) ?_
  refine lv_iadd X.1 X.2.1 dX10_begin_6 ?_
  refine xw_put X hk hw hl (i := 0) 23 xe_0 rfl rfl tlX10 tyX10 tyX10_ok nmX10 (by decide) tw_542 rfl rfl (Nat.le_of_ble_eq_true rfl) dX10_begin_7 (fun H locs hw hl => ?_)
  obtain ⟨S_1, e_2⟩ : ∃ T : xs_T, T = sF S 0 23 (((xF S 0 23) + 1)) := ⟨_, rfl⟩
  rw [← e_2] at hw
  replace h := h S_1 e_2
  have hN : S_1.2.2.2.2 = S.2.2.2.2 := by rw [e_2]; rfl
  replace hNN := hN.trans hNN
  refine lv_iload_n X.1 X.2.1 dX10_begin_10 rfl (lv_at hv 1 rfl) ?_
  refine lv_iconst (v := 1) X.1 X.2.1 dX10_begin_11 (by decide) ?_
  refine lv_icmp_ne (tgt := 23) X.1 X.2.1 dX10_begin_12 (by decide) (fun c_3 => ?_) (fun c_3 => ?_)
  · skip
    replace h := h.1 c_3
    refine lv_iload_n X.1 X.2.1 dX10_begin_23 rfl (lv_at hv 1 rfl) ?_
    refine lv_iconst (v := 2) X.1 X.2.1 dX10_begin_24 (by decide) ?_
    refine lv_icmp_eq (tgt := 50) X.1 X.2.1 dX10_begin_25 (by decide) (fun c_4 => ?_) (fun c_4 => ?_)
    · skip
      replace h := h.1 c_4
      refine lv_aload_n X.1 X.2.1 dX10_begin_50 rfl (lv_at hv 0 rfl) ?_
      refine lv_iload_n X.1 X.2.1 dX10_begin_51 rfl (lv_at hv 2 rfl) ?_
      refine xc_i (xr_V (n := 1) (As := [.int (x2)]) (i := 0) X hk hw hv.1 (c_X10_rowOn l Z et S_1 (x2) _ h) (tb_V tw_629 tw_626 tw_628 tw_18 tw_44) xe_0 rfl rfl rfl rfl (by decide +kernel) ⟨Nat.le_of_ble_eq_true rfl, Nat.le_of_ble_eq_true rfl⟩ rfl (Nat.le_of_ble_eq_true rfl) dX10_begin_52 ⟨Nat.le_of_ble_eq_true rfl, Nat.le_of_ble_eq_true rfl⟩) hl (fun r_6 S_5 H locs h hN hw hl => ?_)
      replace hNN := hN.trans hNN
      refine lv_goto (tgt := 59) X.1 X.2.1 dX10_begin_55 (by decide) ?_
      refine lv_istore (lv' := [(5, .int (r_6)), (0, .ref (et (0))), (1, .int (x1)), (2, .int (x2)), (3, .int (x3)), (4, .int (x4))]) X.1 X.2.1 dX10_begin_59 hv (by decide) rfl (fun ls hv => ?_)
      refine lv_iconst (v := 0) X.1 X.2.1 dX10_begin_61 (by decide) ?_
      refine lv_istore (lv' := [(6, .int (0)), (5, .int (r_6)), (0, .ref (et (0))), (1, .int (x1)), (2, .int (x2)), (3, .int (x3)), (4, .int (x4))]) X.1 X.2.1 dX10_begin_62 hv (by decide) rfl (fun ls hv => ?_)
      obtain ⟨n_7, h⟩ := h
      exact j_X10_begin_64 X hk hr hlocks n_7 (x1) (x2) (x3) (x4) (r_6) (0) S_5 _ _ _ h hNN hw hl (lv_sub hv [2, 3, 4, 5, 6, 1, 0] rfl)
    · skip
      replace h := h.2 c_4
      refine lv_iload_n X.1 X.2.1 dX10_begin_28 rfl (lv_at hv 1 rfl) ?_
      refine lv_iconst (v := 3) X.1 X.2.1 dX10_begin_29 (by decide) ?_
      refine lv_icmp_eq (tgt := 50) X.1 X.2.1 dX10_begin_30 (by decide) (fun c_8 => ?_) (fun c_8 => ?_)
      · skip
        replace h := h.1 c_8
        refine lv_aload_n X.1 X.2.1 dX10_begin_50 rfl (lv_at hv 0 rfl) ?_
        refine lv_iload_n X.1 X.2.1 dX10_begin_51 rfl (lv_at hv 2 rfl) ?_
        refine xc_i (xr_V (n := 1) (As := [.int (x2)]) (i := 0) X hk hw hv.1 (c_X10_rowOn l Z et S_1 (x2) _ h) (tb_V tw_629 tw_626 tw_628 tw_18 tw_44) xe_0 rfl rfl rfl rfl (by decide +kernel) ⟨Nat.le_of_ble_eq_true rfl, Nat.le_of_ble_eq_true rfl⟩ rfl (Nat.le_of_ble_eq_true rfl) dX10_begin_52 ⟨Nat.le_of_ble_eq_true rfl, Nat.le_of_ble_eq_true rfl⟩) hl (fun r_10 S_9 H locs h hN hw hl => ?_)
        replace hNN := hN.trans hNN
        refine lv_goto (tgt := 59) X.1 X.2.1 dX10_begin_55 (by decide) ?_
        refine lv_istore (lv' := [(5, .int (r_10)), (0, .ref (et (0))), (1, .int (x1)), (2, .int (x2)), (3, .int (x3)), (4, .int (x4))]) X.1 X.2.1 dX10_begin_59 hv (by decide) rfl (fun ls hv => ?_)
        refine lv_iconst (v := 0) X.1 X.2.1 dX10_begin_61 (by decide) ?_
        refine lv_istore (lv' := [(6, .int (0)), (5, .int (r_10)), (0, .ref (et (0))), (1, .int (x1)), (2, .int (x2)), (3, .int (x3)), (4, .int (x4))]) X.1 X.2.1 dX10_begin_62 hv (by decide) rfl (fun ls hv => ?_)
        obtain ⟨n_11, h⟩ := h
        exact j_X10_begin_64 X hk hr hlocks n_11 (x1) (x2) (x3) (x4) (r_10) (0) S_9 _ _ _ h hNN hw hl (lv_sub hv [2, 3, 4, 5, 6, 1, 0] rfl)
      · skip
        replace h := h.2 c_8
        refine lv_iload_n X.1 X.2.1 dX10_begin_33 rfl (lv_at hv 1 rfl) ?_
        refine lv_iconst (v := 4) X.1 X.2.1 dX10_begin_34 (by decide) ?_
        refine lv_icmp_eq (tgt := 50) X.1 X.2.1 dX10_begin_35 (by decide) (fun c_12 => ?_) (fun c_12 => ?_)
        · skip
          replace h := h.1 c_12
          refine lv_aload_n X.1 X.2.1 dX10_begin_50 rfl (lv_at hv 0 rfl) ?_
          refine lv_iload_n X.1 X.2.1 dX10_begin_51 rfl (lv_at hv 2 rfl) ?_
          refine xc_i (xr_V (n := 1) (As := [.int (x2)]) (i := 0) X hk hw hv.1 (c_X10_rowOn l Z et S_1 (x2) _ h) (tb_V tw_629 tw_626 tw_628 tw_18 tw_44) xe_0 rfl rfl rfl rfl (by decide +kernel) ⟨Nat.le_of_ble_eq_true rfl, Nat.le_of_ble_eq_true rfl⟩ rfl (Nat.le_of_ble_eq_true rfl) dX10_begin_52 ⟨Nat.le_of_ble_eq_true rfl, Nat.le_of_ble_eq_true rfl⟩) hl (fun r_14 S_13 H locs h hN hw hl => ?_)
          replace hNN := hN.trans hNN
          refine lv_goto (tgt := 59) X.1 X.2.1 dX10_begin_55 (by decide) ?_
          refine lv_istore (lv' := [(5, .int (r_14)), (0, .ref (et (0))), (1, .int (x1)), (2, .int (x2)), (3, .int (x3)), (4, .int (x4))]) X.1 X.2.1 dX10_begin_59 hv (by decide) rfl (fun ls hv => ?_)
          refine lv_iconst (v := 0) X.1 X.2.1 dX10_begin_61 (by decide) ?_
          refine lv_istore (lv' := [(6, .int (0)), (5, .int (r_14)), (0, .ref (et (0))), (1, .int (x1)), (2, .int (x2)), (3, .int (x3)), (4, .int (x4))]) X.1 X.2.1 dX10_begin_62 hv (by decide) rfl (fun ls hv => ?_)
          obtain ⟨n_15, h⟩ := h
          exact j_X10_begin_64 X hk hr hlocks n_15 (x1) (x2) (x3) (x4) (r_14) (0) S_13 _ _ _ h hNN hw hl (lv_sub hv [2, 3, 4, 5, 6, 1, 0] rfl)
        · skip
          replace h := h.2 c_12
          refine lv_iload_n X.1 X.2.1 dX10_begin_38 rfl (lv_at hv 1 rfl) ?_
          refine lv_bipush (v := 10) X.1 X.2.1 dX10_begin_39 (by decide) ?_
          refine lv_icmp_eq (tgt := 50) X.1 X.2.1 dX10_begin_41 (by decide) (fun c_16 => ?_) (fun c_16 => ?_)
          · skip
            replace h := h.1 c_16
            refine lv_aload_n X.1 X.2.1 dX10_begin_50 rfl (lv_at hv 0 rfl) ?_
            refine lv_iload_n X.1 X.2.1 dX10_begin_51 rfl (lv_at hv 2 rfl) ?_
            refine xc_i (xr_V (n := 1) (As := [.int (x2)]) (i := 0) X hk hw hv.1 (c_X10_rowOn l Z et S_1 (x2) _ h) (tb_V tw_629 tw_626 tw_628 tw_18 tw_44) xe_0 rfl rfl rfl rfl (by decide +kernel) ⟨Nat.le_of_ble_eq_true rfl, Nat.le_of_ble_eq_true rfl⟩ rfl (Nat.le_of_ble_eq_true rfl) dX10_begin_52 ⟨Nat.le_of_ble_eq_true rfl, Nat.le_of_ble_eq_true rfl⟩) hl (fun r_18 S_17 H locs h hN hw hl => ?_)
            replace hNN := hN.trans hNN
            refine lv_goto (tgt := 59) X.1 X.2.1 dX10_begin_55 (by decide) ?_
            refine lv_istore (lv' := [(5, .int (r_18)), (0, .ref (et (0))), (1, .int (x1)), (2, .int (x2)), (3, .int (x3)), (4, .int (x4))]) X.1 X.2.1 dX10_begin_59 hv (by decide) rfl (fun ls hv => ?_)
            refine lv_iconst (v := 0) X.1 X.2.1 dX10_begin_61 (by decide) ?_
            refine lv_istore (lv' := [(6, .int (0)), (5, .int (r_18)), (0, .ref (et (0))), (1, .int (x1)), (2, .int (x2)), (3, .int (x3)), (4, .int (x4))]) X.1 X.2.1 dX10_begin_62 hv (by decide) rfl (fun ls hv => ?_)
            obtain ⟨n_19, h⟩ := h
            exact j_X10_begin_64 X hk hr hlocks n_19 (x1) (x2) (x3) (x4) (r_18) (0) S_17 _ _ _ h hNN hw hl (lv_sub hv [2, 3, 4, 5, 6, 1, 0] rfl)
          · skip
            replace h := h.2 c_16
            refine lv_iload_n X.1 X.2.1 dX10_begin_44 rfl (lv_at hv 1 rfl) ?_
            refine lv_bipush (v := 11) X.1 X.2.1 dX10_begin_45 (by decide) ?_
            refine lv_icmp_ne (tgt := 58) X.1 X.2.1 dX10_begin_47 (by decide) (fun c_20 => ?_) (fun c_20 => ?_)
            · skip
              replace h := h.1 c_20
              refine lv_iconst (v := (-1)) X.1 X.2.1 dX10_begin_58 (by decide) ?_
              refine lv_istore (lv' := [(5, .int ((-1))), (0, .ref (et (0))), (1, .int (x1)), (2, .int (x2)), (3, .int (x3)), (4, .int (x4))]) X.1 X.2.1 dX10_begin_59 hv (by decide) rfl (fun ls hv => ?_)
              refine lv_iconst (v := 0) X.1 X.2.1 dX10_begin_61 (by decide) ?_
              refine lv_istore (lv' := [(6, .int (0)), (5, .int ((-1))), (0, .ref (et (0))), (1, .int (x1)), (2, .int (x2)), (3, .int (x3)), (4, .int (x4))]) X.1 X.2.1 dX10_begin_62 hv (by decide) rfl (fun ls hv => ?_)
              obtain ⟨n_21, h⟩ := h
              exact j_X10_begin_64 X hk hr hlocks n_21 (x1) (x2) (x3) (x4) ((-1)) (0) S_1 _ _ _ h hNN hw hl (lv_sub hv [2, 3, 4, 5, 6, 1, 0] rfl)
            · skip
              replace h := h.2 c_20
              refine lv_aload_n X.1 X.2.1 dX10_begin_50 rfl (lv_at hv 0 rfl) ?_
              refine lv_iload_n X.1 X.2.1 dX10_begin_51 rfl (lv_at hv 2 rfl) ?_
              refine xc_i (xr_V (n := 1) (As := [.int (x2)]) (i := 0) X hk hw hv.1 (c_X10_rowOn l Z et S_1 (x2) _ h) (tb_V tw_629 tw_626 tw_628 tw_18 tw_44) xe_0 rfl rfl rfl rfl (by decide +kernel) ⟨Nat.le_of_ble_eq_true rfl, Nat.le_of_ble_eq_true rfl⟩ rfl (Nat.le_of_ble_eq_true rfl) dX10_begin_52 ⟨Nat.le_of_ble_eq_true rfl, Nat.le_of_ble_eq_true rfl⟩) hl (fun r_23 S_22 H locs h hN hw hl => ?_)
              replace hNN := hN.trans hNN
              refine lv_goto (tgt := 59) X.1 X.2.1 dX10_begin_55 (by decide) ?_
              refine lv_istore (lv' := [(5, .int (r_23)), (0, .ref (et (0))), (1, .int (x1)), (2, .int (x2)), (3, .int (x3)), (4, .int (x4))]) X.1 X.2.1 dX10_begin_59 hv (by decide) rfl (fun ls hv => ?_)
              refine lv_iconst (v := 0) X.1 X.2.1 dX10_begin_61 (by decide) ?_
              refine lv_istore (lv' := [(6, .int (0)), (5, .int (r_23)), (0, .ref (et (0))), (1, .int (x1)), (2, .int (x2)), (3, .int (x3)), (4, .int (x4))]) X.1 X.2.1 dX10_begin_62 hv (by decide) rfl (fun ls hv => ?_)
              obtain ⟨n_24, h⟩ := h
              exact j_X10_begin_64 X hk hr hlocks n_24 (x1) (x2) (x3) (x4) (r_23) (0) S_22 _ _ _ h hNN hw hl (lv_sub hv [2, 3, 4, 5, 6, 1, 0] rfl)
  · skip
    replace h := h.2 c_3
    refine lv_aload_n X.1 X.2.1 dX10_begin_15 rfl (lv_at hv 0 rfl) ?_
    refine lv_iload_n X.1 X.2.1 dX10_begin_16 rfl (lv_at hv 3 rfl) ?_
    refine xc_i (xr_V (n := 1) (As := [.int (x3)]) (i := 0) X hk hw hv.1 (c_X10_rowOn l Z et S_1 (x3) _ h) (tb_V tw_629 tw_626 tw_628 tw_18 tw_44) xe_0 rfl rfl rfl rfl (by decide +kernel) ⟨Nat.le_of_ble_eq_true rfl, Nat.le_of_ble_eq_true rfl⟩ rfl (Nat.le_of_ble_eq_true rfl) dX10_begin_17 ⟨Nat.le_of_ble_eq_true rfl, Nat.le_of_ble_eq_true rfl⟩) hl (fun r_26 S_25 H locs h hN hw hl => ?_)
    replace hNN := hN.trans hNN
    refine lv_goto (tgt := 59) X.1 X.2.1 dX10_begin_20 (by decide) ?_
    refine lv_istore (lv' := [(5, .int (r_26)), (0, .ref (et (0))), (1, .int (x1)), (2, .int (x2)), (3, .int (x3)), (4, .int (x4))]) X.1 X.2.1 dX10_begin_59 hv (by decide) rfl (fun ls hv => ?_)
    refine lv_iconst (v := 0) X.1 X.2.1 dX10_begin_61 (by decide) ?_
    refine lv_istore (lv' := [(6, .int (0)), (5, .int (r_26)), (0, .ref (et (0))), (1, .int (x1)), (2, .int (x2)), (3, .int (x3)), (4, .int (x4))]) X.1 X.2.1 dX10_begin_62 hv (by decide) rfl (fun ls hv => ?_)
    obtain ⟨n_27, h⟩ := h
    exact j_X10_begin_64 X hk hr hlocks n_27 (x1) (x2) (x3) (x4) (r_26) (0) S_25 _ _ _ h hNN hw hl (lv_sub hv [2, 3, 4, 5, 6, 1, 0] rfl)
def v_X10_act (x1 : Int32) (x2 : Int32) (x3 : Int32) (x4 : Int32) (S : xs_T) (K : Int32 → xs_T → Prop) : Prop := v_X10_in (x1) (0) (12) S (fun (r_2 : Int32) (S_1 : xs_T) => ((r_2 = 0 → K ((-1)) S_1) ∧ (¬ r_2 = 0 → v_X10_isOrder (x1) (x2) (x3) (x4) S_1 (fun (r_5 : Int32) (S_4 : xs_T) => ((¬ r_5 = 0 → ((¬ (xF S_4 0 23) = 4000 → v_X10_begin (x1) (x2) (x3) (x4) S_4 (fun (r_9 : Int32) (S_8 : xs_T) => K (r_9) S_8)) ∧ ((xF S_4 0 23) = 4000 → K (6) S_4))) ∧ (r_5 = 0 → K ((-1)) S_4))))))
set_option maxHeartbeats 4000000 in
set_option maxRecDepth 100000 in
theorem c_X10_act (l : Launch) (Z : xz_T) (et : Nat → Nat) (S : xs_T) (x1 : Int32) (x2 : Int32) (x3 : Int32) (x4 : Int32) (K : Int32 → xs_T → Prop) (h : v_X10_act x1 x2 x3 x4 S K) : Met l yX10_act (wq yX10_act cX10_act 5 (some .int)) { frames := 6, cells := 0, slots := 0, locals := 147 } (xPc Z et S [.ref (et (0)), .int (x1), .int (x2), .int (x3), .int (x4)]) (xQi Z et S.2.2.2.2 K) 0 0 (fun q => Z.2.2.1 ≤ q) := by
  refine Met.ofW (cc := cX10_act) (maxL := 5) (ret := (some .int)) (by decide +kernel) rfl ?_
  intro p e s m args below meth c s₁ B hml hv0
  obtain ⟨rfl, hk, hw⟩ := hv0
  have X : CallFix p m c cX10_act 5 s _ (wq yX10_act cX10_act 5 (some .int)) RX10 := ⟨B.exec, B.bytes, hml, findClass_of_methodNamed B.named, atoms_spec (ws := (wq yX10_act cX10_act 5 (some .int))) B.pre⟩
  have hr := B.returns
  have hlocks := B.notSynchronized
  have hl : xl Z [] := fun _ h => by cases h
  have hNN : S.2.2.2.2 = S.2.2.2.2 := rfl
  have hv := lv_entry [.ref (et (0)), .int (x1), .int (x2), .int (x3), .int (x4)] (n := 5) (Nat.le_of_ble_eq_true rfl)
  rw [lg_entry_eq]
  generalize (lg_sl [.ref (et (0)), .int (x1), .int (x2), .int (x3), .int (x4)] ++ List.replicate (5 - (lg_sl [.ref (et (0)), .int (x1), .int (x2), .int (x3), .int (x4)]).length) Slot.unset).toArray = ls at hv ⊢
  replace hv : lv_has ls 5 [(0, .ref (et (0))), (1, .int (x1)), (2, .int (x2)), (3, .int (x3)), (4, .int (x4))] := hv
  unfold v_X10_act at h
  refine lv_iload_n X.1 X.2.1 dX10_act_0 rfl (lv_at hv 1 rfl) ?_
  refine lv_iconst (v := 0) X.1 X.2.1 dX10_act_1 (by decide) ?_
  refine lv_bipush (v := 12) X.1 X.2.1 dX10_act_2 (by decide) ?_
  refine xc_i (xr_S (n := 3) X hk hw hv.1 (c_X10_in l Z et S (x1) (0) (12) _ h) (tb_S tw_613 tw_611 tw_612 tw_44) rfl rfl (by decide +kernel) ⟨Nat.le_of_ble_eq_true rfl, Nat.le_of_ble_eq_true rfl⟩ rfl (Nat.le_of_ble_eq_true rfl) dX10_act_4 ⟨Nat.le_of_ble_eq_true rfl, Nat.le_of_ble_eq_true rfl⟩) hl (fun r_2 S_1 H locs h hN hw hl => ?_)
  replace hNN := hN.trans hNN
  refine lv_if_eq (tgt := 21) X.1 X.2.1 dX10_act_7 (by decide) (fun c_3 => ?_) (fun c_3 => ?_)
  · skip
    replace h := h.1 c_3
    refine lv_iconst (v := (-1)) X.1 X.2.1 dX10_act_21 (by decide) ?_
    exact xt_i X hr hlocks hNN hw hl h dX10_act_22
  · skip
    replace h := h.2 c_3
    refine lv_iload_n X.1 X.2.1 dX10_act_10 rfl (lv_at hv 1 rfl) ?_
    refine lv_iload_n X.1 X.2.1 dX10_act_11 rfl (lv_at hv 2 rfl) ?_
    refine lv_iload_n X.1 X.2.1 dX10_act_12 rfl (lv_at hv 3 rfl) ?_
    refine lv_iload X.1 X.2.1 dX10_act_13 (lv_at hv 4 rfl) ?_
    refine xc_i (xr_S (n := 4) X hk hw hv.1 (c_X10_isOrder l Z et S_1 (x1) (x2) (x3) (x4) _ h) (tb_S tw_610 tw_608 tw_609 tw_44) rfl rfl (by decide +kernel) ⟨Nat.le_of_ble_eq_true rfl, Nat.le_of_ble_eq_true rfl⟩ rfl (Nat.le_of_ble_eq_true rfl) dX10_act_15 ⟨Nat.le_of_ble_eq_true rfl, Nat.le_of_ble_eq_true rfl⟩) hl (fun r_5 S_4 H locs h hN hw hl => ?_)
    replace hNN := hN.trans hNN
    refine lv_if_ne (tgt := 23) X.1 X.2.1 dX10_act_18 (by decide) (fun c_6 => ?_) (fun c_6 => ?_)
    · skip
      replace h := h.1 c_6
      refine lv_aload_n X.1 X.2.1 dX10_act_23 rfl (lv_at hv 0 rfl) ?_
      refine xw_get X hk hw (i := 0) 23 xe_0 rfl tlX10 (by decide) rfl tw_542 dX10_act_24 ?_
      refine lv_sipush (v := 4000) X.1 X.2.1 dX10_act_27 (by decide) ?_
      refine lv_icmp_ne (tgt := 38) X.1 X.2.1 dX10_act_30 (by decide) (fun c_7 => ?_) (fun c_7 => ?_)
      · skip
        replace h := h.1 c_7
        refine lv_aload_n X.1 X.2.1 dX10_act_38 rfl (lv_at hv 0 rfl) ?_
        refine lv_iload_n X.1 X.2.1 dX10_act_39 rfl (lv_at hv 1 rfl) ?_
        refine lv_iload_n X.1 X.2.1 dX10_act_40 rfl (lv_at hv 2 rfl) ?_
        refine lv_iload_n X.1 X.2.1 dX10_act_41 rfl (lv_at hv 3 rfl) ?_
        refine lv_iload X.1 X.2.1 dX10_act_42 (lv_at hv 4 rfl) ?_
        refine xc_i (xr_V (n := 4) (As := [.int (x1), .int (x2), .int (x3), .int (x4)]) (i := 0) X hk hw hv.1 (c_X10_begin l Z et S_4 (x1) (x2) (x3) (x4) _ h) (tb_V tw_625 tw_622 tw_624 tw_17 tw_44) xe_0 rfl rfl rfl rfl (by decide +kernel) ⟨Nat.le_of_ble_eq_true rfl, Nat.le_of_ble_eq_true rfl⟩ rfl (Nat.le_of_ble_eq_true rfl) dX10_act_44 ⟨Nat.le_of_ble_eq_true rfl, Nat.le_of_ble_eq_true rfl⟩) hl (fun r_9 S_8 H locs h hN hw hl => ?_)
        replace hNN := hN.trans hNN
        exact xt_i X hr hlocks hNN hw hl h dX10_act_47
      · skip
        replace h := h.2 c_7
        refine lv_bipush (v := 6) X.1 X.2.1 dX10_act_33 (by decide) ?_
        refine lv_goto (tgt := 47) X.1 X.2.1 dX10_act_35 (by decide) ?_
        exact xt_i X hr hlocks hNN hw hl h dX10_act_47
    · skip
      replace h := h.2 c_6
      refine lv_iconst (v := (-1)) X.1 X.2.1 dX10_act_21 (by decide) ?_
      exact xt_i X hr hlocks hNN hw hl h dX10_act_22
def v_X10_again (x1 : Int32) (S : xs_T) (K : Int32 → xs_T → Prop) : Prop := ∃ j_1 : Nat, x1 = nI j_1 ∧ j_1 < 60 ∧ ∃ j_4 : Nat, x1 = nI j_4 ∧ j_4 < 60 ∧ (((xI S 16 j_4) ≤ (xI S 17 j_1) → ∃ j_8 : Nat, x1 = nI j_8 ∧ j_8 < 60 ∧ ∀ S_11 : xs_T, S_11 = sI S 17 j_8 (0) → K ((x1 + 1)) S_11) ∧ (¬ (xI S 16 j_4) ≤ (xI S 17 j_1) → ∃ j_13 : Nat, x1 = nI j_13 ∧ j_13 < 60 ∧ ∃ j_16 : Nat, x1 = nI j_16 ∧ j_16 < 60 ∧ ∀ S_19 : xs_T, S_19 = sI S 17 j_16 (((xI S 17 j_13) + 1)) → ∃ j_21 : Nat, x1 = nI j_21 ∧ j_21 < 60 ∧ (((xI S_19 15 j_21) ≤ x1 → ∃ j_25 : Nat, x1 = nI j_25 ∧ j_25 < 60 ∧ K ((x1 - (xI S_19 15 j_25))) S_19) ∧ (¬ (xI S_19 15 j_21) ≤ x1 → K (0) S_19))))
set_option maxHeartbeats 4000000 in
set_option maxRecDepth 100000 in
theorem c_X10_again (l : Launch) (Z : xz_T) (et : Nat → Nat) (S : xs_T) (x1 : Int32) (K : Int32 → xs_T → Prop) (h : v_X10_again x1 S K) : Met l yX10_again (wq yX10_again cX10_again 2 (some .int)) { frames := 0, cells := 0, slots := 0, locals := 0 } (xPc Z et S [.ref (et (0)), .int (x1)]) (xQi Z et S.2.2.2.2 K) 0 0 (fun q => Z.2.2.1 ≤ q) := by
  refine Met.ofW (cc := cX10_again) (maxL := 2) (ret := (some .int)) (by decide +kernel) rfl ?_
  intro p e s m args below meth c s₁ B hml hv0
  obtain ⟨rfl, hk, hw⟩ := hv0
  have X : CallFix p m c cX10_again 2 s _ (wq yX10_again cX10_again 2 (some .int)) RX10 := ⟨B.exec, B.bytes, hml, findClass_of_methodNamed B.named, atoms_spec (ws := (wq yX10_again cX10_again 2 (some .int))) B.pre⟩
  have hr := B.returns
  have hlocks := B.notSynchronized
  have hl : xl Z [] := fun _ h => by cases h
  have hNN : S.2.2.2.2 = S.2.2.2.2 := rfl
  have hv := lv_entry [.ref (et (0)), .int (x1)] (n := 2) (Nat.le_of_ble_eq_true rfl)
  rw [lg_entry_eq]
  generalize (lg_sl [.ref (et (0)), .int (x1)] ++ List.replicate (2 - (lg_sl [.ref (et (0)), .int (x1)]).length) Slot.unset).toArray = ls at hv ⊢
  replace hv : lv_has ls 2 [(0, .ref (et (0))), (1, .int (x1))] := hv
  unfold v_X10_again at h
  refine lv_aload_n X.1 X.2.1 dX10_again_0 rfl (lv_at hv 0 rfl) ?_
  refine xw_get X hk hw (i := 0) 17 xe_0 rfl tlX10 (by decide) rfl tw_536 dX10_again_1 ?_
  refine lv_iload_n X.1 X.2.1 dX10_again_4 rfl (lv_at hv 1 rfl) ?_
  obtain ⟨j_1, e_2, b_3, h⟩ := h
  refine xw_ild X hk hw xe_17 e_2 b_3 (by decide) dX10_again_5 ?_
  refine lv_aload_n X.1 X.2.1 dX10_again_6 rfl (lv_at hv 0 rfl) ?_
  refine xw_get X hk hw (i := 0) 16 xe_0 rfl tlX10 (by decide) rfl tw_535 dX10_again_7 ?_
  refine lv_iload_n X.1 X.2.1 dX10_again_10 rfl (lv_at hv 1 rfl) ?_
  obtain ⟨j_4, e_5, b_6, h⟩ := h
  refine xw_ild X hk hw xe_16 e_5 b_6 (by decide) dX10_again_11 ?_
  refine lv_icmp_ge (tgt := 48) X.1 X.2.1 dX10_again_12 (by decide) (fun c_7 => ?_) (fun c_7 => ?_)
  · skip
    replace h := h.1 c_7
    refine lv_aload_n X.1 X.2.1 dX10_again_48 rfl (lv_at hv 0 rfl) ?_
    refine xw_get X hk hw (i := 0) 17 xe_0 rfl tlX10 (by decide) rfl tw_536 dX10_again_49 ?_
    refine lv_iload_n X.1 X.2.1 dX10_again_52 rfl (lv_at hv 1 rfl) ?_
    refine lv_iconst (v := 0) X.1 X.2.1 dX10_again_53 (by decide) ?_
    obtain ⟨j_8, e_9, b_10, h⟩ := h
    refine xw_ist X hk hw hl xe_17 rfl e_9 b_10 (by decide) dX10_again_54 (fun H locs hw hl => ?_)
    obtain ⟨S_11, e_12⟩ : ∃ T : xs_T, T = sI S 17 j_8 (0) := ⟨_, rfl⟩
    rw [← e_12] at hw
    replace h := h S_11 e_12
    have hN : S_11.2.2.2.2 = S.2.2.2.2 := by rw [e_12]; rfl
    replace hNN := hN.trans hNN
    refine lv_iload_n X.1 X.2.1 dX10_again_55 rfl (lv_at hv 1 rfl) ?_
    refine lv_iconst (v := 1) X.1 X.2.1 dX10_again_56 (by decide) ?_
    refine lv_iadd X.1 X.2.1 dX10_again_57 ?_
    exact xt_i X hr hlocks hNN hw hl h dX10_again_58
  · skip
    replace h := h.2 c_7
    refine lv_aload_n X.1 X.2.1 dX10_again_15 rfl (lv_at hv 0 rfl) ?_
    refine xw_get X hk hw (i := 0) 17 xe_0 rfl tlX10 (by decide) rfl tw_536 dX10_again_16 ?_
    refine lv_iload_n X.1 X.2.1 dX10_again_19 rfl (lv_at hv 1 rfl) ?_
    refine lv_dup2_11 X.1 X.2.1 dX10_again_20 rfl rfl ?_
    obtain ⟨j_13, e_14, b_15, h⟩ := h
    refine xw_ild X hk hw xe_17 e_14 b_15 (by decide) dX10_again_21 ?_
    refine lv_iconst (v := 1) X.1 X.2.1 dX10_again_22 (by decide) ?_
    refine lv_iadd X.1 X.2.1 dX10_again_23 ?_
    obtain ⟨j_16, e_17, b_18, h⟩ := h
    refine xw_ist X hk hw hl xe_17 rfl e_17 b_18 (by decide) dX10_again_24 (fun H locs hw hl => ?_)
    obtain ⟨S_19, e_20⟩ : ∃ T : xs_T, T = sI S 17 j_16 (((xI S 17 j_13) + 1)) := ⟨_, rfl⟩
    rw [← e_20] at hw
    replace h := h S_19 e_20
    have hN : S_19.2.2.2.2 = S.2.2.2.2 := by rw [e_20]; rfl
    replace hNN := hN.trans hNN
    refine lv_iload_n X.1 X.2.1 dX10_again_25 rfl (lv_at hv 1 rfl) ?_
    refine lv_aload_n X.1 X.2.1 dX10_again_26 rfl (lv_at hv 0 rfl) ?_
    refine xw_get X hk hw (i := 0) 15 xe_0 rfl tlX10 (by decide) rfl tw_534 dX10_again_27 ?_
    refine lv_iload_n X.1 X.2.1 dX10_again_30 rfl (lv_at hv 1 rfl) ?_
    obtain ⟨j_21, e_22, b_23, h⟩ := h
    refine xw_ild X hk hw xe_15 e_22 b_23 (by decide) dX10_again_31 ?_
    refine lv_icmp_ge (tgt := 39) X.1 X.2.1 dX10_again_32 (by decide) (fun c_24 => ?_) (fun c_24 => ?_)
    · skip
      replace h := h.1 c_24
      refine lv_iload_n X.1 X.2.1 dX10_again_39 rfl (lv_at hv 1 rfl) ?_
      refine lv_aload_n X.1 X.2.1 dX10_again_40 rfl (lv_at hv 0 rfl) ?_
      refine xw_get X hk hw (i := 0) 15 xe_0 rfl tlX10 (by decide) rfl tw_534 dX10_again_41 ?_
      refine lv_iload_n X.1 X.2.1 dX10_again_44 rfl (lv_at hv 1 rfl) ?_
      obtain ⟨j_25, e_26, b_27, h⟩ := h
      refine xw_ild X hk hw xe_15 e_26 b_27 (by decide) dX10_again_45 ?_
      refine lv_isub X.1 X.2.1 dX10_again_46 ?_
      exact xt_i X hr hlocks hNN hw hl h dX10_again_47
    · skip
      replace h := h.2 c_24
      refine lv_iconst (v := 0) X.1 X.2.1 dX10_again_35 (by decide) ?_
      refine lv_goto (tgt := 47) X.1 X.2.1 dX10_again_36 (by decide) ?_
      exact xt_i X hr hlocks hNN hw hl h dX10_again_47
def v_X10_behind_56 (K : Int32 → xs_T → Prop) (a3 : Int32) (S : xs_T) : Prop := (((xF S 0 12) ≤ a3 → K ((-1)) S) ∧ (¬ (xF S 0 12) ≤ a3 → ∃ j_19 : Nat, a3 = nI j_19 ∧ j_19 < 60 ∧ ((¬ (xI S 13 j_19) = 13 → K ((-1)) S) ∧ ((xI S 13 j_19) = 13 → K ((a3 + 1)) S))))
def v_X10_behind_4 (K : Int32 → xs_T → Prop) : Nat → Int32 → Int32 → xs_T → Prop
  | 0, _, _, _ => False
  | n + 1, a2, a3, S => (((xF S 0 12) ≤ a3 → v_X10_behind_56 K (a3) S) ∧ (¬ (xF S 0 12) ≤ a3 → ∃ j_3 : Nat, a3 = nI j_3 ∧ j_3 < 60 ∧ ((¬ (xI S 13 j_3) = 13 → v_X10_behind_56 K (a3) S) ∧ ((xI S 13 j_3) = 13 → ∃ j_7 : Nat, a3 = nI j_7 ∧ j_7 < 60 ∧ (((xI S 14 j_7) = 0 → v_X10_behind_56 K (a3) S) ∧ (¬ (xI S 14 j_7) = 0 → ∃ j_11 : Nat, a3 = nI j_11 ∧ j_11 < 60 ∧ (((xI S 14 j_11) = a2 → v_X10_behind_56 K (a3) S) ∧ (¬ (xI S 14 j_11) = a2 → ∃ j_15 : Nat, a3 = nI j_15 ∧ j_15 < 60 ∧ v_X10_behind_4 K n (a2) (((a3 + (xI S 16 j_15)) + 1)) S))))))))
def v_X10_behind (x1 : Int32) (x2 : Int32) (S : xs_T) (K : Int32 → xs_T → Prop) : Prop := ∃ n, v_X10_behind_4 K n (x2) ((x1 + 1)) S
set_option maxHeartbeats 4000000 in
set_option maxRecDepth 100000 in
theorem j_X10_behind_56 {l : Launch} {p : Program} {e : Env} {s : State} {m : MethodId} {args : Array Value} {below : List Frame} {meth : Method} {c : Code} {Z : xz_T} {et : Nat → Nat} {Nn : Nat → Nat} {K : Int32 → xs_T → Prop} (X : CallFix p m c cX10_behind 4 s args (wq yX10_behind cX10_behind 4 (some .int)) RX10) (hk : xk Z s) (hr : meth.sig.returnType = (some .int)) (hlocks : meth.locks = false) : ∀ (a3 : Int32) (S : xs_T) (H : Heap) (locs : List Loc) (ls : Array Slot), v_X10_behind_56 K a3 S → S.2.2.2.2 = Nn → wd Z et S H → xl Z locs → lv_has ls 4 [(0, .ref (et (0))), (3, .int (a3))] → W p l e (headSpec (wq yX10_behind cX10_behind 4 (some .int)) { frames := 0, cells := 0, slots := 0, locals := 0 }).room s m args below meth c H locs 0 0 (MQ below (xQi Z et Nn K) args s 0 0 (fun q => Z.2.2.1 ≤ q)) (F0 m 56 ls []) := by
  intro a3 S H locs ls h hNN hw hl hv
  unfold v_X10_behind_56 at h
  refine lv_iload_n X.1 X.2.1 dX10_behind_56 rfl (lv_at hv 1 rfl) ?_
  refine lv_aload_n X.1 X.2.1 dX10_behind_57 rfl (lv_at hv 0 rfl) ?_
  refine xw_get X hk hw (i := 0) 12 xe_0 rfl tlX10 (by decide) rfl tw_531 dX10_behind_58 ?_
  refine lv_icmp_ge (tgt := 81) X.1 X.2.1 dX10_behind_61 (by decide) (fun c_18 => ?_) (fun c_18 => ?_)
  · skip
    replace h := h.1 c_18
    refine lv_iconst (v := (-1)) X.1 X.2.1 dX10_behind_81 (by decide) ?_
    exact xt_i X hr hlocks hNN hw hl h dX10_behind_82
  · skip
    replace h := h.2 c_18
    refine lv_aload_n X.1 X.2.1 dX10_behind_64 rfl (lv_at hv 0 rfl) ?_
    refine xw_get X hk hw (i := 0) 13 xe_0 rfl tlX10 (by decide) rfl tw_532 dX10_behind_65 ?_
    refine lv_iload_n X.1 X.2.1 dX10_behind_68 rfl (lv_at hv 1 rfl) ?_
    obtain ⟨j_19, e_20, b_21, h⟩ := h
    refine xw_ild X hk hw xe_13 e_20 b_21 (by decide) dX10_behind_69 ?_
    refine lv_bipush (v := 13) X.1 X.2.1 dX10_behind_70 (by decide) ?_
    refine lv_icmp_ne (tgt := 81) X.1 X.2.1 dX10_behind_72 (by decide) (fun c_22 => ?_) (fun c_22 => ?_)
    · skip
      replace h := h.1 c_22
      refine lv_iconst (v := (-1)) X.1 X.2.1 dX10_behind_81 (by decide) ?_
      exact xt_i X hr hlocks hNN hw hl h dX10_behind_82
    · skip
      replace h := h.2 c_22
      refine lv_iload_n X.1 X.2.1 dX10_behind_75 rfl (lv_at hv 1 rfl) ?_
      refine lv_iconst (v := 1) X.1 X.2.1 dX10_behind_76 (by decide) ?_
      refine lv_iadd X.1 X.2.1 dX10_behind_77 ?_
      refine lv_goto (tgt := 82) X.1 X.2.1 dX10_behind_78 (by decide) ?_
      exact xt_i X hr hlocks hNN hw hl h dX10_behind_82
set_option maxHeartbeats 4000000 in
set_option maxRecDepth 100000 in
theorem j_X10_behind_4 {l : Launch} {p : Program} {e : Env} {s : State} {m : MethodId} {args : Array Value} {below : List Frame} {meth : Method} {c : Code} {Z : xz_T} {et : Nat → Nat} {Nn : Nat → Nat} {K : Int32 → xs_T → Prop} (X : CallFix p m c cX10_behind 4 s args (wq yX10_behind cX10_behind 4 (some .int)) RX10) (hk : xk Z s) (hr : meth.sig.returnType = (some .int)) (hlocks : meth.locks = false) : ∀ (n : Nat) (a2 : Int32) (a3 : Int32) (S : xs_T) (H : Heap) (locs : List Loc) (ls : Array Slot), v_X10_behind_4 K n a2 a3 S → S.2.2.2.2 = Nn → wd Z et S H → xl Z locs → lv_has ls 4 [(0, .ref (et (0))), (2, .int (a2)), (3, .int (a3))] → W p l e (headSpec (wq yX10_behind cX10_behind 4 (some .int)) { frames := 0, cells := 0, slots := 0, locals := 0 }).room s m args below meth c H locs 0 0 (MQ below (xQi Z et Nn K) args s 0 0 (fun q => Z.2.2.1 ≤ q)) (F0 m 4 ls []) := by
  intro n
  induction n with
  | zero =>
    intro a2 a3 S H locs ls h hNN hw hl hv
    exact False.elim h
  | succ n ih =>
    intro a2 a3 S H locs ls h hNN hw hl hv
    rw [v_X10_behind_4] at h
    refine lv_iload_n X.1 X.2.1 dX10_behind_4 rfl (lv_at hv 2 rfl) ?_
    refine lv_aload_n X.1 X.2.1 dX10_behind_5 rfl (lv_at hv 0 rfl) ?_
    refine xw_get X hk hw (i := 0) 12 xe_0 rfl tlX10 (by decide) rfl tw_531 dX10_behind_6 ?_
    refine lv_icmp_ge (tgt := 56) X.1 X.2.1 dX10_behind_9 (by decide) (fun c_2 => ?_) (fun c_2 => ?_)
    · skip
      replace h := h.1 c_2
      exact j_X10_behind_56 X hk hr hlocks (a3) S _ _ _ h hNN hw hl (lv_sub hv [0, 2] rfl)
    · skip
      replace h := h.2 c_2
      refine lv_aload_n X.1 X.2.1 dX10_behind_12 rfl (lv_at hv 0 rfl) ?_
      refine xw_get X hk hw (i := 0) 13 xe_0 rfl tlX10 (by decide) rfl tw_532 dX10_behind_13 ?_
      refine lv_iload_n X.1 X.2.1 dX10_behind_16 rfl (lv_at hv 2 rfl) ?_
      obtain ⟨j_3, e_4, b_5, h⟩ := h
      refine xw_ild X hk hw xe_13 e_4 b_5 (by decide) dX10_behind_17 ?_
      refine lv_bipush (v := 13) X.1 X.2.1 dX10_behind_18 (by decide) ?_
      refine lv_icmp_ne (tgt := 56) X.1 X.2.1 dX10_behind_20 (by decide) (fun c_6 => ?_) (fun c_6 => ?_)
      · skip
        replace h := h.1 c_6
        exact j_X10_behind_56 X hk hr hlocks (a3) S _ _ _ h hNN hw hl (lv_sub hv [0, 2] rfl)
      · skip
        replace h := h.2 c_6
        refine lv_aload_n X.1 X.2.1 dX10_behind_23 rfl (lv_at hv 0 rfl) ?_
        refine xw_get X hk hw (i := 0) 14 xe_0 rfl tlX10 (by decide) rfl tw_533 dX10_behind_24 ?_
        refine lv_iload_n X.1 X.2.1 dX10_behind_27 rfl (lv_at hv 2 rfl) ?_
        obtain ⟨j_7, e_8, b_9, h⟩ := h
        refine xw_ild X hk hw xe_14 e_8 b_9 (by decide) dX10_behind_28 ?_
        refine lv_if_eq (tgt := 56) X.1 X.2.1 dX10_behind_29 (by decide) (fun c_10 => ?_) (fun c_10 => ?_)
        · skip
          replace h := h.1 c_10
          exact j_X10_behind_56 X hk hr hlocks (a3) S _ _ _ h hNN hw hl (lv_sub hv [0, 2] rfl)
        · skip
          replace h := h.2 c_10
          refine lv_aload_n X.1 X.2.1 dX10_behind_32 rfl (lv_at hv 0 rfl) ?_
          refine xw_get X hk hw (i := 0) 14 xe_0 rfl tlX10 (by decide) rfl tw_533 dX10_behind_33 ?_
          refine lv_iload_n X.1 X.2.1 dX10_behind_36 rfl (lv_at hv 2 rfl) ?_
          obtain ⟨j_11, e_12, b_13, h⟩ := h
          refine xw_ild X hk hw xe_14 e_12 b_13 (by decide) dX10_behind_37 ?_
          refine lv_iload_n X.1 X.2.1 dX10_behind_38 rfl (lv_at hv 1 rfl) ?_
          refine lv_icmp_eq (tgt := 56) X.1 X.2.1 dX10_behind_39 (by decide) (fun c_14 => ?_) (fun c_14 => ?_)
          · skip
            replace h := h.1 c_14
            exact j_X10_behind_56 X hk hr hlocks (a3) S _ _ _ h hNN hw hl (lv_sub hv [0, 2] rfl)
          · skip
            replace h := h.2 c_14
            refine lv_iload_n X.1 X.2.1 dX10_behind_42 rfl (lv_at hv 2 rfl) ?_
            refine lv_aload_n X.1 X.2.1 dX10_behind_43 rfl (lv_at hv 0 rfl) ?_
            refine xw_get X hk hw (i := 0) 16 xe_0 rfl tlX10 (by decide) rfl tw_535 dX10_behind_44 ?_
            refine lv_iload_n X.1 X.2.1 dX10_behind_47 rfl (lv_at hv 2 rfl) ?_
            obtain ⟨j_15, e_16, b_17, h⟩ := h
            refine xw_ild X hk hw xe_16 e_16 b_17 (by decide) dX10_behind_48 ?_
            refine lv_iadd X.1 X.2.1 dX10_behind_49 ?_
            refine lv_iconst (v := 1) X.1 X.2.1 dX10_behind_50 (by decide) ?_
            refine lv_iadd X.1 X.2.1 dX10_behind_51 ?_
            refine lv_istore_n (lv' := [(3, .int (((a3 + (xI S 16 j_15)) + 1))), (0, .ref (et (0))), (2, .int (a2))]) X.1 X.2.1 dX10_behind_52 rfl hv (by decide) rfl (fun ls hv => ?_)
            refine lv_goto (tgt := 4) X.1 X.2.1 dX10_behind_53 (by decide) ?_
            exact ih (a2) (((a3 + (xI S 16 j_15)) + 1)) S _ _ _ h hNN hw hl (lv_sub hv [1, 2, 0] rfl)
set_option maxHeartbeats 4000000 in
set_option maxRecDepth 100000 in
theorem c_X10_behind (l : Launch) (Z : xz_T) (et : Nat → Nat) (S : xs_T) (x1 : Int32) (x2 : Int32) (K : Int32 → xs_T → Prop) (h : v_X10_behind x1 x2 S K) : Met l yX10_behind (wq yX10_behind cX10_behind 4 (some .int)) { frames := 0, cells := 0, slots := 0, locals := 0 } (xPc Z et S [.ref (et (0)), .int (x1), .int (x2)]) (xQi Z et S.2.2.2.2 K) 0 0 (fun q => Z.2.2.1 ≤ q) := by
  refine Met.ofW (cc := cX10_behind) (maxL := 4) (ret := (some .int)) (by decide +kernel) rfl ?_
  intro p e s m args below meth c s₁ B hml hv0
  obtain ⟨rfl, hk, hw⟩ := hv0
  have X : CallFix p m c cX10_behind 4 s _ (wq yX10_behind cX10_behind 4 (some .int)) RX10 := ⟨B.exec, B.bytes, hml, findClass_of_methodNamed B.named, atoms_spec (ws := (wq yX10_behind cX10_behind 4 (some .int))) B.pre⟩
  have hr := B.returns
  have hlocks := B.notSynchronized
  have hl : xl Z [] := fun _ h => by cases h
  have hNN : S.2.2.2.2 = S.2.2.2.2 := rfl
  have hv := lv_entry [.ref (et (0)), .int (x1), .int (x2)] (n := 4) (Nat.le_of_ble_eq_true rfl)
  rw [lg_entry_eq]
  generalize (lg_sl [.ref (et (0)), .int (x1), .int (x2)] ++ List.replicate (4 - (lg_sl [.ref (et (0)), .int (x1), .int (x2)]).length) Slot.unset).toArray = ls at hv ⊢
  replace hv : lv_has ls 4 [(0, .ref (et (0))), (1, .int (x1)), (2, .int (x2))] := hv
  unfold v_X10_behind at h
  refine lv_iload_n X.1 X.2.1 dX10_behind_0 rfl (lv_at hv 1 rfl) ?_
  refine lv_iconst (v := 1) X.1 X.2.1 dX10_behind_1 (by decide) ?_
  refine lv_iadd X.1 X.2.1 dX10_behind_2 ?_
  refine lv_istore_n (lv' := [(3, .int ((x1 + 1))), (0, .ref (et (0))), (1, .int (x1)), (2, .int (x2))]) X.1 X.2.1 dX10_behind_3 rfl hv (by decide) rfl (fun ls hv => ?_)
  obtain ⟨n_1, h⟩ := h
  exact j_X10_behind_4 X hk hr hlocks n_1 (x2) ((x1 + 1)) S _ _ _ h hNN hw hl (lv_sub hv [1, 3, 0] rfl)
