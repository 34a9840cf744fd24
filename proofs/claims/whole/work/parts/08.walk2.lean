def v_X10_seat_97 (K : Int32 → xs_T → Prop) (a1 : Int32) (a3 : Int32) (t0 : Int32) (S : xs_T) : Prop := ∃ j_36 : Nat, a3 = nI j_36 ∧ j_36 < 120 ∧ v_X10_canHave ((xI S 1 j_36)) (t0) S (fun (r_40 : Int32) (S_39 : xs_T) => ((¬ r_40 = 0 → ∃ j_42 : Nat, a3 = nI j_42 ∧ j_42 < 120 ∧ ∃ j_45 : Nat, a1 = nI j_45 ∧ j_45 < 10 ∧ ∃ j_48 : Nat, ((xI S_39 3 j_42) + (xI S_39 11 j_45)) = nI j_48 ∧ j_48 < 3000 ∧ ∀ S_51 : xs_T, S_51 = sL S_39 5 j_48 ((t0).toInt64) → K (0) S_51) ∧ (r_40 = 0 → K (2) S_39)))
def v_X10_seat (x1 : Int32) (x2 : Int32) (S : xs_T) (K : Int32 → xs_T → Prop) : Prop := ∃ j_1 : Nat, x1 = nI j_1 ∧ j_1 < 10 ∧ ((¬ (xI S 9 j_1) = 0 → v_X10_rowOn (x1) S (fun (r_6 : Int32) (S_5 : xs_T) => ((r_6 < 0 → K (2) S_5) ∧ (¬ r_6 < 0 → ∃ j_8 : Nat, r_6 = nI j_8 ∧ j_8 < 120 ∧ (((xI S_5 1 j_8) < 8 → K (2) S_5) ∧ (¬ (xI S_5 1 j_8) < 8 → ∃ j_12 : Nat, x2 = nI j_12 ∧ j_12 < 10 ∧ (((xI S_5 9 j_12) = 1 → K (2) S_5) ∧ (¬ (xI S_5 9 j_12) = 1 → ∃ j_16 : Nat, x2 = nI j_16 ∧ j_16 < 10 ∧ ((¬ (xI S_5 9 j_16) = 2 → ∃ j_20 : Nat, x1 = nI j_20 ∧ j_20 < 10 ∧ ∃ j_23 : Nat, r_6 = nI j_23 ∧ j_23 < 120 ∧ v_X10_in ((xI S_5 11 j_20)) (0) (((xI S_5 2 j_23) - 1)) S_5 (fun (r_27 : Int32) (S_26 : xs_T) => ((¬ r_27 = 0 → ∃ j_29 : Nat, x2 = nI j_29 ∧ j_29 < 10 ∧ ((¬ (xI S_26 9 j_29) = 3 → v_X10_seat_97 K (x1) (r_6) (0) S_26) ∧ ((xI S_26 9 j_29) = 3 → ∃ j_33 : Nat, x2 = nI j_33 ∧ j_33 < 10 ∧ v_X10_seat_97 K (x1) (r_6) ((xI S_26 10 j_33)) S_26))) ∧ (r_27 = 0 → K (3) S_26)))) ∧ ((xI S_5 9 j_16) = 2 → K (2) S_5)))))))))) ∧ ((xI S 9 j_1) = 0 → K (1) S))
set_option maxHeartbeats 4000000 in
set_option maxRecDepth 100000 in
theorem j_X10_seat_97 {l : Launch} {p : Program} {e : Env} {s : State} {m : MethodId} {args : Array Value} {below : List Frame} {meth : Method} {c : Code} {Z : xz_T} {et : Nat → Nat} {Nn : Nat → Nat} {K : Int32 → xs_T → Prop} (X : CallFix p m c cX10_seat 5 s args (wq yX10_seat cX10_seat 5 (some .int)) RX10) (hk : xk Z s) (hr : meth.sig.returnType = (some .int)) (hlocks : meth.locks = false) : ∀ (a1 : Int32) (a3 : Int32) (t0 : Int32) (S : xs_T) (H : Heap) (locs : List Loc) (ls : Array Slot), v_X10_seat_97 K a1 a3 t0 S → S.2.2.2.2 = Nn → wd Z et S H → xl Z locs → lv_has ls 5 [(0, .ref (et (0))), (1, .int (a1)), (3, .int (a3))] → W p l e (headSpec (wq yX10_seat cX10_seat 5 (some .int)) { frames := 1, cells := 0, slots := 0, locals := 23 }).room s m args below meth c H locs 0 0 (MQ below (xQi Z et Nn K) args s 0 0 (fun q => Z.2.2.1 ≤ q)) (F0 m 97 ls [.int (t0)]) := by
  intro a1 a3 t0 S H locs ls h hNN hw hl hv
  unfold v_X10_seat_97 at h
  refine lv_istore (lv' := [(4, .int (t0)), (0, .ref (et (0))), (1, .int (a1)), (3, .int (a3))]) X.1 X.2.1 dX10_seat_97 hv (by decide) rfl (fun ls hv => ?_)
  refine lv_aload_n X.1 X.2.1 dX10_seat_99 rfl (lv_at hv 1 rfl) ?_
  refine lv_aload_n X.1 X.2.1 dX10_seat_100 rfl (lv_at hv 1 rfl) ?_
  refine xw_get X hk hw (i := 0) 1 xe_0 rfl tlX10 (by decide) rfl tw_520 dX10_seat_101 ?_
  refine lv_iload_n X.1 X.2.1 dX10_seat_104 rfl (lv_at hv 3 rfl) ?_
  obtain ⟨j_36, e_37, b_38, h⟩ := h
  refine xw_ild X hk hw xe_1 e_37 b_38 (by decide) dX10_seat_105 ?_
  refine lv_iload X.1 X.2.1 dX10_seat_106 (lv_at hv 0 rfl) ?_
  refine xc_i (xr_V (n := 2) (As := [.int ((xI S 1 j_36)), .int (t0)]) (i := 0) X hk hw hv.1 (c_X10_canHave l Z et S ((xI S 1 j_36)) (t0) _ h) (tb_V tw_641 tw_638 tw_640 tw_21 tw_44) xe_0 rfl rfl rfl rfl (by decide +kernel) ⟨Nat.le_of_ble_eq_true rfl, Nat.le_of_ble_eq_true rfl⟩ rfl (Nat.le_of_ble_eq_true rfl) dX10_seat_108 ⟨Nat.le_of_ble_eq_true rfl, Nat.le_of_ble_eq_true rfl⟩) hl (fun r_40 S_39 H locs h hN hw hl => ?_)
  replace hNN := hN.trans hNN
  refine lv_if_ne (tgt := 116) X.1 X.2.1 dX10_seat_111 (by decide) (fun c_41 => ?_) (fun c_41 => ?_)
  · skip
    replace h := h.1 c_41
    refine lv_aload_n X.1 X.2.1 dX10_seat_116 rfl (lv_at hv 1 rfl) ?_
    refine xw_get X hk hw (i := 0) 5 xe_0 rfl tlX10 (by decide) rfl tw_524 dX10_seat_117 ?_
    refine lv_aload_n X.1 X.2.1 dX10_seat_120 rfl (lv_at hv 1 rfl) ?_
    refine xw_get X hk hw (i := 0) 3 xe_0 rfl tlX10 (by decide) rfl tw_522 dX10_seat_121 ?_
    refine lv_iload_n X.1 X.2.1 dX10_seat_124 rfl (lv_at hv 3 rfl) ?_
    obtain ⟨j_42, e_43, b_44, h⟩ := h
    refine xw_ild X hk hw xe_3 e_43 b_44 (by decide) dX10_seat_125 ?_
    refine lv_aload_n X.1 X.2.1 dX10_seat_126 rfl (lv_at hv 1 rfl) ?_
    refine xw_get X hk hw (i := 0) 11 xe_0 rfl tlX10 (by decide) rfl tw_530 dX10_seat_127 ?_
    refine lv_iload_n X.1 X.2.1 dX10_seat_130 rfl (lv_at hv 2 rfl) ?_
    obtain ⟨j_45, e_46, b_47, h⟩ := h
    refine xw_ild X hk hw xe_11 e_46 b_47 (by decide) dX10_seat_131 ?_
    refine lv_iadd X.1 X.2.1 dX10_seat_132 ?_
    refine lv_iload X.1 X.2.1 dX10_seat_133 (lv_at hv 0 rfl) ?_
    refine lv_i2l (v := (t0).toInt64) X.1 X.2.1 dX10_seat_135 rfl ?_
    obtain ⟨j_48, e_49, b_50, h⟩ := h
    refine xw_lst X hk hw hl xe_5 rfl e_49 b_50 (by decide) dX10_seat_136 (fun H locs hw hl => ?_)
    obtain ⟨S_51, e_52⟩ : ∃ T : xs_T, T = sL S_39 5 j_48 ((t0).toInt64) := ⟨_, rfl⟩
    rw [← e_52] at hw
    replace h := h S_51 e_52
    have hN : S_51.2.2.2.2 = S_39.2.2.2.2 := by rw [e_52]; rfl
    replace hNN := hN.trans hNN
    refine lv_iconst (v := 0) X.1 X.2.1 dX10_seat_137 (by decide) ?_
    exact xt_i X hr hlocks hNN hw hl h dX10_seat_138
  · skip
    replace h := h.2 c_41
    refine lv_iconst (v := 2) X.1 X.2.1 dX10_seat_114 (by decide) ?_
    exact xt_i X hr hlocks hNN hw hl h dX10_seat_115
set_option maxHeartbeats 4000000 in
set_option maxRecDepth 100000 in
theorem c_X10_seat (l : Launch) (Z : xz_T) (et : Nat → Nat) (S : xs_T) (x1 : Int32) (x2 : Int32) (K : Int32 → xs_T → Prop) (h : v_X10_seat x1 x2 S K) : Met l yX10_seat (wq yX10_seat cX10_seat 5 (some .int)) { frames := 1, cells := 0, slots := 0, locals := 23 } (xPc Z et S [.ref (et (0)), .int (x1), .int (x2)]) (xQi Z et S.2.2.2.2 K) 0 0 (fun q => Z.2.2.1 ≤ q) := by
  refine Met.ofW (cc := cX10_seat) (maxL := 5) (ret := (some .int)) (by decide +kernel) rfl ?_
  intro p e s m args below meth c s₁ B hml hv0
  obtain ⟨rfl, hk, hw⟩ := hv0
  have X : CallFix p m c cX10_seat 5 s _ (wq yX10_seat cX10_seat 5 (some .int)) RX10 := ⟨B.exec, B.bytes, hml, findClass_of_methodNamed B.named, atoms_spec (ws := (wq yX10_seat cX10_seat 5 (some .int))) B.pre⟩
  have hr := B.returns
  have hlocks := B.notSynchronized
  have hl : xl Z [] := fun _ h => by cases h
  have hNN : S.2.2.2.2 = S.2.2.2.2 := rfl
  have hv := lv_entry [.ref (et (0)), .int (x1), .int (x2)] (n := 5) (Nat.le_of_ble_eq_true rfl)
  rw [lg_entry_eq]
  generalize (lg_sl [.ref (et (0)), .int (x1), .int (x2)] ++ List.replicate (5 - (lg_sl [.ref (et (0)), .int (x1), .int (x2)]).length) Slot.unset).toArray = ls at hv ⊢
  replace hv : lv_has ls 5 [(0, .ref (et (0))), (1, .int (x1)), (2, .int (x2))] := hv
  unfold v_X10_seat at h
  refine lv_aload_n X.1 X.2.1 dX10_seat_0 rfl (lv_at hv 0 rfl) ?_
  refine xw_get X hk hw (i := 0) 9 xe_0 rfl tlX10 (by decide) rfl tw_528 dX10_seat_1 ?_
  refine lv_iload_n X.1 X.2.1 dX10_seat_4 rfl (lv_at hv 1 rfl) ?_
  obtain ⟨j_1, e_2, b_3, h⟩ := h
  refine xw_ild X hk hw xe_9 e_2 b_3 (by decide) dX10_seat_5 ?_
  refine lv_if_ne (tgt := 11) X.1 X.2.1 dX10_seat_6 (by decide) (fun c_4 => ?_) (fun c_4 => ?_)
  · skip
    replace h := h.1 c_4
    refine lv_aload_n X.1 X.2.1 dX10_seat_11 rfl (lv_at hv 0 rfl) ?_
    refine lv_iload_n X.1 X.2.1 dX10_seat_12 rfl (lv_at hv 1 rfl) ?_
    refine xc_i (xr_V (n := 1) (As := [.int (x1)]) (i := 0) X hk hw hv.1 (c_X10_rowOn l Z et S (x1) _ h) (tb_V tw_629 tw_626 tw_628 tw_18 tw_44) xe_0 rfl rfl rfl rfl (by decide +kernel) ⟨Nat.le_of_ble_eq_true rfl, Nat.le_of_ble_eq_true rfl⟩ rfl (Nat.le_of_ble_eq_true rfl) dX10_seat_13 ⟨Nat.le_of_ble_eq_true rfl, Nat.le_of_ble_eq_true rfl⟩) hl (fun r_6 S_5 H locs h hN hw hl => ?_)
    replace hNN := hN.trans hNN
    refine lv_istore_n (lv' := [(3, .int (r_6)), (0, .ref (et (0))), (1, .int (x1)), (2, .int (x2))]) X.1 X.2.1 dX10_seat_16 rfl hv (by decide) rfl (fun ls hv => ?_)
    refine lv_iload_n X.1 X.2.1 dX10_seat_17 rfl (lv_at hv 0 rfl) ?_
    refine lv_if_lt (tgt := 52) X.1 X.2.1 dX10_seat_18 (by decide) (fun c_7 => ?_) (fun c_7 => ?_)
    · skip
      replace h := h.1 c_7
      refine lv_iconst (v := 2) X.1 X.2.1 dX10_seat_52 (by decide) ?_
      exact xt_i X hr hlocks hNN hw hl h dX10_seat_53
    · skip
      replace h := h.2 c_7
      refine lv_aload_n X.1 X.2.1 dX10_seat_21 rfl (lv_at hv 1 rfl) ?_
      refine xw_get X hk hw (i := 0) 1 xe_0 rfl tlX10 (by decide) rfl tw_520 dX10_seat_22 ?_
      refine lv_iload_n X.1 X.2.1 dX10_seat_25 rfl (lv_at hv 0 rfl) ?_
      obtain ⟨j_8, e_9, b_10, h⟩ := h
      refine xw_ild X hk hw xe_1 e_9 b_10 (by decide) dX10_seat_26 ?_
      refine lv_bipush (v := 8) X.1 X.2.1 dX10_seat_27 (by decide) ?_
      refine lv_icmp_lt (tgt := 52) X.1 X.2.1 dX10_seat_29 (by decide) (fun c_11 => ?_) (fun c_11 => ?_)
      · skip
        replace h := h.1 c_11
        refine lv_iconst (v := 2) X.1 X.2.1 dX10_seat_52 (by decide) ?_
        exact xt_i X hr hlocks hNN hw hl h dX10_seat_53
      · skip
        replace h := h.2 c_11
        refine lv_aload_n X.1 X.2.1 dX10_seat_32 rfl (lv_at hv 1 rfl) ?_
        refine xw_get X hk hw (i := 0) 9 xe_0 rfl tlX10 (by decide) rfl tw_528 dX10_seat_33 ?_
        refine lv_iload_n X.1 X.2.1 dX10_seat_36 rfl (lv_at hv 3 rfl) ?_
        obtain ⟨j_12, e_13, b_14, h⟩ := h
        refine xw_ild X hk hw xe_9 e_13 b_14 (by decide) dX10_seat_37 ?_
        refine lv_iconst (v := 1) X.1 X.2.1 dX10_seat_38 (by decide) ?_
        refine lv_icmp_eq (tgt := 52) X.1 X.2.1 dX10_seat_39 (by decide) (fun c_15 => ?_) (fun c_15 => ?_)
        · skip
          replace h := h.1 c_15
          refine lv_iconst (v := 2) X.1 X.2.1 dX10_seat_52 (by decide) ?_
          exact xt_i X hr hlocks hNN hw hl h dX10_seat_53
        · skip
          replace h := h.2 c_15
          refine lv_aload_n X.1 X.2.1 dX10_seat_42 rfl (lv_at hv 1 rfl) ?_
          refine xw_get X hk hw (i := 0) 9 xe_0 rfl tlX10 (by decide) rfl tw_528 dX10_seat_43 ?_
          refine lv_iload_n X.1 X.2.1 dX10_seat_46 rfl (lv_at hv 3 rfl) ?_
          obtain ⟨j_16, e_17, b_18, h⟩ := h
          refine xw_ild X hk hw xe_9 e_17 b_18 (by decide) dX10_seat_47 ?_
          refine lv_iconst (v := 2) X.1 X.2.1 dX10_seat_48 (by decide) ?_
          refine lv_icmp_ne (tgt := 54) X.1 X.2.1 dX10_seat_49 (by decide) (fun c_19 => ?_) (fun c_19 => ?_)
          · skip
            replace h := h.1 c_19
            refine lv_aload_n X.1 X.2.1 dX10_seat_54 rfl (lv_at hv 1 rfl) ?_
            refine xw_get X hk hw (i := 0) 11 xe_0 rfl tlX10 (by decide) rfl tw_530 dX10_seat_55 ?_
            refine lv_iload_n X.1 X.2.1 dX10_seat_58 rfl (lv_at hv 2 rfl) ?_
            obtain ⟨j_20, e_21, b_22, h⟩ := h
            refine xw_ild X hk hw xe_11 e_21 b_22 (by decide) dX10_seat_59 ?_
            refine lv_iconst (v := 0) X.1 X.2.1 dX10_seat_60 (by decide) ?_
            refine lv_aload_n X.1 X.2.1 dX10_seat_61 rfl (lv_at hv 1 rfl) ?_
            refine xw_get X hk hw (i := 0) 2 xe_0 rfl tlX10 (by decide) rfl tw_521 dX10_seat_62 ?_
            refine lv_iload_n X.1 X.2.1 dX10_seat_65 rfl (lv_at hv 0 rfl) ?_
            obtain ⟨j_23, e_24, b_25, h⟩ := h
            refine xw_ild X hk hw xe_2 e_24 b_25 (by decide) dX10_seat_66 ?_
            refine lv_iconst (v := 1) X.1 X.2.1 dX10_seat_67 (by decide) ?_
            refine lv_isub X.1 X.2.1 dX10_seat_68 ?_
            refine xc_i (xr_S (n := 3) X hk hw hv.1 (c_X10_in l Z et S_5 ((xI S_5 11 j_20)) (0) (((xI S_5 2 j_23) - 1)) _ h) (tb_S tw_613 tw_611 tw_612 tw_44) rfl rfl (by decide +kernel) ⟨Nat.le_of_ble_eq_true rfl, Nat.le_of_ble_eq_true rfl⟩ rfl (Nat.le_of_ble_eq_true rfl) dX10_seat_69 ⟨Nat.le_of_ble_eq_true rfl, Nat.le_of_ble_eq_true rfl⟩) hl (fun r_27 S_26 H locs h hN hw hl => ?_)
            replace hNN := hN.trans hNN
            refine lv_if_ne (tgt := 77) X.1 X.2.1 dX10_seat_72 (by decide) (fun c_28 => ?_) (fun c_28 => ?_)
            · skip
              replace h := h.1 c_28
              refine lv_aload_n X.1 X.2.1 dX10_seat_77 rfl (lv_at hv 1 rfl) ?_
              refine xw_get X hk hw (i := 0) 9 xe_0 rfl tlX10 (by decide) rfl tw_528 dX10_seat_78 ?_
              refine lv_iload_n X.1 X.2.1 dX10_seat_81 rfl (lv_at hv 3 rfl) ?_
              obtain ⟨j_29, e_30, b_31, h⟩ := h
              refine xw_ild X hk hw xe_9 e_30 b_31 (by decide) dX10_seat_82 ?_
              refine lv_iconst (v := 3) X.1 X.2.1 dX10_seat_83 (by decide) ?_
              refine lv_icmp_ne (tgt := 96) X.1 X.2.1 dX10_seat_84 (by decide) (fun c_32 => ?_) (fun c_32 => ?_)
              · skip
                replace h := h.1 c_32
                refine lv_iconst (v := 0) X.1 X.2.1 dX10_seat_96 (by decide) ?_
                exact j_X10_seat_97 X hk hr hlocks (x1) (r_6) (0) S_26 _ _ _ h hNN hw hl (lv_sub hv [1, 2, 0] rfl)
              · skip
                replace h := h.2 c_32
                refine lv_aload_n X.1 X.2.1 dX10_seat_87 rfl (lv_at hv 1 rfl) ?_
                refine xw_get X hk hw (i := 0) 10 xe_0 rfl tlX10 (by decide) rfl tw_529 dX10_seat_88 ?_
                refine lv_iload_n X.1 X.2.1 dX10_seat_91 rfl (lv_at hv 3 rfl) ?_
                obtain ⟨j_33, e_34, b_35, h⟩ := h
                refine xw_ild X hk hw xe_10 e_34 b_35 (by decide) dX10_seat_92 ?_
                refine lv_goto (tgt := 97) X.1 X.2.1 dX10_seat_93 (by decide) ?_
                exact j_X10_seat_97 X hk hr hlocks (x1) (r_6) ((xI S_26 10 j_33)) S_26 _ _ _ h hNN hw hl (lv_sub hv [1, 2, 0] rfl)
            · skip
              replace h := h.2 c_28
              refine lv_iconst (v := 3) X.1 X.2.1 dX10_seat_75 (by decide) ?_
              exact xt_i X hr hlocks hNN hw hl h dX10_seat_76
          · skip
            replace h := h.2 c_19
            refine lv_iconst (v := 2) X.1 X.2.1 dX10_seat_52 (by decide) ?_
            exact xt_i X hr hlocks hNN hw hl h dX10_seat_53
  · skip
    replace h := h.2 c_4
    refine lv_iconst (v := 1) X.1 X.2.1 dX10_seat_9 (by decide) ?_
    exact xt_i X hr hlocks hNN hw hl h dX10_seat_10
def v_X10_splice_234 (K : Int32 → xs_T → Prop) : Nat → Int32 → Int32 → Int32 → Int32 → Int32 → xs_T → Prop
  | 0, _, _, _, _, _, _ => False
  | n + 1, a2, a3, a5, a6, a11, S => ((a3 ≤ a11 → K (0) S) ∧ (¬ a3 ≤ a11 → ((a6 = 0 → ∃ j_74 : Nat, a5 = nI j_74 ∧ j_74 < 120 ∧ ∃ j_77 : Nat, a2 = nI j_77 ∧ j_77 < 10 ∧ ∃ j_80 : Nat, a11 = nI j_80 ∧ j_80 < 64 ∧ ∃ j_83 : Nat, (((xI S 3 j_74) + (xI S 11 j_77)) + a11) = nI j_83 ∧ j_83 < 3000 ∧ ∀ S_86 : xs_T, S_86 = sL S 5 j_83 ((xL S 22 j_80)) → v_X10_splice_234 K n (a2) (a3) (a5) (a6) ((a11 + 1)) S_86) ∧ (¬ a6 = 0 → ∃ j_88 : Nat, a5 = nI j_88 ∧ j_88 < 120 ∧ ∃ j_91 : Nat, a11 = nI j_91 ∧ j_91 < 64 ∧ v_X10_canHave ((xI S 1 j_88)) (((xL S 22 j_91)).toInt32) S (fun (r_95 : Int32) (S_94 : xs_T) => ((¬ r_95 = 0 → ∃ j_97 : Nat, a5 = nI j_97 ∧ j_97 < 120 ∧ ∃ j_100 : Nat, a2 = nI j_100 ∧ j_100 < 10 ∧ ∃ j_103 : Nat, a11 = nI j_103 ∧ j_103 < 64 ∧ ∃ j_106 : Nat, (((xI S_94 3 j_97) + (xI S_94 11 j_100)) + a11) = nI j_106 ∧ j_106 < 3000 ∧ ∀ S_109 : xs_T, S_109 = sL S_94 5 j_106 ((xL S_94 22 j_103)) → v_X10_splice_234 K n (a2) (a3) (a5) (a6) ((a11 + 1)) S_109) ∧ (r_95 = 0 → K (2) S_94)))))))
def v_X10_splice_190 (K : Int32 → xs_T → Prop) : Nat → Int32 → Int32 → Int32 → Int32 → Int32 → Int32 → Int32 → xs_T → Prop
  | 0, _, _, _, _, _, _, _, _ => False
  | n + 1, a1, a2, a3, a4, a5, a6, a11, S => ((a3 ≤ a11 → ∃ n, v_X10_splice_234 K n (a2) (a3) (a5) (a6) (0) S) ∧ (¬ a3 ≤ a11 → ∃ j_58 : Nat, a4 = nI j_58 ∧ j_58 < 120 ∧ ∃ j_61 : Nat, a1 = nI j_61 ∧ j_61 < 10 ∧ ∃ j_64 : Nat, (((xI S 3 j_58) + (xI S 11 j_61)) + a11) = nI j_64 ∧ j_64 < 3000 ∧ ∃ j_67 : Nat, a11 = nI j_67 ∧ j_67 < 64 ∧ ∀ S_70 : xs_T, S_70 = sL S 22 j_67 ((xL S 5 j_64)) → v_X10_splice_190 K n (a1) (a2) (a3) (a4) (a5) (a6) ((a11 + 1)) S_70))
def v_X10_splice_111 (K : Int32 → xs_T → Prop) (a1 : Int32) (a2 : Int32) (a3 : Int32) (a4 : Int32) (a5 : Int32) (a6 : Int32) (S : xs_T) : Prop := ∃ j_32 : Nat, a1 = nI j_32 ∧ j_32 < 10 ∧ ∃ j_35 : Nat, a2 = nI j_35 ∧ j_35 < 10 ∧ ∃ j_38 : Nat, a1 = nI j_38 ∧ j_38 < 10 ∧ (((xI S 11 j_38) < 0 → K (3) S) ∧ (¬ (xI S 11 j_38) < 0 → ∃ j_42 : Nat, a2 = nI j_42 ∧ j_42 < 10 ∧ (((xI S 11 j_42) < 0 → K (3) S) ∧ (¬ (xI S 11 j_42) < 0 → ((a3 < 0 → K (3) S) ∧ (¬ a3 < 0 → ∃ j_47 : Nat, a4 = nI j_47 ∧ j_47 < 120 ∧ ((((xI S 2 j_47)).toInt64 < (((xI S 11 j_32)).toInt64 + (a3).toInt64) → K (3) S) ∧ (¬ ((xI S 2 j_47)).toInt64 < (((xI S 11 j_32)).toInt64 + (a3).toInt64) → ∃ j_51 : Nat, a5 = nI j_51 ∧ j_51 < 120 ∧ (((((xI S 11 j_35)).toInt64 + (a3).toInt64) ≤ ((xI S 2 j_51)).toInt64 → ∃ n, v_X10_splice_190 K n (a1) (a2) (a3) (a4) (a5) (a6) (0) S) ∧ (¬ (((xI S 11 j_35)).toInt64 + (a3).toInt64) ≤ ((xI S 2 j_51)).toInt64 → K (3) S))))))))))
def v_X10_splice_84 (K : Int32 → xs_T → Prop) (a1 : Int32) (a2 : Int32) (a3 : Int32) (a4 : Int32) (a5 : Int32) (a6 : Int32) (t0 : Int32) (t1 : Int32) (S : xs_T) : Prop := ((¬ t1 = t0 → K (2) S) ∧ (t1 = t0 → ((¬ a6 = 0 → v_X10_splice_111 K (a1) (a2) (a3) (a4) (a5) (a6) S) ∧ (a6 = 0 → ∃ j_25 : Nat, a4 = nI j_25 ∧ j_25 < 120 ∧ ∃ j_28 : Nat, a5 = nI j_28 ∧ j_28 < 120 ∧ (((xI S 1 j_25) = (xI S 1 j_28) → v_X10_splice_111 K (a1) (a2) (a3) (a4) (a5) (a6) S) ∧ (¬ (xI S 1 j_25) = (xI S 1 j_28) → K (2) S))))))
def v_X10_splice_63 (K : Int32 → xs_T → Prop) (a1 : Int32) (a2 : Int32) (a3 : Int32) (a4 : Int32) (a5 : Int32) (t0 : Int32) (S : xs_T) : Prop := ∃ j_19 : Nat, a5 = nI j_19 ∧ j_19 < 120 ∧ (((xI S 1 j_19) < 8 → v_X10_splice_84 K (a1) (a2) (a3) (a4) (a5) (t0) (0) (t0) S) ∧ (¬ (xI S 1 j_19) < 8 → v_X10_splice_84 K (a1) (a2) (a3) (a4) (a5) (t0) (1) (t0) S))
def v_X10_splice (x1 : Int32) (x2 : Int32) (x3 : Int32) (S : xs_T) (K : Int32 → xs_T → Prop) : Prop := ∃ j_1 : Nat, x1 = nI j_1 ∧ j_1 < 10 ∧ (((xI S 9 j_1) = 0 → K (1) S) ∧ (¬ (xI S 9 j_1) = 0 → ∃ j_5 : Nat, x2 = nI j_5 ∧ j_5 < 10 ∧ ((¬ (xI S 9 j_5) = 0 → v_X10_rowOn (x1) S (fun (r_10 : Int32) (S_9 : xs_T) => v_X10_rowOn (x2) S_9 (fun (r_12 : Int32) (S_11 : xs_T) => ((r_10 < 0 → K (2) S_11) ∧ (¬ r_10 < 0 → ((0 ≤ r_12 → ∃ j_15 : Nat, r_10 = nI j_15 ∧ j_15 < 120 ∧ (((xI S_11 1 j_15) < 8 → v_X10_splice_63 K (x1) (x2) (x3) (r_10) (r_12) (0) S_11) ∧ (¬ (xI S_11 1 j_15) < 8 → v_X10_splice_63 K (x1) (x2) (x3) (r_10) (r_12) (1) S_11))) ∧ (¬ 0 ≤ r_12 → K (2) S_11))))))) ∧ ((xI S 9 j_5) = 0 → K (1) S))))
set_option maxHeartbeats 4000000 in
set_option maxRecDepth 100000 in
theorem j_X10_splice_234 {l : Launch} {p : Program} {e : Env} {s : State} {m : MethodId} {args : Array Value} {below : List Frame} {meth : Method} {c : Code} {Z : xz_T} {et : Nat → Nat} {Nn : Nat → Nat} {K : Int32 → xs_T → Prop} (X : CallFix p m c cX10_splice 12 s args (wq yX10_splice cX10_splice 12 (some .int)) RX10) (hk : xk Z s) (hr : meth.sig.returnType = (some .int)) (hlocks : meth.locks = false) : ∀ (n : Nat) (a2 : Int32) (a3 : Int32) (a5 : Int32) (a6 : Int32) (a11 : Int32) (S : xs_T) (H : Heap) (locs : List Loc) (ls : Array Slot), v_X10_splice_234 K n a2 a3 a5 a6 a11 S → S.2.2.2.2 = Nn → wd Z et S H → xl Z locs → lv_has ls 12 [(0, .ref (et (0))), (2, .int (a2)), (3, .int (a3)), (5, .int (a5)), (6, .int (a6)), (11, .int (a11))] → W p l e (headSpec (wq yX10_splice cX10_splice 12 (some .int)) { frames := 1, cells := 0, slots := 0, locals := 23 }).room s m args below meth c H locs 0 0 (MQ below (xQi Z et Nn K) args s 0 0 (fun q => Z.2.2.1 ≤ q)) (F0 m 234 ls []) := by
  intro n
  induction n with
  | zero =>
    intro a2 a3 a5 a6 a11 S H locs ls h hNN hw hl hv
    exact False.elim h
  | succ n ih =>
    intro a2 a3 a5 a6 a11 S H locs ls h hNN hw hl hv
    rw [v_X10_splice_234] at h
    refine lv_iload X.1 X.2.1 dX10_splice_234 (lv_at hv 5 rfl) ?_
    refine lv_iload_n X.1 X.2.1 dX10_splice_236 rfl (lv_at hv 2 rfl) ?_
    refine lv_icmp_ge (tgt := 304) X.1 X.2.1 dX10_splice_237 (by decide) (fun c_72 => ?_) (fun c_72 => ?_)
    · skip
      replace h := h.1 c_72
      refine lv_iconst (v := 0) X.1 X.2.1 dX10_splice_304 (by decide) ?_
      exact xt_i X hr hlocks hNN hw hl h dX10_splice_305
    · skip
      replace h := h.2 c_72
      refine lv_iload X.1 X.2.1 dX10_splice_240 (lv_at hv 4 rfl) ?_
      refine lv_if_eq (tgt := 269) X.1 X.2.1 dX10_splice_242 (by decide) (fun c_73 => ?_) (fun c_73 => ?_)
      · skip
        replace h := h.1 c_73
        refine lv_aload_n X.1 X.2.1 dX10_splice_269 rfl (lv_at hv 0 rfl) ?_
        refine xw_get X hk hw (i := 0) 5 xe_0 rfl tlX10 (by decide) rfl tw_524 dX10_splice_270 ?_
        refine lv_aload_n X.1 X.2.1 dX10_splice_273 rfl (lv_at hv 0 rfl) ?_
        refine xw_get X hk hw (i := 0) 3 xe_0 rfl tlX10 (by decide) rfl tw_522 dX10_splice_274 ?_
        refine lv_iload X.1 X.2.1 dX10_splice_277 (lv_at hv 3 rfl) ?_
        obtain ⟨j_74, e_75, b_76, h⟩ := h
        refine xw_ild X hk hw xe_3 e_75 b_76 (by decide) dX10_splice_279 ?_
        refine lv_aload_n X.1 X.2.1 dX10_splice_280 rfl (lv_at hv 0 rfl) ?_
        refine xw_get X hk hw (i := 0) 11 xe_0 rfl tlX10 (by decide) rfl tw_530 dX10_splice_281 ?_
        refine lv_iload_n X.1 X.2.1 dX10_splice_284 rfl (lv_at hv 1 rfl) ?_
        obtain ⟨j_77, e_78, b_79, h⟩ := h
        refine xw_ild X hk hw xe_11 e_78 b_79 (by decide) dX10_splice_285 ?_
        refine lv_iadd X.1 X.2.1 dX10_splice_286 ?_
        refine lv_iload X.1 X.2.1 dX10_splice_287 (lv_at hv 5 rfl) ?_
        refine lv_iadd X.1 X.2.1 dX10_splice_289 ?_
        refine lv_aload_n X.1 X.2.1 dX10_splice_290 rfl (lv_at hv 0 rfl) ?_
        refine xw_get X hk hw (i := 0) 22 xe_0 rfl tlX10 (by decide) rfl tw_541 dX10_splice_291 ?_
        refine lv_iload X.1 X.2.1 dX10_splice_294 (lv_at hv 5 rfl) ?_
        obtain ⟨j_80, e_81, b_82, h⟩ := h
        refine xw_lld X hk hw xe_22 e_81 b_82 (by decide) dX10_splice_296 ?_
        obtain ⟨j_83, e_84, b_85, h⟩ := h
        refine xw_lst X hk hw hl xe_5 rfl e_84 b_85 (by decide) dX10_splice_297 (fun H locs hw hl => ?_)
        obtain ⟨S_86, e_87⟩ : ∃ T : xs_T, T = sL S 5 j_83 ((xL S 22 j_80)) := ⟨_, rfl⟩
        rw [← e_87] at hw
        replace h := h S_86 e_87
        have hN : S_86.2.2.2.2 = S.2.2.2.2 := by rw [e_87]; rfl
        replace hNN := hN.trans hNN
        refine lv_iinc (v := (a11 + 1)) (lv' := [(11, .int ((a11 + 1))), (0, .ref (et (0))), (2, .int (a2)), (3, .int (a3)), (5, .int (a5)), (6, .int (a6))]) X.1 X.2.1 dX10_splice_298 hv (k := 5) rfl rfl (by decide) rfl (fun ls hv => ?_)
        refine lv_goto (tgt := 234) X.1 X.2.1 dX10_splice_301 (by decide) ?_
        exact ih (a2) (a3) (a5) (a6) ((a11 + 1)) S_86 _ _ _ h hNN hw hl (lv_sub hv [1, 2, 3, 4, 5, 0] rfl)
      · skip
        replace h := h.2 c_73
        refine lv_aload_n X.1 X.2.1 dX10_splice_245 rfl (lv_at hv 0 rfl) ?_
        refine lv_aload_n X.1 X.2.1 dX10_splice_246 rfl (lv_at hv 0 rfl) ?_
        refine xw_get X hk hw (i := 0) 1 xe_0 rfl tlX10 (by decide) rfl tw_520 dX10_splice_247 ?_
        refine lv_iload X.1 X.2.1 dX10_splice_250 (lv_at hv 3 rfl) ?_
        obtain ⟨j_88, e_89, b_90, h⟩ := h
        refine xw_ild X hk hw xe_1 e_89 b_90 (by decide) dX10_splice_252 ?_
        refine lv_aload_n X.1 X.2.1 dX10_splice_253 rfl (lv_at hv 0 rfl) ?_
        refine xw_get X hk hw (i := 0) 22 xe_0 rfl tlX10 (by decide) rfl tw_541 dX10_splice_254 ?_
        refine lv_iload X.1 X.2.1 dX10_splice_257 (lv_at hv 5 rfl) ?_
        obtain ⟨j_91, e_92, b_93, h⟩ := h
        refine xw_lld X hk hw xe_22 e_92 b_93 (by decide) dX10_splice_259 ?_
        refine lv_l2i (v := ((xL S 22 j_91)).toInt32) X.1 X.2.1 dX10_splice_260 rfl ?_
        refine xc_i (xr_V (n := 2) (As := [.int ((xI S 1 j_88)), .int (((xL S 22 j_91)).toInt32)]) (i := 0) X hk hw hv.1 (c_X10_canHave l Z et S ((xI S 1 j_88)) (((xL S 22 j_91)).toInt32) _ h) (tb_V tw_641 tw_638 tw_640 tw_21 tw_44) xe_0 rfl rfl rfl rfl (by decide +kernel) ⟨Nat.le_of_ble_eq_true rfl, Nat.le_of_ble_eq_true rfl⟩ rfl (Nat.le_of_ble_eq_true rfl) dX10_splice_261 ⟨Nat.le_of_ble_eq_true rfl, Nat.le_of_ble_eq_true rfl⟩) hl (fun r_95 S_94 H locs h hN hw hl => ?_)
        replace hNN := hN.trans hNN
        refine lv_if_ne (tgt := 269) X.1 X.2.1 dX10_splice_264 (by decide) (fun c_96 => ?_) (fun c_96 => ?_)
        · skip
          replace h := h.1 c_96
          refine lv_aload_n X.1 X.2.1 dX10_splice_269 rfl (lv_at hv 0 rfl) ?_
          refine xw_get X hk hw (i := 0) 5 xe_0 rfl tlX10 (by decide) rfl tw_524 dX10_splice_270 ?_
          refine lv_aload_n X.1 X.2.1 dX10_splice_273 rfl (lv_at hv 0 rfl) ?_
          refine xw_get X hk hw (i := 0) 3 xe_0 rfl tlX10 (by decide) rfl tw_522 dX10_splice_274 ?_
          refine lv_iload X.1 X.2.1 dX10_splice_277 (lv_at hv 3 rfl) ?_
          obtain ⟨j_97, e_98, b_99, h⟩ := h
          refine xw_ild X hk hw xe_3 e_98 b_99 (by decide) dX10_splice_279 ?_
          refine lv_aload_n X.1 X.2.1 dX10_splice_280 rfl (lv_at hv 0 rfl) ?_
          refine xw_get X hk hw (i := 0) 11 xe_0 rfl tlX10 (by decide) rfl tw_530 dX10_splice_281 ?_
          refine lv_iload_n X.1 X.2.1 dX10_splice_284 rfl (lv_at hv 1 rfl) ?_
          obtain ⟨j_100, e_101, b_102, h⟩ := h
          refine xw_ild X hk hw xe_11 e_101 b_102 (by decide) dX10_splice_285 ?_
          refine lv_iadd X.1 X.2.1 dX10_splice_286 ?_
          refine lv_iload X.1 X.2.1 dX10_splice_287 (lv_at hv 5 rfl) ?_
          refine lv_iadd X.1 X.2.1 dX10_splice_289 ?_
          refine lv_aload_n X.1 X.2.1 dX10_splice_290 rfl (lv_at hv 0 rfl) ?_
          refine xw_get X hk hw (i := 0) 22 xe_0 rfl tlX10 (by decide) rfl tw_541 dX10_splice_291 ?_
          refine lv_iload X.1 X.2.1 dX10_splice_294 (lv_at hv 5 rfl) ?_
          obtain ⟨j_103, e_104, b_105, h⟩ := h
          refine xw_lld X hk hw xe_22 e_104 b_105 (by decide) dX10_splice_296 ?_
          obtain ⟨j_106, e_107, b_108, h⟩ := h
          refine xw_lst X hk hw hl xe_5 rfl e_107 b_108 (by decide) dX10_splice_297 (fun H locs hw hl => ?_)
          obtain ⟨S_109, e_110⟩ : ∃ T : xs_T, T = sL S_94 5 j_106 ((xL S_94 22 j_103)) := ⟨_, rfl⟩
          rw [← e_110] at hw
          replace h := h S_109 e_110
          have hN : S_109.2.2.2.2 = S_94.2.2.2.2 := by rw [e_110]; rfl
          replace hNN := hN.trans hNN
          refine lv_iinc (v := (a11 + 1)) (lv' := [(11, .int ((a11 + 1))), (0, .ref (et (0))), (2, .int (a2)), (3, .int (a3)), (5, .int (a5)), (6, .int (a6))]) X.1 X.2.1 dX10_splice_298 hv (k := 5) rfl rfl (by decide) rfl (fun ls hv => ?_)
          refine lv_goto (tgt := 234) X.1 X.2.1 dX10_splice_301 (by decide) ?_
          exact ih (a2) (a3) (a5) (a6) ((a11 + 1)) S_109 _ _ _ h hNN hw hl (lv_sub hv [1, 2, 3, 4, 5, 0] rfl)
        · skip
          replace h := h.2 c_96
          refine lv_iconst (v := 2) X.1 X.2.1 dX10_splice_267 (by decide) ?_
          exact xt_i X hr hlocks hNN hw hl h dX10_splice_268
set_option maxHeartbeats 4000000 in
set_option maxRecDepth 100000 in
theorem j_X10_splice_190 {l : Launch} {p : Program} {e : Env} {s : State} {m : MethodId} {args : Array Value} {below : List Frame} {meth : Method} {c : Code} {Z : xz_T} {et : Nat → Nat} {Nn : Nat → Nat} {K : Int32 → xs_T → Prop} (X : CallFix p m c cX10_splice 12 s args (wq yX10_splice cX10_splice 12 (some .int)) RX10) (hk : xk Z s) (hr : meth.sig.returnType = (some .int)) (hlocks : meth.locks = false) : ∀ (n : Nat) (a1 : Int32) (a2 : Int32) (a3 : Int32) (a4 : Int32) (a5 : Int32) (a6 : Int32) (a11 : Int32) (S : xs_T) (H : Heap) (locs : List Loc) (ls : Array Slot), v_X10_splice_190 K n a1 a2 a3 a4 a5 a6 a11 S → S.2.2.2.2 = Nn → wd Z et S H → xl Z locs → lv_has ls 12 [(0, .ref (et (0))), (1, .int (a1)), (2, .int (a2)), (3, .int (a3)), (4, .int (a4)), (5, .int (a5)), (6, .int (a6)), (11, .int (a11))] → W p l e (headSpec (wq yX10_splice cX10_splice 12 (some .int)) { frames := 1, cells := 0, slots := 0, locals := 23 }).room s m args below meth c H locs 0 0 (MQ below (xQi Z et Nn K) args s 0 0 (fun q => Z.2.2.1 ≤ q)) (F0 m 190 ls []) := by
  intro n
  induction n with
  | zero =>
    intro a1 a2 a3 a4 a5 a6 a11 S H locs ls h hNN hw hl hv
    exact False.elim h
  | succ n ih =>
    intro a1 a2 a3 a4 a5 a6 a11 S H locs ls h hNN hw hl hv
    rw [v_X10_splice_190] at h
    refine lv_iload X.1 X.2.1 dX10_splice_190 (lv_at hv 7 rfl) ?_
    refine lv_iload_n X.1 X.2.1 dX10_splice_192 rfl (lv_at hv 3 rfl) ?_
    refine lv_icmp_ge (tgt := 231) X.1 X.2.1 dX10_splice_193 (by decide) (fun c_56 => ?_) (fun c_56 => ?_)
    · skip
      replace h := h.1 c_56
      refine lv_iconst (v := 0) X.1 X.2.1 dX10_splice_231 (by decide) ?_
      refine lv_istore (lv' := [(11, .int (0)), (0, .ref (et (0))), (1, .int (a1)), (2, .int (a2)), (3, .int (a3)), (4, .int (a4)), (5, .int (a5)), (6, .int (a6))]) X.1 X.2.1 dX10_splice_232 hv (by decide) rfl (fun ls hv => ?_)
      obtain ⟨n_57, h⟩ := h
      exact j_X10_splice_234 X hk hr hlocks n_57 (a2) (a3) (a5) (a6) (0) S _ _ _ h hNN hw hl (lv_sub hv [1, 3, 4, 6, 7, 0] rfl)
    · skip
      replace h := h.2 c_56
      refine lv_aload_n X.1 X.2.1 dX10_splice_196 rfl (lv_at hv 0 rfl) ?_
      refine xw_get X hk hw (i := 0) 22 xe_0 rfl tlX10 (by decide) rfl tw_541 dX10_splice_197 ?_
      refine lv_iload X.1 X.2.1 dX10_splice_200 (lv_at hv 7 rfl) ?_
      refine lv_aload_n X.1 X.2.1 dX10_splice_202 rfl (lv_at hv 0 rfl) ?_
      refine xw_get X hk hw (i := 0) 5 xe_0 rfl tlX10 (by decide) rfl tw_524 dX10_splice_203 ?_
      refine lv_aload_n X.1 X.2.1 dX10_splice_206 rfl (lv_at hv 0 rfl) ?_
      refine xw_get X hk hw (i := 0) 3 xe_0 rfl tlX10 (by decide) rfl tw_522 dX10_splice_207 ?_
      refine lv_iload X.1 X.2.1 dX10_splice_210 (lv_at hv 4 rfl) ?_
      obtain ⟨j_58, e_59, b_60, h⟩ := h
      refine xw_ild X hk hw xe_3 e_59 b_60 (by decide) dX10_splice_212 ?_
      refine lv_aload_n X.1 X.2.1 dX10_splice_213 rfl (lv_at hv 0 rfl) ?_
      refine xw_get X hk hw (i := 0) 11 xe_0 rfl tlX10 (by decide) rfl tw_530 dX10_splice_214 ?_
      refine lv_iload_n X.1 X.2.1 dX10_splice_217 rfl (lv_at hv 1 rfl) ?_
      obtain ⟨j_61, e_62, b_63, h⟩ := h
      refine xw_ild X hk hw xe_11 e_62 b_63 (by decide) dX10_splice_218 ?_
      refine lv_iadd X.1 X.2.1 dX10_splice_219 ?_
      refine lv_iload X.1 X.2.1 dX10_splice_220 (lv_at hv 7 rfl) ?_
      refine lv_iadd X.1 X.2.1 dX10_splice_222 ?_
      obtain ⟨j_64, e_65, b_66, h⟩ := h
      refine xw_lld X hk hw xe_5 e_65 b_66 (by decide) dX10_splice_223 ?_
      obtain ⟨j_67, e_68, b_69, h⟩ := h
      refine xw_lst X hk hw hl xe_22 rfl e_68 b_69 (by decide) dX10_splice_224 (fun H locs hw hl => ?_)
      obtain ⟨S_70, e_71⟩ : ∃ T : xs_T, T = sL S 22 j_67 ((xL S 5 j_64)) := ⟨_, rfl⟩
      rw [← e_71] at hw
      replace h := h S_70 e_71
      have hN : S_70.2.2.2.2 = S.2.2.2.2 := by rw [e_71]; rfl
      replace hNN := hN.trans hNN
      refine lv_iinc (v := (a11 + 1)) (lv' := [(11, .int ((a11 + 1))), (0, .ref (et (0))), (1, .int (a1)), (2, .int (a2)), (3, .int (a3)), (4, .int (a4)), (5, .int (a5)), (6, .int (a6))]) X.1 X.2.1 dX10_splice_225 hv (k := 7) rfl rfl (by decide) rfl (fun ls hv => ?_)
      refine lv_goto (tgt := 190) X.1 X.2.1 dX10_splice_228 (by decide) ?_
      exact ih (a1) (a2) (a3) (a4) (a5) (a6) ((a11 + 1)) S_70 _ _ _ h hNN hw hl (lv_sub hv [1, 2, 3, 4, 5, 6, 7, 0] rfl)
set_option maxHeartbeats 4000000 in
set_option maxRecDepth 100000 in
theorem j_X10_splice_111 {l : Launch} {p : Program} {e : Env} {s : State} {m : MethodId} {args : Array Value} {below : List Frame} {meth : Method} {c : Code} {Z : xz_T} {et : Nat → Nat} {Nn : Nat → Nat} {K : Int32 → xs_T → Prop} (X : CallFix p m c cX10_splice 12 s args (wq yX10_splice cX10_splice 12 (some .int)) RX10) (hk : xk Z s) (hr : meth.sig.returnType = (some .int)) (hlocks : meth.locks = false) : ∀ (a1 : Int32) (a2 : Int32) (a3 : Int32) (a4 : Int32) (a5 : Int32) (a6 : Int32) (S : xs_T) (H : Heap) (locs : List Loc) (ls : Array Slot), v_X10_splice_111 K a1 a2 a3 a4 a5 a6 S → S.2.2.2.2 = Nn → wd Z et S H → xl Z locs → lv_has ls 12 [(0, .ref (et (0))), (1, .int (a1)), (2, .int (a2)), (3, .int (a3)), (4, .int (a4)), (5, .int (a5)), (6, .int (a6))] → W p l e (headSpec (wq yX10_splice cX10_splice 12 (some .int)) { frames := 1, cells := 0, slots := 0, locals := 23 }).room s m args below meth c H locs 0 0 (MQ below (xQi Z et Nn K) args s 0 0 (fun q => Z.2.2.1 ≤ q)) (F0 m 111 ls []) := by
  intro a1 a2 a3 a4 a5 a6 S H locs ls h hNN hw hl hv
  unfold v_X10_splice_111 at h
  refine lv_aload_n X.1 X.2.1 dX10_splice_111 rfl (lv_at hv 0 rfl) ?_
  refine xw_get X hk hw (i := 0) 11 xe_0 rfl tlX10 (by decide) rfl tw_530 dX10_splice_112 ?_
  refine lv_iload_n X.1 X.2.1 dX10_splice_115 rfl (lv_at hv 1 rfl) ?_
  obtain ⟨j_32, e_33, b_34, h⟩ := h
  refine xw_ild X hk hw xe_11 e_33 b_34 (by decide) dX10_splice_116 ?_
  refine lv_i2l (v := ((xI S 11 j_32)).toInt64) X.1 X.2.1 dX10_splice_117 rfl ?_
  refine lv_iload_n X.1 X.2.1 dX10_splice_118 rfl (lv_at hv 3 rfl) ?_
  refine lv_i2l (v := (a3).toInt64) X.1 X.2.1 dX10_splice_119 rfl ?_
  refine lv_ladd X.1 X.2.1 dX10_splice_120 ?_
  refine lv_lstore (lv' := [(7, .long ((((xI S 11 j_32)).toInt64 + (a3).toInt64))), (0, .ref (et (0))), (1, .int (a1)), (2, .int (a2)), (3, .int (a3)), (4, .int (a4)), (5, .int (a5)), (6, .int (a6))]) X.1 X.2.1 dX10_splice_121 hv (by decide) rfl (fun ls hv => ?_)
  refine lv_aload_n X.1 X.2.1 dX10_splice_123 rfl (lv_at hv 1 rfl) ?_
  refine xw_get X hk hw (i := 0) 11 xe_0 rfl tlX10 (by decide) rfl tw_530 dX10_splice_124 ?_
  refine lv_iload_n X.1 X.2.1 dX10_splice_127 rfl (lv_at hv 3 rfl) ?_
  obtain ⟨j_35, e_36, b_37, h⟩ := h
  refine xw_ild X hk hw xe_11 e_36 b_37 (by decide) dX10_splice_128 ?_
  refine lv_i2l (v := ((xI S 11 j_35)).toInt64) X.1 X.2.1 dX10_splice_129 rfl ?_
  refine lv_iload_n X.1 X.2.1 dX10_splice_130 rfl (lv_at hv 4 rfl) ?_
  refine lv_i2l (v := (a3).toInt64) X.1 X.2.1 dX10_splice_131 rfl ?_
  refine lv_ladd X.1 X.2.1 dX10_splice_132 ?_
  refine lv_lstore (lv' := [(9, .long ((((xI S 11 j_35)).toInt64 + (a3).toInt64))), (7, .long ((((xI S 11 j_32)).toInt64 + (a3).toInt64))), (0, .ref (et (0))), (1, .int (a1)), (2, .int (a2)), (3, .int (a3)), (4, .int (a4)), (5, .int (a5)), (6, .int (a6))]) X.1 X.2.1 dX10_splice_133 hv (by decide) rfl (fun ls hv => ?_)
  refine lv_aload_n X.1 X.2.1 dX10_splice_135 rfl (lv_at hv 2 rfl) ?_
  refine xw_get X hk hw (i := 0) 11 xe_0 rfl tlX10 (by decide) rfl tw_530 dX10_splice_136 ?_
  refine lv_iload_n X.1 X.2.1 dX10_splice_139 rfl (lv_at hv 3 rfl) ?_
  obtain ⟨j_38, e_39, b_40, h⟩ := h
  refine xw_ild X hk hw xe_11 e_39 b_40 (by decide) dX10_splice_140 ?_
  refine lv_if_lt (tgt := 185) X.1 X.2.1 dX10_splice_141 (by decide) (fun c_41 => ?_) (fun c_41 => ?_)
  · skip
    replace h := h.1 c_41
    refine lv_iconst (v := 3) X.1 X.2.1 dX10_splice_185 (by decide) ?_
    exact xt_i X hr hlocks hNN hw hl h dX10_splice_186
  · skip
    replace h := h.2 c_41
    refine lv_aload_n X.1 X.2.1 dX10_splice_144 rfl (lv_at hv 2 rfl) ?_
    refine xw_get X hk hw (i := 0) 11 xe_0 rfl tlX10 (by decide) rfl tw_530 dX10_splice_145 ?_
    refine lv_iload_n X.1 X.2.1 dX10_splice_148 rfl (lv_at hv 4 rfl) ?_
    obtain ⟨j_42, e_43, b_44, h⟩ := h
    refine xw_ild X hk hw xe_11 e_43 b_44 (by decide) dX10_splice_149 ?_
    refine lv_if_lt (tgt := 185) X.1 X.2.1 dX10_splice_150 (by decide) (fun c_45 => ?_) (fun c_45 => ?_)
    · skip
      replace h := h.1 c_45
      refine lv_iconst (v := 3) X.1 X.2.1 dX10_splice_185 (by decide) ?_
      exact xt_i X hr hlocks hNN hw hl h dX10_splice_186
    · skip
      replace h := h.2 c_45
      refine lv_iload_n X.1 X.2.1 dX10_splice_153 rfl (lv_at hv 5 rfl) ?_
      refine lv_if_lt (tgt := 185) X.1 X.2.1 dX10_splice_154 (by decide) (fun c_46 => ?_) (fun c_46 => ?_)
      · skip
        replace h := h.1 c_46
        refine lv_iconst (v := 3) X.1 X.2.1 dX10_splice_185 (by decide) ?_
        exact xt_i X hr hlocks hNN hw hl h dX10_splice_186
      · skip
        replace h := h.2 c_46
        refine lv_lload X.1 X.2.1 dX10_splice_157 (lv_at hv 1 rfl) ?_
        refine lv_aload_n X.1 X.2.1 dX10_splice_159 rfl (lv_at hv 2 rfl) ?_
        refine xw_get X hk hw (i := 0) 2 xe_0 rfl tlX10 (by decide) rfl tw_521 dX10_splice_160 ?_
        refine lv_iload X.1 X.2.1 dX10_splice_163 (lv_at hv 6 rfl) ?_
        obtain ⟨j_47, e_48, b_49, h⟩ := h
        refine xw_ild X hk hw xe_2 e_48 b_49 (by decide) dX10_splice_165 ?_
        refine lv_i2l (v := ((xI S 2 j_47)).toInt64) X.1 X.2.1 dX10_splice_166 rfl ?_
        refine W.lcmp X.1 X.2.1 dX10_splice_167 ?_
        refine lv_if_gt (tgt := 185) X.1 X.2.1 dX10_splice_168 (by decide) (fun c_50 => ?_) (fun c_50 => ?_)
        · skip
          replace c_50 := (lg_cmp_gt _ _).mp c_50
          replace h := h.1 c_50
          refine lv_iconst (v := 3) X.1 X.2.1 dX10_splice_185 (by decide) ?_
          exact xt_i X hr hlocks hNN hw hl h dX10_splice_186
        · skip
          replace c_50 := fun q => c_50 ((lg_cmp_gt _ _).mpr q)
          replace h := h.2 c_50
          refine lv_lload X.1 X.2.1 dX10_splice_171 (lv_at hv 0 rfl) ?_
          refine lv_aload_n X.1 X.2.1 dX10_splice_173 rfl (lv_at hv 2 rfl) ?_
          refine xw_get X hk hw (i := 0) 2 xe_0 rfl tlX10 (by decide) rfl tw_521 dX10_splice_174 ?_
          refine lv_iload X.1 X.2.1 dX10_splice_177 (lv_at hv 7 rfl) ?_
          obtain ⟨j_51, e_52, b_53, h⟩ := h
          refine xw_ild X hk hw xe_2 e_52 b_53 (by decide) dX10_splice_179 ?_
          refine lv_i2l (v := ((xI S 2 j_51)).toInt64) X.1 X.2.1 dX10_splice_180 rfl ?_
          refine W.lcmp X.1 X.2.1 dX10_splice_181 ?_
          refine lv_if_le (tgt := 187) X.1 X.2.1 dX10_splice_182 (by decide) (fun c_54 => ?_) (fun c_54 => ?_)
          · skip
            replace c_54 := (lg_cmp_le _ _).mp c_54
            replace h := h.1 c_54
            refine lv_iconst (v := 0) X.1 X.2.1 dX10_splice_187 (by decide) ?_
            refine lv_istore (lv' := [(11, .int (0)), (9, .long ((((xI S 11 j_35)).toInt64 + (a3).toInt64))), (7, .long ((((xI S 11 j_32)).toInt64 + (a3).toInt64))), (0, .ref (et (0))), (1, .int (a1)), (2, .int (a2)), (3, .int (a3)), (4, .int (a4)), (5, .int (a5)), (6, .int (a6))]) X.1 X.2.1 dX10_splice_188 hv (by decide) rfl (fun ls hv => ?_)
            obtain ⟨n_55, h⟩ := h
            exact j_X10_splice_190 X hk hr hlocks n_55 (a1) (a2) (a3) (a4) (a5) (a6) (0) S _ _ _ h hNN hw hl (lv_sub hv [3, 4, 5, 6, 7, 8, 9, 0] rfl)
          · skip
            replace c_54 := fun q => c_54 ((lg_cmp_le _ _).mpr q)
            replace h := h.2 c_54
            refine lv_iconst (v := 3) X.1 X.2.1 dX10_splice_185 (by decide) ?_
            exact xt_i X hr hlocks hNN hw hl h dX10_splice_186
set_option maxHeartbeats 4000000 in
set_option maxRecDepth 100000 in
theorem j_X10_splice_84 {l : Launch} {p : Program} {e : Env} {s : State} {m : MethodId} {args : Array Value} {below : List Frame} {meth : Method} {c : Code} {Z : xz_T} {et : Nat → Nat} {Nn : Nat → Nat} {K : Int32 → xs_T → Prop} (X : CallFix p m c cX10_splice 12 s args (wq yX10_splice cX10_splice 12 (some .int)) RX10) (hk : xk Z s) (hr : meth.sig.returnType = (some .int)) (hlocks : meth.locks = false) : ∀ (a1 : Int32) (a2 : Int32) (a3 : Int32) (a4 : Int32) (a5 : Int32) (a6 : Int32) (t0 : Int32) (t1 : Int32) (S : xs_T) (H : Heap) (locs : List Loc) (ls : Array Slot), v_X10_splice_84 K a1 a2 a3 a4 a5 a6 t0 t1 S → S.2.2.2.2 = Nn → wd Z et S H → xl Z locs → lv_has ls 12 [(0, .ref (et (0))), (1, .int (a1)), (2, .int (a2)), (3, .int (a3)), (4, .int (a4)), (5, .int (a5)), (6, .int (a6))] → W p l e (headSpec (wq yX10_splice cX10_splice 12 (some .int)) { frames := 1, cells := 0, slots := 0, locals := 23 }).room s m args below meth c H locs 0 0 (MQ below (xQi Z et Nn K) args s 0 0 (fun q => Z.2.2.1 ≤ q)) (F0 m 84 ls [.int (t0), .int (t1)]) := by
  intro a1 a2 a3 a4 a5 a6 t0 t1 S H locs ls h hNN hw hl hv
  unfold v_X10_splice_84 at h
  refine lv_icmp_ne (tgt := 109) X.1 X.2.1 dX10_splice_84 (by decide) (fun c_23 => ?_) (fun c_23 => ?_)
  · skip
    replace h := h.1 c_23
    refine lv_iconst (v := 2) X.1 X.2.1 dX10_splice_109 (by decide) ?_
    exact xt_i X hr hlocks hNN hw hl h dX10_splice_110
  · skip
    replace h := h.2 c_23
    refine lv_iload X.1 X.2.1 dX10_splice_87 (lv_at hv 6 rfl) ?_
    refine lv_if_ne (tgt := 111) X.1 X.2.1 dX10_splice_89 (by decide) (fun c_24 => ?_) (fun c_24 => ?_)
    · skip
      replace h := h.1 c_24
      exact j_X10_splice_111 X hk hr hlocks (a1) (a2) (a3) (a4) (a5) (a6) S _ _ _ h hNN hw hl (lv_sub hv [0, 1, 2, 3, 4, 5, 6] rfl)
    · skip
      replace h := h.2 c_24
      refine lv_aload_n X.1 X.2.1 dX10_splice_92 rfl (lv_at hv 0 rfl) ?_
      refine xw_get X hk hw (i := 0) 1 xe_0 rfl tlX10 (by decide) rfl tw_520 dX10_splice_93 ?_
      refine lv_iload X.1 X.2.1 dX10_splice_96 (lv_at hv 4 rfl) ?_
      obtain ⟨j_25, e_26, b_27, h⟩ := h
      refine xw_ild X hk hw xe_1 e_26 b_27 (by decide) dX10_splice_98 ?_
      refine lv_aload_n X.1 X.2.1 dX10_splice_99 rfl (lv_at hv 0 rfl) ?_
      refine xw_get X hk hw (i := 0) 1 xe_0 rfl tlX10 (by decide) rfl tw_520 dX10_splice_100 ?_
      refine lv_iload X.1 X.2.1 dX10_splice_103 (lv_at hv 5 rfl) ?_
      obtain ⟨j_28, e_29, b_30, h⟩ := h
      refine xw_ild X hk hw xe_1 e_29 b_30 (by decide) dX10_splice_105 ?_
      refine lv_icmp_eq (tgt := 111) X.1 X.2.1 dX10_splice_106 (by decide) (fun c_31 => ?_) (fun c_31 => ?_)
      · skip
        replace h := h.1 c_31
        exact j_X10_splice_111 X hk hr hlocks (a1) (a2) (a3) (a4) (a5) (a6) S _ _ _ h hNN hw hl (lv_sub hv [0, 1, 2, 3, 4, 5, 6] rfl)
      · skip
        replace h := h.2 c_31
        refine lv_iconst (v := 2) X.1 X.2.1 dX10_splice_109 (by decide) ?_
        exact xt_i X hr hlocks hNN hw hl h dX10_splice_110
set_option maxHeartbeats 4000000 in
set_option maxRecDepth 100000 in
theorem j_X10_splice_63 {l : Launch} {p : Program} {e : Env} {s : State} {m : MethodId} {args : Array Value} {below : List Frame} {meth : Method} {c : Code} {Z : xz_T} {et : Nat → Nat} {Nn : Nat → Nat} {K : Int32 → xs_T → Prop} (X : CallFix p m c cX10_splice 12 s args (wq yX10_splice cX10_splice 12 (some .int)) RX10) (hk : xk Z s) (hr : meth.sig.returnType = (some .int)) (hlocks : meth.locks = false) : ∀ (a1 : Int32) (a2 : Int32) (a3 : Int32) (a4 : Int32) (a5 : Int32) (t0 : Int32) (S : xs_T) (H : Heap) (locs : List Loc) (ls : Array Slot), v_X10_splice_63 K a1 a2 a3 a4 a5 t0 S → S.2.2.2.2 = Nn → wd Z et S H → xl Z locs → lv_has ls 12 [(0, .ref (et (0))), (1, .int (a1)), (2, .int (a2)), (3, .int (a3)), (4, .int (a4)), (5, .int (a5))] → W p l e (headSpec (wq yX10_splice cX10_splice 12 (some .int)) { frames := 1, cells := 0, slots := 0, locals := 23 }).room s m args below meth c H locs 0 0 (MQ below (xQi Z et Nn K) args s 0 0 (fun q => Z.2.2.1 ≤ q)) (F0 m 63 ls [.int (t0)]) := by
  intro a1 a2 a3 a4 a5 t0 S H locs ls h hNN hw hl hv
  unfold v_X10_splice_63 at h
  refine lv_istore (lv' := [(6, .int (t0)), (0, .ref (et (0))), (1, .int (a1)), (2, .int (a2)), (3, .int (a3)), (4, .int (a4)), (5, .int (a5))]) X.1 X.2.1 dX10_splice_63 hv (by decide) rfl (fun ls hv => ?_)
  refine lv_iload X.1 X.2.1 dX10_splice_65 (lv_at hv 0 rfl) ?_
  refine lv_aload_n X.1 X.2.1 dX10_splice_67 rfl (lv_at hv 1 rfl) ?_
  refine xw_get X hk hw (i := 0) 1 xe_0 rfl tlX10 (by decide) rfl tw_520 dX10_splice_68 ?_
  refine lv_iload X.1 X.2.1 dX10_splice_71 (lv_at hv 6 rfl) ?_
  obtain ⟨j_19, e_20, b_21, h⟩ := h
  refine xw_ild X hk hw xe_1 e_20 b_21 (by decide) dX10_splice_73 ?_
  refine lv_bipush (v := 8) X.1 X.2.1 dX10_splice_74 (by decide) ?_
  refine lv_icmp_lt (tgt := 83) X.1 X.2.1 dX10_splice_76 (by decide) (fun c_22 => ?_) (fun c_22 => ?_)
  · skip
    replace h := h.1 c_22
    refine lv_iconst (v := 0) X.1 X.2.1 dX10_splice_83 (by decide) ?_
    exact j_X10_splice_84 X hk hr hlocks (a1) (a2) (a3) (a4) (a5) (t0) (0) (t0) S _ _ _ h hNN hw hl (lv_sub hv [1, 2, 3, 4, 5, 6, 0] rfl)
  · skip
    replace h := h.2 c_22
    refine lv_iconst (v := 1) X.1 X.2.1 dX10_splice_79 (by decide) ?_
    refine lv_goto (tgt := 84) X.1 X.2.1 dX10_splice_80 (by decide) ?_
    exact j_X10_splice_84 X hk hr hlocks (a1) (a2) (a3) (a4) (a5) (t0) (1) (t0) S _ _ _ h hNN hw hl (lv_sub hv [1, 2, 3, 4, 5, 6, 0] rfl)
set_option maxHeartbeats 4000000 in
set_option maxRecDepth 100000 in
theorem c_X10_splice (l : Launch) (Z : xz_T) (et : Nat → Nat) (S : xs_T) (x1 : Int32) (x2 : Int32) (x3 : Int32) (K : Int32 → xs_T → Prop) (h : v_X10_splice x1 x2 x3 S K) : Met l yX10_splice (wq yX10_splice cX10_splice 12 (some .int)) { frames := 1, cells := 0, slots := 0, locals := 23 } (xPc Z et S [.ref (et (0)), .int (x1), .int (x2), .int (x3)]) (xQi Z et S.2.2.2.2 K) 0 0 (fun q => Z.2.2.1 ≤ q) := by
  refine Met.ofW (cc := cX10_splice) (maxL := 12) (ret := (some .int)) (by decide +kernel) rfl ?_
  intro p e s m args below meth c s₁ B hml hv0
  obtain ⟨rfl, hk, hw⟩ := hv0
  have X : CallFix p m c cX10_splice 12 s _ (wq yX10_splice cX10_splice 12 (some .int)) RX10 := ⟨B.exec, B.bytes, hml, findClass_of_methodNamed B.named, atoms_spec (ws := (wq yX10_splice cX10_splice 12 (some .int))) B.pre⟩
  have hr := B.returns
  have hlocks := B.notSynchronized
  have hl : xl Z [] := fun _ h => by cases h
  have hNN : S.2.2.2.2 = S.2.2.2.2 := rfl
  have hv := lv_entry [.ref (et (0)), .int (x1), .int (x2), .int (x3)] (n := 12) (Nat.le_of_ble_eq_true rfl)
  rw [lg_entry_eq]
  generalize (lg_sl [.ref (et (0)), .int (x1), .int (x2), .int (x3)] ++ List.replicate (12 - (lg_sl [.ref (et (0)), .int (x1), .int (x2), .int (x3)]).length) Slot.unset).toArray = ls at hv ⊢
  replace hv : lv_has ls 12 [(0, .ref (et (0))), (1, .int (x1)), (2, .int (x2)), (3, .int (x3))] := hv
  unfold v_X10_splice at h
  refine lv_aload_n X.1 X.2.1 dX10_splice_0 rfl (lv_at hv 0 rfl) ?_
  refine xw_get X hk hw (i := 0) 9 xe_0 rfl tlX10 (by decide) rfl tw_528 dX10_splice_1 ?_
  refine lv_iload_n X.1 X.2.1 dX10_splice_4 rfl (lv_at hv 1 rfl) ?_
  obtain ⟨j_1, e_2, b_3, h⟩ := h
  refine xw_ild X hk hw xe_9 e_2 b_3 (by decide) dX10_splice_5 ?_
  refine lv_if_eq (tgt := 18) X.1 X.2.1 dX10_splice_6 (by decide) (fun c_4 => ?_) (fun c_4 => ?_)
  · skip
    replace h := h.1 c_4
    refine lv_iconst (v := 1) X.1 X.2.1 dX10_splice_18 (by decide) ?_
    exact xt_i X hr hlocks hNN hw hl h dX10_splice_19
  · skip
    replace h := h.2 c_4
    refine lv_aload_n X.1 X.2.1 dX10_splice_9 rfl (lv_at hv 0 rfl) ?_
    refine xw_get X hk hw (i := 0) 9 xe_0 rfl tlX10 (by decide) rfl tw_528 dX10_splice_10 ?_
    refine lv_iload_n X.1 X.2.1 dX10_splice_13 rfl (lv_at hv 2 rfl) ?_
    obtain ⟨j_5, e_6, b_7, h⟩ := h
    refine xw_ild X hk hw xe_9 e_6 b_7 (by decide) dX10_splice_14 ?_
    refine lv_if_ne (tgt := 20) X.1 X.2.1 dX10_splice_15 (by decide) (fun c_8 => ?_) (fun c_8 => ?_)
    · skip
      replace h := h.1 c_8
      refine lv_aload_n X.1 X.2.1 dX10_splice_20 rfl (lv_at hv 0 rfl) ?_
      refine lv_iload_n X.1 X.2.1 dX10_splice_21 rfl (lv_at hv 1 rfl) ?_
      refine xc_i (xr_V (n := 1) (As := [.int (x1)]) (i := 0) X hk hw hv.1 (c_X10_rowOn l Z et S (x1) _ h) (tb_V tw_629 tw_626 tw_628 tw_18 tw_44) xe_0 rfl rfl rfl rfl (by decide +kernel) ⟨Nat.le_of_ble_eq_true rfl, Nat.le_of_ble_eq_true rfl⟩ rfl (Nat.le_of_ble_eq_true rfl) dX10_splice_22 ⟨Nat.le_of_ble_eq_true rfl, Nat.le_of_ble_eq_true rfl⟩) hl (fun r_10 S_9 H locs h hN hw hl => ?_)
      replace hNN := hN.trans hNN
      refine lv_istore (lv' := [(4, .int (r_10)), (0, .ref (et (0))), (1, .int (x1)), (2, .int (x2)), (3, .int (x3))]) X.1 X.2.1 dX10_splice_25 hv (by decide) rfl (fun ls hv => ?_)
      refine lv_aload_n X.1 X.2.1 dX10_splice_27 rfl (lv_at hv 1 rfl) ?_
      refine lv_iload_n X.1 X.2.1 dX10_splice_28 rfl (lv_at hv 3 rfl) ?_
      refine xc_i (xr_V (n := 1) (As := [.int (x2)]) (i := 0) X hk hw hv.1 (c_X10_rowOn l Z et S_9 (x2) _ h) (tb_V tw_629 tw_626 tw_628 tw_18 tw_44) xe_0 rfl rfl rfl rfl (by decide +kernel) ⟨Nat.le_of_ble_eq_true rfl, Nat.le_of_ble_eq_true rfl⟩ rfl (Nat.le_of_ble_eq_true rfl) dX10_splice_29 ⟨Nat.le_of_ble_eq_true rfl, Nat.le_of_ble_eq_true rfl⟩) hl (fun r_12 S_11 H locs h hN hw hl => ?_)
      replace hNN := hN.trans hNN
      refine lv_istore (lv' := [(5, .int (r_12)), (4, .int (r_10)), (0, .ref (et (0))), (1, .int (x1)), (2, .int (x2)), (3, .int (x3))]) X.1 X.2.1 dX10_splice_32 hv (by decide) rfl (fun ls hv => ?_)
      refine lv_iload X.1 X.2.1 dX10_splice_34 (lv_at hv 1 rfl) ?_
      refine lv_if_lt (tgt := 44) X.1 X.2.1 dX10_splice_36 (by decide) (fun c_13 => ?_) (fun c_13 => ?_)
      · skip
        replace h := h.1 c_13
        refine lv_iconst (v := 2) X.1 X.2.1 dX10_splice_44 (by decide) ?_
        exact xt_i X hr hlocks hNN hw hl h dX10_splice_45
      · skip
        replace h := h.2 c_13
        refine lv_iload X.1 X.2.1 dX10_splice_39 (lv_at hv 0 rfl) ?_
        refine lv_if_ge (tgt := 46) X.1 X.2.1 dX10_splice_41 (by decide) (fun c_14 => ?_) (fun c_14 => ?_)
        · skip
          replace h := h.1 c_14
          refine lv_aload_n X.1 X.2.1 dX10_splice_46 rfl (lv_at hv 2 rfl) ?_
          refine xw_get X hk hw (i := 0) 1 xe_0 rfl tlX10 (by decide) rfl tw_520 dX10_splice_47 ?_
          refine lv_iload X.1 X.2.1 dX10_splice_50 (lv_at hv 1 rfl) ?_
          obtain ⟨j_15, e_16, b_17, h⟩ := h
          refine xw_ild X hk hw xe_1 e_16 b_17 (by decide) dX10_splice_52 ?_
          refine lv_bipush (v := 8) X.1 X.2.1 dX10_splice_53 (by decide) ?_
          refine lv_icmp_lt (tgt := 62) X.1 X.2.1 dX10_splice_55 (by decide) (fun c_18 => ?_) (fun c_18 => ?_)
          · skip
            replace h := h.1 c_18
            refine lv_iconst (v := 0) X.1 X.2.1 dX10_splice_62 (by decide) ?_
            exact j_X10_splice_63 X hk hr hlocks (x1) (x2) (x3) (r_10) (r_12) (0) S_11 _ _ _ h hNN hw hl (lv_sub hv [2, 3, 4, 5, 1, 0] rfl)
          · skip
            replace h := h.2 c_18
            refine lv_iconst (v := 1) X.1 X.2.1 dX10_splice_58 (by decide) ?_
            refine lv_goto (tgt := 63) X.1 X.2.1 dX10_splice_59 (by decide) ?_
            exact j_X10_splice_63 X hk hr hlocks (x1) (x2) (x3) (r_10) (r_12) (1) S_11 _ _ _ h hNN hw hl (lv_sub hv [2, 3, 4, 5, 1, 0] rfl)
        · skip
          replace h := h.2 c_14
          refine lv_iconst (v := 2) X.1 X.2.1 dX10_splice_44 (by decide) ?_
          exact xt_i X hr hlocks hNN hw hl h dX10_splice_45
    · skip
      replace h := h.2 c_8
      refine lv_iconst (v := 1) X.1 X.2.1 dX10_splice_18 (by decide) ?_
      exact xt_i X hr hlocks hNN hw hl h dX10_splice_19
def v_X10_swap (x1 : Int32) (x2 : Int32) (S : xs_T) (K : xs_T → Prop) : Prop := ∃ j_1 : Nat, x1 = nI j_1 ∧ j_1 < 10 ∧ ∃ j_4 : Nat, x1 = nI j_4 ∧ j_4 < 10 ∧ ∃ j_7 : Nat, x2 = nI j_7 ∧ j_7 < 10 ∧ ∃ j_10 : Nat, x2 = nI j_10 ∧ j_10 < 10 ∧ v_X10_hold (x1) ((xI S 9 j_7)) ((xI S 10 j_10)) S (fun (S_13 : xs_T) => v_X10_hold (x2) ((xI S 9 j_1)) ((xI S 10 j_4)) S_13 (fun (S_15 : xs_T) => K S_15))
set_option maxHeartbeats 4000000 in
set_option maxRecDepth 100000 in
theorem c_X10_swap (l : Launch) (Z : xz_T) (et : Nat → Nat) (S : xs_T) (x1 : Int32) (x2 : Int32) (K : xs_T → Prop) (h : v_X10_swap x1 x2 S K) : Met l yX10_swap (wq yX10_swap cX10_swap 5 none) { frames := 1, cells := 0, slots := 0, locals := 23 } (xPc Z et S [.ref (et (0)), .int (x1), .int (x2)]) (xQv Z et S.2.2.2.2 K) 0 0 (fun q => Z.2.2.1 ≤ q) := by
  refine Met.ofW (cc := cX10_swap) (maxL := 5) (ret := none) (by decide +kernel) rfl ?_
  intro p e s m args below meth c s₁ B hml hv0
  obtain ⟨rfl, hk, hw⟩ := hv0
  have X : CallFix p m c cX10_swap 5 s _ (wq yX10_swap cX10_swap 5 none) RX10 := ⟨B.exec, B.bytes, hml, findClass_of_methodNamed B.named, atoms_spec (ws := (wq yX10_swap cX10_swap 5 none)) B.pre⟩
  have hr := B.returns
  have hlocks := B.notSynchronized
  have hl : xl Z [] := fun _ h => by cases h
  have hNN : S.2.2.2.2 = S.2.2.2.2 := rfl
  have hv := lv_entry [.ref (et (0)), .int (x1), .int (x2)] (n := 5) (Nat.le_of_ble_eq_true rfl)
  rw [lg_entry_eq]
  generalize (lg_sl [.ref (et (0)), .int (x1), .int (x2)] ++ List.replicate (5 - (lg_sl [.ref (et (0)), .int (x1), .int (x2)]).length) Slot.unset).toArray = ls at hv ⊢
  replace hv : lv_has ls 5 [(0, .ref (et (0))), (1, .int (x1)), (2, .int (x2))] := hv
  unfold v_X10_swap at h
  refine lv_aload_n X.1 X.2.1 dX10_swap_0 rfl (lv_at hv 0 rfl) ?_
  refine xw_get X hk hw (i := 0) 9 xe_0 rfl tlX10 (by decide) rfl tw_528 dX10_swap_1 ?_
  refine lv_iload_n X.1 X.2.1 dX10_swap_4 rfl (lv_at hv 1 rfl) ?_
  obtain ⟨j_1, e_2, b_3, h⟩ := h
  refine xw_ild X hk hw xe_9 e_2 b_3 (by decide) dX10_swap_5 ?_
  refine lv_istore_n (lv' := [(3, .int ((xI S 9 j_1))), (0, .ref (et (0))), (1, .int (x1)), (2, .int (x2))]) X.1 X.2.1 dX10_swap_6 rfl hv (by decide) rfl (fun ls hv => ?_)
  refine lv_aload_n X.1 X.2.1 dX10_swap_7 rfl (lv_at hv 1 rfl) ?_
  refine xw_get X hk hw (i := 0) 10 xe_0 rfl tlX10 (by decide) rfl tw_529 dX10_swap_8 ?_
  refine lv_iload_n X.1 X.2.1 dX10_swap_11 rfl (lv_at hv 2 rfl) ?_
  obtain ⟨j_4, e_5, b_6, h⟩ := h
  refine xw_ild X hk hw xe_10 e_5 b_6 (by decide) dX10_swap_12 ?_
  refine lv_istore (lv' := [(4, .int ((xI S 10 j_4))), (3, .int ((xI S 9 j_1))), (0, .ref (et (0))), (1, .int (x1)), (2, .int (x2))]) X.1 X.2.1 dX10_swap_13 hv (by decide) rfl (fun ls hv => ?_)
  refine lv_aload_n X.1 X.2.1 dX10_swap_15 rfl (lv_at hv 2 rfl) ?_
  refine lv_iload_n X.1 X.2.1 dX10_swap_16 rfl (lv_at hv 3 rfl) ?_
  refine lv_aload_n X.1 X.2.1 dX10_swap_17 rfl (lv_at hv 2 rfl) ?_
  refine xw_get X hk hw (i := 0) 9 xe_0 rfl tlX10 (by decide) rfl tw_528 dX10_swap_18 ?_
  refine lv_iload_n X.1 X.2.1 dX10_swap_21 rfl (lv_at hv 4 rfl) ?_
  obtain ⟨j_7, e_8, b_9, h⟩ := h
  refine xw_ild X hk hw xe_9 e_8 b_9 (by decide) dX10_swap_22 ?_
  refine lv_aload_n X.1 X.2.1 dX10_swap_23 rfl (lv_at hv 2 rfl) ?_
  refine xw_get X hk hw (i := 0) 10 xe_0 rfl tlX10 (by decide) rfl tw_529 dX10_swap_24 ?_
  refine lv_iload_n X.1 X.2.1 dX10_swap_27 rfl (lv_at hv 4 rfl) ?_
  obtain ⟨j_10, e_11, b_12, h⟩ := h
  refine xw_ild X hk hw xe_10 e_11 b_12 (by decide) dX10_swap_28 ?_
  refine xc_v (xr_V (n := 3) (As := [.int (x1), .int ((xI S 9 j_7)), .int ((xI S 10 j_10))]) (i := 0) X hk hw hv.1 (c_X10_hold l Z et S (x1) ((xI S 9 j_7)) ((xI S 10 j_10)) _ h) (tb_V tw_665 tw_662 tw_664 tw_27 tw_44) xe_0 rfl rfl rfl rfl (by decide +kernel) ⟨Nat.le_of_ble_eq_true rfl, Nat.le_of_ble_eq_true rfl⟩ rfl (Nat.le_of_ble_eq_true rfl) dX10_swap_29 ⟨Nat.le_of_ble_eq_true rfl, Nat.le_of_ble_eq_true rfl⟩) hl (fun S_13 H locs h hN hw hl => ?_)
  replace hNN := hN.trans hNN
  refine lv_aload_n X.1 X.2.1 dX10_swap_32 rfl (lv_at hv 2 rfl) ?_
  refine lv_iload_n X.1 X.2.1 dX10_swap_33 rfl (lv_at hv 4 rfl) ?_
  refine lv_iload_n X.1 X.2.1 dX10_swap_34 rfl (lv_at hv 1 rfl) ?_
  refine lv_iload X.1 X.2.1 dX10_swap_35 (lv_at hv 0 rfl) ?_
  refine xc_v (xr_V (n := 3) (As := [.int (x2), .int ((xI S 9 j_1)), .int ((xI S 10 j_4))]) (i := 0) X hk hw hv.1 (c_X10_hold l Z et S_13 (x2) ((xI S 9 j_1)) ((xI S 10 j_4)) _ h) (tb_V tw_665 tw_662 tw_664 tw_27 tw_44) xe_0 rfl rfl rfl rfl (by decide +kernel) ⟨Nat.le_of_ble_eq_true rfl, Nat.le_of_ble_eq_true rfl⟩ rfl (Nat.le_of_ble_eq_true rfl) dX10_swap_37 ⟨Nat.le_of_ble_eq_true rfl, Nat.le_of_ble_eq_true rfl⟩) hl (fun S_15 H locs h hN hw hl => ?_)
  replace hNN := hN.trans hNN
  exact xt_v X hr hlocks hNN hw hl h dX10_swap_40
def v_X10_turn_101 (K : Int32 → xs_T → Prop) : Nat → Int32 → Int32 → Int32 → xs_T → Prop
  | 0, _, _, _, _ => False
  | n + 1, a3, a4, a5, S => ((a4 ≤ a5 → K (0) S) ∧ (¬ a4 ≤ a5 → ∃ j_39 : Nat, a3 = nI j_39 ∧ j_39 < 120 ∧ ∃ j_42 : Nat, a5 = nI j_42 ∧ j_42 < 64 ∧ ∃ j_45 : Nat, ((xI S 3 j_39) + a5) = nI j_45 ∧ j_45 < 3000 ∧ ∀ S_48 : xs_T, S_48 = sL S 5 j_45 ((xL S 22 j_42)) → v_X10_turn_101 K n (a3) (a4) ((a5 + 1)) S_48))
def v_X10_turn_34 (K : Int32 → xs_T → Prop) : Nat → Int32 → Int32 → Int32 → Int32 → xs_T → Prop
  | 0, _, _, _, _, _ => False
  | n + 1, a2, a3, a4, a5, S => ((a4 ≤ a5 → ∃ n, v_X10_turn_101 K n (a3) (a4) (0) S) ∧ (¬ a4 ≤ a5 → (¬ (a4).toInt64 = 0) ∧ ((0 ≤ ((((a5).toInt64 + (a2).toInt64) - ((a5).toInt64 + (a2).toInt64) / (a4).toInt64 * (a4).toInt64)).toInt32 → ∃ j_16 : Nat, a3 = nI j_16 ∧ j_16 < 120 ∧ ∃ j_19 : Nat, ((xI S 3 j_16) + ((((a5).toInt64 + (a2).toInt64) - ((a5).toInt64 + (a2).toInt64) / (a4).toInt64 * (a4).toInt64)).toInt32) = nI j_19 ∧ j_19 < 3000 ∧ ∃ j_22 : Nat, a5 = nI j_22 ∧ j_22 < 64 ∧ ∀ S_25 : xs_T, S_25 = sL S 22 j_22 ((xL S 5 j_19)) → v_X10_turn_34 K n (a2) (a3) (a4) ((a5 + 1)) S_25) ∧ (¬ 0 ≤ ((((a5).toInt64 + (a2).toInt64) - ((a5).toInt64 + (a2).toInt64) / (a4).toInt64 * (a4).toInt64)).toInt32 → ∃ j_27 : Nat, a3 = nI j_27 ∧ j_27 < 120 ∧ ∃ j_30 : Nat, ((xI S 3 j_27) + (((((a5).toInt64 + (a2).toInt64) - ((a5).toInt64 + (a2).toInt64) / (a4).toInt64 * (a4).toInt64)).toInt32 + a4)) = nI j_30 ∧ j_30 < 3000 ∧ ∃ j_33 : Nat, a5 = nI j_33 ∧ j_33 < 64 ∧ ∀ S_36 : xs_T, S_36 = sL S 22 j_33 ((xL S 5 j_30)) → v_X10_turn_34 K n (a2) (a3) (a4) ((a5 + 1)) S_36))))
def v_X10_turn (x1 : Int32) (x2 : Int32) (S : xs_T) (K : Int32 → xs_T → Prop) : Prop := ∃ j_1 : Nat, x1 = nI j_1 ∧ j_1 < 10 ∧ ((¬ (xI S 9 j_1) = 0 → v_X10_rowOn (x1) S (fun (r_6 : Int32) (S_5 : xs_T) => ((0 ≤ r_6 → ∃ j_8 : Nat, r_6 = nI j_8 ∧ j_8 < 120 ∧ ∃ n, v_X10_turn_34 K n (x2) (r_6) ((xI S_5 2 j_8)) (0) S_5) ∧ (¬ 0 ≤ r_6 → K (2) S_5)))) ∧ ((xI S 9 j_1) = 0 → K (1) S))
set_option maxHeartbeats 4000000 in
set_option maxRecDepth 100000 in
theorem j_X10_turn_101 {l : Launch} {p : Program} {e : Env} {s : State} {m : MethodId} {args : Array Value} {below : List Frame} {meth : Method} {c : Code} {Z : xz_T} {et : Nat → Nat} {Nn : Nat → Nat} {K : Int32 → xs_T → Prop} (X : CallFix p m c cX10_turn 7 s args (wq yX10_turn cX10_turn 7 (some .int)) RX10) (hk : xk Z s) (hr : meth.sig.returnType = (some .int)) (hlocks : meth.locks = false) : ∀ (n : Nat) (a3 : Int32) (a4 : Int32) (a5 : Int32) (S : xs_T) (H : Heap) (locs : List Loc) (ls : Array Slot), v_X10_turn_101 K n a3 a4 a5 S → S.2.2.2.2 = Nn → wd Z et S H → xl Z locs → lv_has ls 7 [(0, .ref (et (0))), (3, .int (a3)), (4, .int (a4)), (5, .int (a5))] → W p l e (headSpec (wq yX10_turn cX10_turn 7 (some .int)) { frames := 1, cells := 0, slots := 0, locals := 21 }).room s m args below meth c H locs 0 0 (MQ below (xQi Z et Nn K) args s 0 0 (fun q => Z.2.2.1 ≤ q)) (F0 m 101 ls []) := by
  intro n
  induction n with
  | zero =>
    intro a3 a4 a5 S H locs ls h hNN hw hl hv
    exact False.elim h
  | succ n ih =>
    intro a3 a4 a5 S H locs ls h hNN hw hl hv
    rw [v_X10_turn_101] at h
    refine lv_iload X.1 X.2.1 dX10_turn_101 (lv_at hv 3 rfl) ?_
    refine lv_iload X.1 X.2.1 dX10_turn_103 (lv_at hv 2 rfl) ?_
    refine lv_icmp_ge (tgt := 135) X.1 X.2.1 dX10_turn_105 (by decide) (fun c_38 => ?_) (fun c_38 => ?_)
    · skip
      replace h := h.1 c_38
      refine lv_iconst (v := 0) X.1 X.2.1 dX10_turn_135 (by decide) ?_
      exact xt_i X hr hlocks hNN hw hl h dX10_turn_136
    · skip
      replace h := h.2 c_38
      refine lv_aload_n X.1 X.2.1 dX10_turn_108 rfl (lv_at hv 0 rfl) ?_
      refine xw_get X hk hw (i := 0) 5 xe_0 rfl tlX10 (by decide) rfl tw_524 dX10_turn_109 ?_
      refine lv_aload_n X.1 X.2.1 dX10_turn_112 rfl (lv_at hv 0 rfl) ?_
      refine xw_get X hk hw (i := 0) 3 xe_0 rfl tlX10 (by decide) rfl tw_522 dX10_turn_113 ?_
      refine lv_iload_n X.1 X.2.1 dX10_turn_116 rfl (lv_at hv 1 rfl) ?_
      obtain ⟨j_39, e_40, b_41, h⟩ := h
      refine xw_ild X hk hw xe_3 e_40 b_41 (by decide) dX10_turn_117 ?_
      refine lv_iload X.1 X.2.1 dX10_turn_118 (lv_at hv 3 rfl) ?_
      refine lv_iadd X.1 X.2.1 dX10_turn_120 ?_
      refine lv_aload_n X.1 X.2.1 dX10_turn_121 rfl (lv_at hv 0 rfl) ?_
      refine xw_get X hk hw (i := 0) 22 xe_0 rfl tlX10 (by decide) rfl tw_541 dX10_turn_122 ?_
      refine lv_iload X.1 X.2.1 dX10_turn_125 (lv_at hv 3 rfl) ?_
      obtain ⟨j_42, e_43, b_44, h⟩ := h
      refine xw_lld X hk hw xe_22 e_43 b_44 (by decide) dX10_turn_127 ?_
      obtain ⟨j_45, e_46, b_47, h⟩ := h
      refine xw_lst X hk hw hl xe_5 rfl e_46 b_47 (by decide) dX10_turn_128 (fun H locs hw hl => ?_)
      obtain ⟨S_48, e_49⟩ : ∃ T : xs_T, T = sL S 5 j_45 ((xL S 22 j_42)) := ⟨_, rfl⟩
      rw [← e_49] at hw
      replace h := h S_48 e_49
      have hN : S_48.2.2.2.2 = S.2.2.2.2 := by rw [e_49]; rfl
      replace hNN := hN.trans hNN
      refine lv_iinc (v := (a5 + 1)) (lv' := [(5, .int ((a5 + 1))), (0, .ref (et (0))), (3, .int (a3)), (4, .int (a4))]) X.1 X.2.1 dX10_turn_129 hv (k := 3) rfl rfl (by decide) rfl (fun ls hv => ?_)
      refine lv_goto (tgt := 101) X.1 X.2.1 dX10_turn_132 (by decide) ?_
      exact ih (a3) (a4) ((a5 + 1)) S_48 _ _ _ h hNN hw hl (lv_sub hv [1, 2, 3, 0] rfl)
set_option maxHeartbeats 4000000 in
set_option maxRecDepth 100000 in
theorem j_X10_turn_34 {l : Launch} {p : Program} {e : Env} {s : State} {m : MethodId} {args : Array Value} {below : List Frame} {meth : Method} {c : Code} {Z : xz_T} {et : Nat → Nat} {Nn : Nat → Nat} {K : Int32 → xs_T → Prop} (X : CallFix p m c cX10_turn 7 s args (wq yX10_turn cX10_turn 7 (some .int)) RX10) (hk : xk Z s) (hr : meth.sig.returnType = (some .int)) (hlocks : meth.locks = false) : ∀ (n : Nat) (a2 : Int32) (a3 : Int32) (a4 : Int32) (a5 : Int32) (S : xs_T) (H : Heap) (locs : List Loc) (ls : Array Slot), v_X10_turn_34 K n a2 a3 a4 a5 S → S.2.2.2.2 = Nn → wd Z et S H → xl Z locs → lv_has ls 7 [(0, .ref (et (0))), (2, .int (a2)), (3, .int (a3)), (4, .int (a4)), (5, .int (a5))] → W p l e (headSpec (wq yX10_turn cX10_turn 7 (some .int)) { frames := 1, cells := 0, slots := 0, locals := 21 }).room s m args below meth c H locs 0 0 (MQ below (xQi Z et Nn K) args s 0 0 (fun q => Z.2.2.1 ≤ q)) (F0 m 34 ls []) := by
  intro n
  induction n with
  | zero =>
    intro a2 a3 a4 a5 S H locs ls h hNN hw hl hv
    exact False.elim h
  | succ n ih =>
    intro a2 a3 a4 a5 S H locs ls h hNN hw hl hv
    rw [v_X10_turn_34] at h
    refine lv_iload X.1 X.2.1 dX10_turn_34 (lv_at hv 4 rfl) ?_
    refine lv_iload X.1 X.2.1 dX10_turn_36 (lv_at hv 3 rfl) ?_
    refine lv_icmp_ge (tgt := 98) X.1 X.2.1 dX10_turn_38 (by decide) (fun c_12 => ?_) (fun c_12 => ?_)
    · skip
      replace h := h.1 c_12
      refine lv_iconst (v := 0) X.1 X.2.1 dX10_turn_98 (by decide) ?_
      refine lv_istore (lv' := [(5, .int (0)), (0, .ref (et (0))), (2, .int (a2)), (3, .int (a3)), (4, .int (a4))]) X.1 X.2.1 dX10_turn_99 hv (by decide) rfl (fun ls hv => ?_)
      obtain ⟨n_13, h⟩ := h
      exact j_X10_turn_101 X hk hr hlocks n_13 (a3) (a4) (0) S _ _ _ h hNN hw hl (lv_sub hv [1, 3, 4, 0] rfl)
    · skip
      replace h := h.2 c_12
      refine lv_iload X.1 X.2.1 dX10_turn_41 (lv_at hv 4 rfl) ?_
      refine lv_i2l (v := (a5).toInt64) X.1 X.2.1 dX10_turn_43 rfl ?_
      refine lv_iload_n X.1 X.2.1 dX10_turn_44 rfl (lv_at hv 1 rfl) ?_
      refine lv_i2l (v := (a2).toInt64) X.1 X.2.1 dX10_turn_45 rfl ?_
      refine lv_ladd X.1 X.2.1 dX10_turn_46 ?_
      refine lv_iload X.1 X.2.1 dX10_turn_47 (lv_at hv 3 rfl) ?_
      refine lv_i2l (v := (a4).toInt64) X.1 X.2.1 dX10_turn_49 rfl ?_
      obtain ⟨c_14, h⟩ := h
      refine lv_lrem X.1 X.2.1 dX10_turn_50 c_14 ?_
      refine lv_l2i (v := ((((a5).toInt64 + (a2).toInt64) - ((a5).toInt64 + (a2).toInt64) / (a4).toInt64 * (a4).toInt64)).toInt32) X.1 X.2.1 dX10_turn_51 rfl ?_
      refine lv_istore (lv' := [(6, .int (((((a5).toInt64 + (a2).toInt64) - ((a5).toInt64 + (a2).toInt64) / (a4).toInt64 * (a4).toInt64)).toInt32)), (0, .ref (et (0))), (2, .int (a2)), (3, .int (a3)), (4, .int (a4)), (5, .int (a5))]) X.1 X.2.1 dX10_turn_52 hv (by decide) rfl (fun ls hv => ?_)
      refine lv_iload X.1 X.2.1 dX10_turn_54 (lv_at hv 0 rfl) ?_
      refine lv_if_ge (tgt := 67) X.1 X.2.1 dX10_turn_56 (by decide) (fun c_15 => ?_) (fun c_15 => ?_)
      · skip
        replace h := h.1 c_15
        refine lv_iload X.1 X.2.1 dX10_turn_67 (lv_at hv 0 rfl) ?_
        refine lv_istore (lv' := [(6, .int (((((a5).toInt64 + (a2).toInt64) - ((a5).toInt64 + (a2).toInt64) / (a4).toInt64 * (a4).toInt64)).toInt32)), (0, .ref (et (0))), (2, .int (a2)), (3, .int (a3)), (4, .int (a4)), (5, .int (a5))]) X.1 X.2.1 dX10_turn_69 hv (by decide) rfl (fun ls hv => ?_)
        refine lv_aload_n X.1 X.2.1 dX10_turn_71 rfl (lv_at hv 1 rfl) ?_
        refine xw_get X hk hw (i := 0) 22 xe_0 rfl tlX10 (by decide) rfl tw_541 dX10_turn_72 ?_
        refine lv_iload X.1 X.2.1 dX10_turn_75 (lv_at hv 5 rfl) ?_
        refine lv_aload_n X.1 X.2.1 dX10_turn_77 rfl (lv_at hv 1 rfl) ?_
        refine xw_get X hk hw (i := 0) 5 xe_0 rfl tlX10 (by decide) rfl tw_524 dX10_turn_78 ?_
        refine lv_aload_n X.1 X.2.1 dX10_turn_81 rfl (lv_at hv 1 rfl) ?_
        refine xw_get X hk hw (i := 0) 3 xe_0 rfl tlX10 (by decide) rfl tw_522 dX10_turn_82 ?_
        refine lv_iload_n X.1 X.2.1 dX10_turn_85 rfl (lv_at hv 3 rfl) ?_
        obtain ⟨j_16, e_17, b_18, h⟩ := h
        refine xw_ild X hk hw xe_3 e_17 b_18 (by decide) dX10_turn_86 ?_
        refine lv_iload X.1 X.2.1 dX10_turn_87 (lv_at hv 0 rfl) ?_
        refine lv_iadd X.1 X.2.1 dX10_turn_89 ?_
        obtain ⟨j_19, e_20, b_21, h⟩ := h
        refine xw_lld X hk hw xe_5 e_20 b_21 (by decide) dX10_turn_90 ?_
        obtain ⟨j_22, e_23, b_24, h⟩ := h
        refine xw_lst X hk hw hl xe_22 rfl e_23 b_24 (by decide) dX10_turn_91 (fun H locs hw hl => ?_)
        obtain ⟨S_25, e_26⟩ : ∃ T : xs_T, T = sL S 22 j_22 ((xL S 5 j_19)) := ⟨_, rfl⟩
        rw [← e_26] at hw
        replace h := h S_25 e_26
        have hN : S_25.2.2.2.2 = S.2.2.2.2 := by rw [e_26]; rfl
        replace hNN := hN.trans hNN
        refine lv_iinc (v := (a5 + 1)) (lv' := [(5, .int ((a5 + 1))), (6, .int (((((a5).toInt64 + (a2).toInt64) - ((a5).toInt64 + (a2).toInt64) / (a4).toInt64 * (a4).toInt64)).toInt32)), (0, .ref (et (0))), (2, .int (a2)), (3, .int (a3)), (4, .int (a4))]) X.1 X.2.1 dX10_turn_92 hv (k := 5) rfl rfl (by decide) rfl (fun ls hv => ?_)
        refine lv_goto (tgt := 34) X.1 X.2.1 dX10_turn_95 (by decide) ?_
        exact ih (a2) (a3) (a4) ((a5 + 1)) S_25 _ _ _ h hNN hw hl (lv_sub hv [2, 3, 4, 5, 0] rfl)
      · skip
        replace h := h.2 c_15
        refine lv_iload X.1 X.2.1 dX10_turn_59 (lv_at hv 0 rfl) ?_
        refine lv_iload X.1 X.2.1 dX10_turn_61 (lv_at hv 4 rfl) ?_
        refine lv_iadd X.1 X.2.1 dX10_turn_63 ?_
        refine lv_goto (tgt := 69) X.1 X.2.1 dX10_turn_64 (by decide) ?_
        refine lv_istore (lv' := [(6, .int ((((((a5).toInt64 + (a2).toInt64) - ((a5).toInt64 + (a2).toInt64) / (a4).toInt64 * (a4).toInt64)).toInt32 + a4))), (0, .ref (et (0))), (2, .int (a2)), (3, .int (a3)), (4, .int (a4)), (5, .int (a5))]) X.1 X.2.1 dX10_turn_69 hv (by decide) rfl (fun ls hv => ?_)
        refine lv_aload_n X.1 X.2.1 dX10_turn_71 rfl (lv_at hv 1 rfl) ?_
        refine xw_get X hk hw (i := 0) 22 xe_0 rfl tlX10 (by decide) rfl tw_541 dX10_turn_72 ?_
        refine lv_iload X.1 X.2.1 dX10_turn_75 (lv_at hv 5 rfl) ?_
        refine lv_aload_n X.1 X.2.1 dX10_turn_77 rfl (lv_at hv 1 rfl) ?_
        refine xw_get X hk hw (i := 0) 5 xe_0 rfl tlX10 (by decide) rfl tw_524 dX10_turn_78 ?_
        refine lv_aload_n X.1 X.2.1 dX10_turn_81 rfl (lv_at hv 1 rfl) ?_
        refine xw_get X hk hw (i := 0) 3 xe_0 rfl tlX10 (by decide) rfl tw_522 dX10_turn_82 ?_
        refine lv_iload_n X.1 X.2.1 dX10_turn_85 rfl (lv_at hv 3 rfl) ?_
        obtain ⟨j_27, e_28, b_29, h⟩ := h
        refine xw_ild X hk hw xe_3 e_28 b_29 (by decide) dX10_turn_86 ?_
        refine lv_iload X.1 X.2.1 dX10_turn_87 (lv_at hv 0 rfl) ?_
        refine lv_iadd X.1 X.2.1 dX10_turn_89 ?_
        obtain ⟨j_30, e_31, b_32, h⟩ := h
        refine xw_lld X hk hw xe_5 e_31 b_32 (by decide) dX10_turn_90 ?_
        obtain ⟨j_33, e_34, b_35, h⟩ := h
        refine xw_lst X hk hw hl xe_22 rfl e_34 b_35 (by decide) dX10_turn_91 (fun H locs hw hl => ?_)
        obtain ⟨S_36, e_37⟩ : ∃ T : xs_T, T = sL S 22 j_33 ((xL S 5 j_30)) := ⟨_, rfl⟩
        rw [← e_37] at hw
        replace h := h S_36 e_37
        have hN : S_36.2.2.2.2 = S.2.2.2.2 := by rw [e_37]; rfl
        replace hNN := hN.trans hNN
        refine lv_iinc (v := (a5 + 1)) (lv' := [(5, .int ((a5 + 1))), (6, .int ((((((a5).toInt64 + (a2).toInt64) - ((a5).toInt64 + (a2).toInt64) / (a4).toInt64 * (a4).toInt64)).toInt32 + a4))), (0, .ref (et (0))), (2, .int (a2)), (3, .int (a3)), (4, .int (a4))]) X.1 X.2.1 dX10_turn_92 hv (k := 5) rfl rfl (by decide) rfl (fun ls hv => ?_)
        refine lv_goto (tgt := 34) X.1 X.2.1 dX10_turn_95 (by decide) ?_
        exact ih (a2) (a3) (a4) ((a5 + 1)) S_36 _ _ _ h hNN hw hl (lv_sub hv [2, 3, 4, 5, 0] rfl)
set_option maxHeartbeats 4000000 in
set_option maxRecDepth 100000 in
theorem c_X10_turn (l : Launch) (Z : xz_T) (et : Nat → Nat) (S : xs_T) (x1 : Int32) (x2 : Int32) (K : Int32 → xs_T → Prop) (h : v_X10_turn x1 x2 S K) : Met l yX10_turn (wq yX10_turn cX10_turn 7 (some .int)) { frames := 1, cells := 0, slots := 0, locals := 21 } (xPc Z et S [.ref (et (0)), .int (x1), .int (x2)]) (xQi Z et S.2.2.2.2 K) 0 0 (fun q => Z.2.2.1 ≤ q) := by
  refine Met.ofW (cc := cX10_turn) (maxL := 7) (ret := (some .int)) (by decide +kernel) rfl ?_
  intro p e s m args below meth c s₁ B hml hv0
  obtain ⟨rfl, hk, hw⟩ := hv0
  have X : CallFix p m c cX10_turn 7 s _ (wq yX10_turn cX10_turn 7 (some .int)) RX10 := ⟨B.exec, B.bytes, hml, findClass_of_methodNamed B.named, atoms_spec (ws := (wq yX10_turn cX10_turn 7 (some .int))) B.pre⟩
  have hr := B.returns
  have hlocks := B.notSynchronized
  have hl : xl Z [] := fun _ h => by cases h
  have hNN : S.2.2.2.2 = S.2.2.2.2 := rfl
  have hv := lv_entry [.ref (et (0)), .int (x1), .int (x2)] (n := 7) (Nat.le_of_ble_eq_true rfl)
  rw [lg_entry_eq]
  generalize (lg_sl [.ref (et (0)), .int (x1), .int (x2)] ++ List.replicate (7 - (lg_sl [.ref (et (0)), .int (x1), .int (x2)]).length) Slot.unset).toArray = ls at hv ⊢
  replace hv : lv_has ls 7 [(0, .ref (et (0))), (1, .int (x1)), (2, .int (x2))] := hv
  unfold v_X10_turn at h
  refine lv_aload_n X.1 X.2.1 dX10_turn_0 rfl (lv_at hv 0 rfl) ?_
  refine xw_get X hk hw (i := 0) 9 xe_0 rfl tlX10 (by decide) rfl tw_528 dX10_turn_1 ?_
  refine lv_iload_n X.1 X.2.1 dX10_turn_4 rfl (lv_at hv 1 rfl) ?_
  obtain ⟨j_1, e_2, b_3, h⟩ := h
  refine xw_ild X hk hw xe_9 e_2 b_3 (by decide) dX10_turn_5 ?_
  refine lv_if_ne (tgt := 11) X.1 X.2.1 dX10_turn_6 (by decide) (fun c_4 => ?_) (fun c_4 => ?_)
  · skip
    replace h := h.1 c_4
    refine lv_aload_n X.1 X.2.1 dX10_turn_11 rfl (lv_at hv 0 rfl) ?_
    refine lv_iload_n X.1 X.2.1 dX10_turn_12 rfl (lv_at hv 1 rfl) ?_
    refine xc_i (xr_V (n := 1) (As := [.int (x1)]) (i := 0) X hk hw hv.1 (c_X10_rowOn l Z et S (x1) _ h) (tb_V tw_629 tw_626 tw_628 tw_18 tw_44) xe_0 rfl rfl rfl rfl (by decide +kernel) ⟨Nat.le_of_ble_eq_true rfl, Nat.le_of_ble_eq_true rfl⟩ rfl (Nat.le_of_ble_eq_true rfl) dX10_turn_13 ⟨Nat.le_of_ble_eq_true rfl, Nat.le_of_ble_eq_true rfl⟩) hl (fun r_6 S_5 H locs h hN hw hl => ?_)
    replace hNN := hN.trans hNN
    refine lv_istore_n (lv' := [(3, .int (r_6)), (0, .ref (et (0))), (1, .int (x1)), (2, .int (x2))]) X.1 X.2.1 dX10_turn_16 rfl hv (by decide) rfl (fun ls hv => ?_)
    refine lv_iload_n X.1 X.2.1 dX10_turn_17 rfl (lv_at hv 0 rfl) ?_
    refine lv_if_ge (tgt := 23) X.1 X.2.1 dX10_turn_18 (by decide) (fun c_7 => ?_) (fun c_7 => ?_)
    · skip
      replace h := h.1 c_7
      refine lv_aload_n X.1 X.2.1 dX10_turn_23 rfl (lv_at hv 1 rfl) ?_
      refine xw_get X hk hw (i := 0) 2 xe_0 rfl tlX10 (by decide) rfl tw_521 dX10_turn_24 ?_
      refine lv_iload_n X.1 X.2.1 dX10_turn_27 rfl (lv_at hv 0 rfl) ?_
      obtain ⟨j_8, e_9, b_10, h⟩ := h
      refine xw_ild X hk hw xe_2 e_9 b_10 (by decide) dX10_turn_28 ?_
      refine lv_istore (lv' := [(4, .int ((xI S_5 2 j_8))), (3, .int (r_6)), (0, .ref (et (0))), (1, .int (x1)), (2, .int (x2))]) X.1 X.2.1 dX10_turn_29 hv (by decide) rfl (fun ls hv => ?_)
      refine lv_iconst (v := 0) X.1 X.2.1 dX10_turn_31 (by decide) ?_
      refine lv_istore (lv' := [(5, .int (0)), (4, .int ((xI S_5 2 j_8))), (3, .int (r_6)), (0, .ref (et (0))), (1, .int (x1)), (2, .int (x2))]) X.1 X.2.1 dX10_turn_32 hv (by decide) rfl (fun ls hv => ?_)
      obtain ⟨n_11, h⟩ := h
      exact j_X10_turn_34 X hk hr hlocks n_11 (x2) (r_6) ((xI S_5 2 j_8)) (0) S_5 _ _ _ h hNN hw hl (lv_sub hv [3, 5, 2, 1, 0] rfl)
    · skip
      replace h := h.2 c_7
      refine lv_iconst (v := 2) X.1 X.2.1 dX10_turn_21 (by decide) ?_
      exact xt_i X hr hlocks hNN hw hl h dX10_turn_22
  · skip
    replace h := h.2 c_4
    refine lv_iconst (v := 1) X.1 X.2.1 dX10_turn_9 (by decide) ?_
    exact xt_i X hr hlocks hNN hw hl h dX10_turn_10
def v_X10_twin_59 (K : Int32 → xs_T → Prop) : Nat → Int32 → Int32 → Int32 → Int32 → xs_T → Prop
  | 0, _, _, _, _, _ => False
  | n + 1, a1, a3, a4, a5, S => ∃ j_23 : Nat, a3 = nI j_23 ∧ j_23 < 120 ∧ (((xI S 2 j_23) ≤ a5 → v_X10_hold (a1) (1) (a4) S (fun (S_27 : xs_T) => K (0) S_27)) ∧ (¬ (xI S 2 j_23) ≤ a5 → ∃ j_29 : Nat, a4 = nI j_29 ∧ j_29 < 120 ∧ ∃ j_32 : Nat, a3 = nI j_32 ∧ j_32 < 120 ∧ ∃ j_35 : Nat, ((xI S 3 j_32) + a5) = nI j_35 ∧ j_35 < 3000 ∧ ∃ j_38 : Nat, ((xI S 3 j_29) + a5) = nI j_38 ∧ j_38 < 3000 ∧ ∀ S_41 : xs_T, S_41 = sL S 5 j_38 ((xL S 5 j_35)) → v_X10_twin_59 K n (a1) (a3) (a4) ((a5 + 1)) S_41))
def v_X10_twin (x1 : Int32) (x2 : Int32) (S : xs_T) (K : Int32 → xs_T → Prop) : Prop := ∃ j_1 : Nat, x2 = nI j_1 ∧ j_1 < 10 ∧ ((¬ (xI S 9 j_1) = 0 → v_X10_rowOn (x2) S (fun (r_6 : Int32) (S_5 : xs_T) => ((0 ≤ r_6 → ∃ j_8 : Nat, r_6 = nI j_8 ∧ j_8 < 120 ∧ v_X10_roomFor ((xI S_5 2 j_8)) S_5 (fun (r_12 : Int32) (S_11 : xs_T) => ((¬ r_12 = 0 → ∃ j_14 : Nat, r_6 = nI j_14 ∧ j_14 < 120 ∧ ∃ j_17 : Nat, r_6 = nI j_17 ∧ j_17 < 120 ∧ v_X10_make ((xI S_11 1 j_14)) ((xI S_11 2 j_17)) S_11 (fun (r_21 : Int32) (S_20 : xs_T) => ∃ n, v_X10_twin_59 K n (x1) (r_6) (r_21) (0) S_20)) ∧ (r_12 = 0 → K (4) S_11)))) ∧ (¬ 0 ≤ r_6 → K (2) S_5)))) ∧ ((xI S 9 j_1) = 0 → K (1) S))
set_option maxHeartbeats 4000000 in
set_option maxRecDepth 100000 in
theorem j_X10_twin_59 {l : Launch} {p : Program} {e : Env} {s : State} {m : MethodId} {args : Array Value} {below : List Frame} {meth : Method} {c : Code} {Z : xz_T} {et : Nat → Nat} {Nn : Nat → Nat} {K : Int32 → xs_T → Prop} (X : CallFix p m c cX10_twin 6 s args (wq yX10_twin cX10_twin 6 (some .int)) RX10) (hk : xk Z s) (hr : meth.sig.returnType = (some .int)) (hlocks : meth.locks = false) : ∀ (n : Nat) (a1 : Int32) (a3 : Int32) (a4 : Int32) (a5 : Int32) (S : xs_T) (H : Heap) (locs : List Loc) (ls : Array Slot), v_X10_twin_59 K n a1 a3 a4 a5 S → S.2.2.2.2 = Nn → wd Z et S H → xl Z locs → lv_has ls 6 [(0, .ref (et (0))), (1, .int (a1)), (3, .int (a3)), (4, .int (a4)), (5, .int (a5))] → W p l e (headSpec (wq yX10_twin cX10_twin 6 (some .int)) { frames := 1, cells := 0, slots := 0, locals := 23 }).room s m args below meth c H locs 0 0 (MQ below (xQi Z et Nn K) args s 0 0 (fun q => Z.2.2.1 ≤ q)) (F0 m 59 ls []) := by
  intro n
  induction n with
  | zero =>
    intro a1 a3 a4 a5 S H locs ls h hNN hw hl hv
    exact False.elim h
  | succ n ih =>
    intro a1 a3 a4 a5 S H locs ls h hNN hw hl hv
    rw [v_X10_twin_59] at h
    refine lv_iload X.1 X.2.1 dX10_twin_59 (lv_at hv 4 rfl) ?_
    refine lv_aload_n X.1 X.2.1 dX10_twin_61 rfl (lv_at hv 0 rfl) ?_
    refine xw_get X hk hw (i := 0) 2 xe_0 rfl tlX10 (by decide) rfl tw_521 dX10_twin_62 ?_
    refine lv_iload_n X.1 X.2.1 dX10_twin_65 rfl (lv_at hv 2 rfl) ?_
    obtain ⟨j_23, e_24, b_25, h⟩ := h
    refine xw_ild X hk hw xe_2 e_24 b_25 (by decide) dX10_twin_66 ?_
    refine lv_icmp_ge (tgt := 105) X.1 X.2.1 dX10_twin_67 (by decide) (fun c_26 => ?_) (fun c_26 => ?_)
    · skip
      replace h := h.1 c_26
      refine lv_aload_n X.1 X.2.1 dX10_twin_105 rfl (lv_at hv 0 rfl) ?_
      refine lv_iload_n X.1 X.2.1 dX10_twin_106 rfl (lv_at hv 1 rfl) ?_
      refine lv_iconst (v := 1) X.1 X.2.1 dX10_twin_107 (by decide) ?_
      refine lv_iload X.1 X.2.1 dX10_twin_108 (lv_at hv 3 rfl) ?_
      refine xc_v (xr_V (n := 3) (As := [.int (a1), .int (1), .int (a4)]) (i := 0) X hk hw hv.1 (c_X10_hold l Z et S (a1) (1) (a4) _ h) (tb_V tw_665 tw_662 tw_664 tw_27 tw_44) xe_0 rfl rfl rfl rfl (by decide +kernel) ⟨Nat.le_of_ble_eq_true rfl, Nat.le_of_ble_eq_true rfl⟩ rfl (Nat.le_of_ble_eq_true rfl) dX10_twin_110 ⟨Nat.le_of_ble_eq_true rfl, Nat.le_of_ble_eq_true rfl⟩) hl (fun S_27 H locs h hN hw hl => ?_)
      replace hNN := hN.trans hNN
      refine lv_iconst (v := 0) X.1 X.2.1 dX10_twin_113 (by decide) ?_
      exact xt_i X hr hlocks hNN hw hl h dX10_twin_114
    · skip
      replace h := h.2 c_26
      refine lv_aload_n X.1 X.2.1 dX10_twin_70 rfl (lv_at hv 0 rfl) ?_
      refine xw_get X hk hw (i := 0) 5 xe_0 rfl tlX10 (by decide) rfl tw_524 dX10_twin_71 ?_
      refine lv_aload_n X.1 X.2.1 dX10_twin_74 rfl (lv_at hv 0 rfl) ?_
      refine xw_get X hk hw (i := 0) 3 xe_0 rfl tlX10 (by decide) rfl tw_522 dX10_twin_75 ?_
      refine lv_iload X.1 X.2.1 dX10_twin_78 (lv_at hv 3 rfl) ?_
      obtain ⟨j_29, e_30, b_31, h⟩ := h
      refine xw_ild X hk hw xe_3 e_30 b_31 (by decide) dX10_twin_80 ?_
      refine lv_iload X.1 X.2.1 dX10_twin_81 (lv_at hv 4 rfl) ?_
      refine lv_iadd X.1 X.2.1 dX10_twin_83 ?_
      refine lv_aload_n X.1 X.2.1 dX10_twin_84 rfl (lv_at hv 0 rfl) ?_
      refine xw_get X hk hw (i := 0) 5 xe_0 rfl tlX10 (by decide) rfl tw_524 dX10_twin_85 ?_
      refine lv_aload_n X.1 X.2.1 dX10_twin_88 rfl (lv_at hv 0 rfl) ?_
      refine xw_get X hk hw (i := 0) 3 xe_0 rfl tlX10 (by decide) rfl tw_522 dX10_twin_89 ?_
      refine lv_iload_n X.1 X.2.1 dX10_twin_92 rfl (lv_at hv 2 rfl) ?_
      obtain ⟨j_32, e_33, b_34, h⟩ := h
      refine xw_ild X hk hw xe_3 e_33 b_34 (by decide) dX10_twin_93 ?_
      refine lv_iload X.1 X.2.1 dX10_twin_94 (lv_at hv 4 rfl) ?_
      refine lv_iadd X.1 X.2.1 dX10_twin_96 ?_
      obtain ⟨j_35, e_36, b_37, h⟩ := h
      refine xw_lld X hk hw xe_5 e_36 b_37 (by decide) dX10_twin_97 ?_
      obtain ⟨j_38, e_39, b_40, h⟩ := h
      refine xw_lst X hk hw hl xe_5 rfl e_39 b_40 (by decide) dX10_twin_98 (fun H locs hw hl => ?_)
      obtain ⟨S_41, e_42⟩ : ∃ T : xs_T, T = sL S 5 j_38 ((xL S 5 j_35)) := ⟨_, rfl⟩
      rw [← e_42] at hw
      replace h := h S_41 e_42
      have hN : S_41.2.2.2.2 = S.2.2.2.2 := by rw [e_42]; rfl
      replace hNN := hN.trans hNN
      refine lv_iinc (v := (a5 + 1)) (lv' := [(5, .int ((a5 + 1))), (0, .ref (et (0))), (1, .int (a1)), (3, .int (a3)), (4, .int (a4))]) X.1 X.2.1 dX10_twin_99 hv (k := 4) rfl rfl (by decide) rfl (fun ls hv => ?_)
      refine lv_goto (tgt := 59) X.1 X.2.1 dX10_twin_102 (by decide) ?_
      exact ih (a1) (a3) (a4) ((a5 + 1)) S_41 _ _ _ h hNN hw hl (lv_sub hv [1, 2, 3, 4, 0] rfl)
set_option maxHeartbeats 4000000 in
set_option maxRecDepth 100000 in
theorem c_X10_twin (l : Launch) (Z : xz_T) (et : Nat → Nat) (S : xs_T) (x1 : Int32) (x2 : Int32) (K : Int32 → xs_T → Prop) (h : v_X10_twin x1 x2 S K) : Met l yX10_twin (wq yX10_twin cX10_twin 6 (some .int)) { frames := 1, cells := 0, slots := 0, locals := 23 } (xPc Z et S [.ref (et (0)), .int (x1), .int (x2)]) (xQi Z et S.2.2.2.2 K) 0 0 (fun q => Z.2.2.1 ≤ q) := by
  refine Met.ofW (cc := cX10_twin) (maxL := 6) (ret := (some .int)) (by decide +kernel) rfl ?_
  intro p e s m args below meth c s₁ B hml hv0
  obtain ⟨rfl, hk, hw⟩ := hv0
  have X : CallFix p m c cX10_twin 6 s _ (wq yX10_twin cX10_twin 6 (some .int)) RX10 := ⟨B.exec, B.bytes, hml, findClass_of_methodNamed B.named, atoms_spec (ws := (wq yX10_twin cX10_twin 6 (some .int))) B.pre⟩
  have hr := B.returns
  have hlocks := B.notSynchronized
  have hl : xl Z [] := fun _ h => by cases h
  have hNN : S.2.2.2.2 = S.2.2.2.2 := rfl
  have hv := lv_entry [.ref (et (0)), .int (x1), .int (x2)] (n := 6) (Nat.le_of_ble_eq_true rfl)
  rw [lg_entry_eq]
  generalize (lg_sl [.ref (et (0)), .int (x1), .int (x2)] ++ List.replicate (6 - (lg_sl [.ref (et (0)), .int (x1), .int (x2)]).length) Slot.unset).toArray = ls at hv ⊢
  replace hv : lv_has ls 6 [(0, .ref (et (0))), (1, .int (x1)), (2, .int (x2))] := hv
  unfold v_X10_twin at h
  refine lv_aload_n X.1 X.2.1 dX10_twin_0 rfl (lv_at hv 0 rfl) ?_
  refine xw_get X hk hw (i := 0) 9 xe_0 rfl tlX10 (by decide) rfl tw_528 dX10_twin_1 ?_
  refine lv_iload_n X.1 X.2.1 dX10_twin_4 rfl (lv_at hv 2 rfl) ?_
  obtain ⟨j_1, e_2, b_3, h⟩ := h
  refine xw_ild X hk hw xe_9 e_2 b_3 (by decide) dX10_twin_5 ?_
  refine lv_if_ne (tgt := 11) X.1 X.2.1 dX10_twin_6 (by decide) (fun c_4 => ?_) (fun c_4 => ?_)
  · skip
    replace h := h.1 c_4
    refine lv_aload_n X.1 X.2.1 dX10_twin_11 rfl (lv_at hv 0 rfl) ?_
    refine lv_iload_n X.1 X.2.1 dX10_twin_12 rfl (lv_at hv 2 rfl) ?_
    refine xc_i (xr_V (n := 1) (As := [.int (x2)]) (i := 0) X hk hw hv.1 (c_X10_rowOn l Z et S (x2) _ h) (tb_V tw_629 tw_626 tw_628 tw_18 tw_44) xe_0 rfl rfl rfl rfl (by decide +kernel) ⟨Nat.le_of_ble_eq_true rfl, Nat.le_of_ble_eq_true rfl⟩ rfl (Nat.le_of_ble_eq_true rfl) dX10_twin_13 ⟨Nat.le_of_ble_eq_true rfl, Nat.le_of_ble_eq_true rfl⟩) hl (fun r_6 S_5 H locs h hN hw hl => ?_)
    replace hNN := hN.trans hNN
    refine lv_istore_n (lv' := [(3, .int (r_6)), (0, .ref (et (0))), (1, .int (x1)), (2, .int (x2))]) X.1 X.2.1 dX10_twin_16 rfl hv (by decide) rfl (fun ls hv => ?_)
    refine lv_iload_n X.1 X.2.1 dX10_twin_17 rfl (lv_at hv 0 rfl) ?_
    refine lv_if_ge (tgt := 23) X.1 X.2.1 dX10_twin_18 (by decide) (fun c_7 => ?_) (fun c_7 => ?_)
    · skip
      replace h := h.1 c_7
      refine lv_aload_n X.1 X.2.1 dX10_twin_23 rfl (lv_at hv 1 rfl) ?_
      refine lv_aload_n X.1 X.2.1 dX10_twin_24 rfl (lv_at hv 1 rfl) ?_
      refine xw_get X hk hw (i := 0) 2 xe_0 rfl tlX10 (by decide) rfl tw_521 dX10_twin_25 ?_
      refine lv_iload_n X.1 X.2.1 dX10_twin_28 rfl (lv_at hv 0 rfl) ?_
      obtain ⟨j_8, e_9, b_10, h⟩ := h
      refine xw_ild X hk hw xe_2 e_9 b_10 (by decide) dX10_twin_29 ?_
      refine xc_i (xr_V (n := 1) (As := [.int ((xI S_5 2 j_8))]) (i := 0) X hk hw hv.1 (c_X10_roomFor l Z et S_5 ((xI S_5 2 j_8)) _ h) (tb_V tw_657 tw_654 tw_656 tw_25 tw_44) xe_0 rfl rfl rfl rfl (by decide +kernel) ⟨Nat.le_of_ble_eq_true rfl, Nat.le_of_ble_eq_true rfl⟩ rfl (Nat.le_of_ble_eq_true rfl) dX10_twin_30 ⟨Nat.le_of_ble_eq_true rfl, Nat.le_of_ble_eq_true rfl⟩) hl (fun r_12 S_11 H locs h hN hw hl => ?_)
      replace hNN := hN.trans hNN
      refine lv_if_ne (tgt := 38) X.1 X.2.1 dX10_twin_33 (by decide) (fun c_13 => ?_) (fun c_13 => ?_)
      · skip
        replace h := h.1 c_13
        refine lv_aload_n X.1 X.2.1 dX10_twin_38 rfl (lv_at hv 1 rfl) ?_
        refine lv_aload_n X.1 X.2.1 dX10_twin_39 rfl (lv_at hv 1 rfl) ?_
        refine xw_get X hk hw (i := 0) 1 xe_0 rfl tlX10 (by decide) rfl tw_520 dX10_twin_40 ?_
        refine lv_iload_n X.1 X.2.1 dX10_twin_43 rfl (lv_at hv 0 rfl) ?_
        obtain ⟨j_14, e_15, b_16, h⟩ := h
        refine xw_ild X hk hw xe_1 e_15 b_16 (by decide) dX10_twin_44 ?_
        refine lv_aload_n X.1 X.2.1 dX10_twin_45 rfl (lv_at hv 1 rfl) ?_
        refine xw_get X hk hw (i := 0) 2 xe_0 rfl tlX10 (by decide) rfl tw_521 dX10_twin_46 ?_
        refine lv_iload_n X.1 X.2.1 dX10_twin_49 rfl (lv_at hv 0 rfl) ?_
        obtain ⟨j_17, e_18, b_19, h⟩ := h
        refine xw_ild X hk hw xe_2 e_18 b_19 (by decide) dX10_twin_50 ?_
        refine xc_i (xr_V (n := 2) (As := [.int ((xI S_11 1 j_14)), .int ((xI S_11 2 j_17))]) (i := 0) X hk hw hv.1 (c_X10_make l Z et S_11 ((xI S_11 1 j_14)) ((xI S_11 2 j_17)) _ h) (tb_V tw_661 tw_658 tw_660 tw_26 tw_44) xe_0 rfl rfl rfl rfl (by decide +kernel) ⟨Nat.le_of_ble_eq_true rfl, Nat.le_of_ble_eq_true rfl⟩ rfl (Nat.le_of_ble_eq_true rfl) dX10_twin_51 ⟨Nat.le_of_ble_eq_true rfl, Nat.le_of_ble_eq_true rfl⟩) hl (fun r_21 S_20 H locs h hN hw hl => ?_)
        replace hNN := hN.trans hNN
        refine lv_istore (lv' := [(4, .int (r_21)), (3, .int (r_6)), (0, .ref (et (0))), (1, .int (x1)), (2, .int (x2))]) X.1 X.2.1 dX10_twin_54 hv (by decide) rfl (fun ls hv => ?_)
        refine lv_iconst (v := 0) X.1 X.2.1 dX10_twin_56 (by decide) ?_
        refine lv_istore (lv' := [(5, .int (0)), (4, .int (r_21)), (3, .int (r_6)), (0, .ref (et (0))), (1, .int (x1)), (2, .int (x2))]) X.1 X.2.1 dX10_twin_57 hv (by decide) rfl (fun ls hv => ?_)
        obtain ⟨n_22, h⟩ := h
        exact j_X10_twin_59 X hk hr hlocks n_22 (x1) (r_6) (r_21) (0) S_20 _ _ _ h hNN hw hl (lv_sub hv [3, 4, 2, 1, 0] rfl)
      · skip
        replace h := h.2 c_13
        refine lv_iconst (v := 4) X.1 X.2.1 dX10_twin_36 (by decide) ?_
        exact xt_i X hr hlocks hNN hw hl h dX10_twin_37
    · skip
      replace h := h.2 c_7
      refine lv_iconst (v := 2) X.1 X.2.1 dX10_twin_21 (by decide) ?_
      exact xt_i X hr hlocks hNN hw hl h dX10_twin_22
  · skip
    replace h := h.2 c_4
    refine lv_iconst (v := 1) X.1 X.2.1 dX10_twin_9 (by decide) ?_
    exact xt_i X hr hlocks hNN hw hl h dX10_twin_10
