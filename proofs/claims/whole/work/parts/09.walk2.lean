def v_X6_sortOf (x1 : Int64) (S : xs_T) (K : Int32 → xs_T → Prop) : Prop := v_X6_figureOf (x1) S (fun (r_2 : Option Nat) (S_1 : xs_T) => ((r_2 = none → K (0) S_1) ∧ (∀ u_4 : Nat, r_2 = some u_4 → oG S_1 u_4 ∧ K ((xF S_1 u_4 0)) S_1)))
set_option maxHeartbeats 4000000 in
set_option maxRecDepth 100000 in
theorem c_X6_sortOf (l : Launch) (Z : xz_T) (et : Nat → Nat) (S : xs_T) (x1 : Int64) (K : Int32 → xs_T → Prop) (h : v_X6_sortOf x1 S K) : Met l yX6_sortOf (wq yX6_sortOf cX6_sortOf 4 (some .int)) { frames := 1, cells := 0, slots := 0, locals := 22 } (xPc Z et S [.ref (et (40)), .long (x1)]) (xQi Z et S.2.2.2.2 K) 0 0 (fun q => Z.2.2.1 ≤ q) := by
  refine Met.ofW (cc := cX6_sortOf) (maxL := 4) (ret := (some .int)) (by decide +kernel) rfl ?_
  intro p e s m args below meth c s₁ B hml hv0
  obtain ⟨rfl, hk, hw⟩ := hv0
  have X : CallFix p m c cX6_sortOf 4 s _ (wq yX6_sortOf cX6_sortOf 4 (some .int)) RX6 := ⟨B.exec, B.bytes, hml, findClass_of_methodNamed B.named, atoms_spec (ws := (wq yX6_sortOf cX6_sortOf 4 (some .int))) B.pre⟩
  have hr := B.returns
  have hlocks := B.notSynchronized
  have hl : xl Z [] := fun _ h => by cases h
  have hNN : S.2.2.2.2 = S.2.2.2.2 := rfl
  have hv := lv_entry [.ref (et (40)), .long (x1)] (n := 4) (Nat.le_of_ble_eq_true rfl)
  rw [lg_entry_eq]
  generalize (lg_sl [.ref (et (40)), .long (x1)] ++ List.replicate (4 - (lg_sl [.ref (et (40)), .long (x1)]).length) Slot.unset).toArray = ls at hv ⊢
  replace hv : lv_has ls 4 [(0, .ref (et (40))), (1, .long (x1))] := hv
  unfold v_X6_sortOf at h
  refine lv_aload_n X.1 X.2.1 dX6_sortOf_0 rfl (lv_at hv 0 rfl) ?_
  refine lv_lload_n X.1 X.2.1 dX6_sortOf_1 rfl (lv_at hv 1 rfl) ?_
  refine xc_q (xr_V (n := 1) (As := [.long (x1)]) (i := 40) X hk hw hv.1 (c_X6_figureOf l Z et S (x1) _ h) (tb_V tw_266 tw_263 tw_264 tw_265 tw_41) xe_40 rfl rfl rfl rfl (by decide +kernel) ⟨Nat.le_of_ble_eq_true rfl, Nat.le_of_ble_eq_true rfl⟩ rfl (Nat.le_of_ble_eq_true rfl) dX6_sortOf_2 ⟨Nat.le_of_ble_eq_true rfl, Nat.le_of_ble_eq_true rfl⟩) hl (fun r_2 S_1 H locs h hN hw hl => ?_)
  replace hNN := hN.trans hNN
  refine xv_astore_n (lv' := [(3, va_rf (Option.map et (r_2))), (0, .ref (et (40))), (1, .long (x1))]) X.1 X.2.1 dX6_sortOf_5 rfl hv (by decide) rfl (fun ls hv => ?_)
  refine xv_aload_n X.1 X.2.1 dX6_sortOf_6 rfl (lv_at hv 0 rfl) ?_
  refine xv_ifnonnull (tgt := 14) X.1 X.2.1 dX6_sortOf_7 (by decide) (fun u_4 c_3 => ?_) (fun c_3 => ?_)
  · skip
    replace h := h.2 u_4 c_3
    rw [c_3] at hv
    replace hv : lv_has ls 4 [(3, .ref (et (u_4))), (0, .ref (et (40))), (1, .long (x1))] := hv
    refine lv_aload_n X.1 X.2.1 dX6_sortOf_14 rfl (lv_at hv 0 rfl) ?_
    obtain ⟨o_5, h⟩ := h
    refine xw_getN X hk hw (i := u_4) 0 (xE_fig o_5) rfl tlX3 (by decide) rfl xn_24 dX6_sortOf_15 ?_
    exact xt_i X hr hlocks hNN hw hl h dX6_sortOf_18
  · skip
    replace h := h.1 c_3
    refine lv_iconst (v := 0) X.1 X.2.1 dX6_sortOf_10 (by decide) ?_
    refine lv_goto (tgt := 18) X.1 X.2.1 dX6_sortOf_11 (by decide) ?_
    exact xt_i X hr hlocks hNN hw hl h dX6_sortOf_18
def v_X0_seat_89 (K : Int32 → xs_T → Prop) (a1 : Int32) (u3 : Nat) (a4 : Int32) (S : xs_T) : Prop := ∃ j_30 : Nat, a1 = nI j_30 ∧ j_30 < 10 ∧ oR S u3 ∧ v_X5_hasPlace (u3) ((xI S 38 j_30)) S (fun (r_35 : Int32) (S_34 : xs_T) => ((¬ r_35 = 0 → v_X6_sortOf ((a4).toInt64) S_34 (fun (r_39 : Int32) (S_38 : xs_T) => v_X5_canHave (u3) (r_39) S_38 (fun (r_42 : Int32) (S_41 : xs_T) => ((¬ r_42 = 0 → ∃ j_45 : Nat, a1 = nI j_45 ∧ j_45 < 10 ∧ ∃ j_48 : Nat, (xI S_41 38 j_45) = nI j_48 ∧ j_48 < xN S_41 (u3 + 120) ∧ ∀ S_51 : xs_T, S_51 = sL S_41 (u3 + 120) j_48 ((a4).toInt64) → K (0) S_51) ∧ (r_42 = 0 → K (2) S_41))))) ∧ (r_35 = 0 → K (3) S_34)))
def v_X0_seat (x1 : Int32) (x2 : Int32) (S : xs_T) (K : Int32 → xs_T → Prop) : Prop := ∃ j_1 : Nat, x1 = nI j_1 ∧ j_1 < 10 ∧ ((xQ S 37 j_1 = none → K (1) S) ∧ (∀ u_5 : Nat, xQ S 37 j_1 = some u_5 → ∃ j_6 : Nat, x1 = nI j_6 ∧ j_6 < 10 ∧ oT S (xQ S 37 j_6) ∧ ((∀ u_10 : Nat, xQ S 37 j_6 = some u_10 → oR S u_10 → v_X5_isOfFigures (u_10) S (fun (r_14 : Int32) (S_13 : xs_T) => ((¬ r_14 = 0 → ∃ j_18 : Nat, x2 = nI j_18 ∧ j_18 < 10 ∧ oT S_13 (xQ S_13 37 j_18) ∧ ((∀ u_22 : Nat, xQ S_13 37 j_18 = some u_22 → oG S_13 u_22 → v_X0_seat_89 K (x1) (u_10) ((xF S_13 u_22 1)) S_13) ∧ (¬ iG S_13 (xQ S_13 37 j_18) → ∃ j_25 : Nat, x2 = nI j_25 ∧ j_25 < 10 ∧ ((xQ S_13 37 j_25 = none → v_X0_seat_89 K (x1) (u_10) (0) S_13) ∧ (∀ u_29 : Nat, xQ S_13 37 j_25 = some u_29 → K (2) S_13))))) ∧ (r_14 = 0 → K (2) S_13)))) ∧ (¬ iR S (xQ S 37 j_6) → K (2) S))))
set_option maxHeartbeats 4000000 in
set_option maxRecDepth 100000 in
theorem j_X0_seat_89 {l : Launch} {p : Program} {e : Env} {s : State} {m : MethodId} {args : Array Value} {below : List Frame} {meth : Method} {c : Code} {Z : xz_T} {et : Nat → Nat} {Nn : Nat → Nat} {K : Int32 → xs_T → Prop} (X : CallFix p m c cX0_seat 7 s args (wq yX0_seat cX0_seat 7 (some .int)) RX0) (hk : xk Z s) (hr : meth.sig.returnType = (some .int)) (hlocks : meth.locks = false) : ∀ (a1 : Int32) (u3 : Nat) (a4 : Int32) (S : xs_T) (H : Heap) (locs : List Loc) (ls : Array Slot), v_X0_seat_89 K a1 u3 a4 S → S.2.2.2.2 = Nn → wd Z et S H → xl Z locs → lv_has ls 7 [(0, .ref (et (33))), (1, .int (a1)), (3, .ref (et (u3))), (4, .int (a4))] → W p l e (headSpec (wq yX0_seat cX0_seat 7 (some .int)) { frames := 2, cells := 0, slots := 0, locals := 45 }).room s m args below meth c H locs 0 0 (MQ below (xQi Z et Nn K) args s 0 0 (fun q => Z.2.2.1 ≤ q)) (F0 m 89 ls []) := by
  intro a1 u3 a4 S H locs ls h hNN hw hl hv
  unfold v_X0_seat_89 at h
  refine lv_aload_n X.1 X.2.1 dX0_seat_89 rfl (lv_at hv 2 rfl) ?_
  refine lv_aload_n X.1 X.2.1 dX0_seat_90 rfl (lv_at hv 0 rfl) ?_
  refine xw_get X hk hw (i := 33) 1 xe_33 rfl tlX0 (by decide) rfl tw_98 dX0_seat_91 ?_
  refine lv_iload_n X.1 X.2.1 dX0_seat_94 rfl (lv_at hv 1 rfl) ?_
  obtain ⟨j_30, e_31, b_32, h⟩ := h
  refine xw_ild X hk hw xe_38 e_31 b_32 (by decide) dX0_seat_95 ?_
  obtain ⟨o_33, h⟩ := h
  refine xc_i (xr_V (n := 1) (As := [.int ((xI S 38 j_30))]) (i := u3) X hk hw hv.1 (c_X5_hasPlace l Z et S (u3) ((xI S 38 j_30)) _ h) (tb_V tw_390 tw_387 tw_388 tw_389 tw_48) (xE_row o_33) rfl rfl rfl rfl (by decide +kernel) ⟨Nat.le_of_ble_eq_true rfl, Nat.le_of_ble_eq_true rfl⟩ rfl (Nat.le_of_ble_eq_true rfl) dX0_seat_96 ⟨Nat.le_of_ble_eq_true rfl, Nat.le_of_ble_eq_true rfl⟩) hl (fun r_35 S_34 H locs h hN hw hl => ?_)
  have o_36 := oR_N hN o_33
  replace hNN := hN.trans hNN
  refine lv_if_ne (tgt := 104) X.1 X.2.1 dX0_seat_99 (by decide) (fun c_37 => ?_) (fun c_37 => ?_)
  · skip
    replace h := h.1 c_37
    refine lv_aload_n X.1 X.2.1 dX0_seat_104 rfl (lv_at hv 2 rfl) ?_
    refine lv_aload_n X.1 X.2.1 dX0_seat_105 rfl (lv_at hv 0 rfl) ?_
    refine xw_get X hk hw (i := 33) 3 xe_33 rfl tlX0 (by decide) rfl tw_101 dX0_seat_106 ?_
    refine lv_iload X.1 X.2.1 dX0_seat_109 (lv_at hv 3 rfl) ?_
    refine lv_i2l (v := (a4).toInt64) X.1 X.2.1 dX0_seat_111 rfl ?_
    refine xc_i (xr_V (n := 1) (As := [.long ((a4).toInt64)]) (i := 40) X hk hw hv.1 (c_X6_sortOf l Z et S_34 ((a4).toInt64) _ h) (tb_V tw_262 tw_259 tw_260 tw_261 tw_41) xe_40 rfl rfl rfl rfl (by decide +kernel) ⟨Nat.le_of_ble_eq_true rfl, Nat.le_of_ble_eq_true rfl⟩ rfl (Nat.le_of_ble_eq_true rfl) dX0_seat_112 ⟨Nat.le_of_ble_eq_true rfl, Nat.le_of_ble_eq_true rfl⟩) hl (fun r_39 S_38 H locs h hN hw hl => ?_)
    have o_40 := oR_N hN o_36
    replace hNN := hN.trans hNN
    refine xc_i (xr_V (n := 1) (As := [.int (r_39)]) (i := u3) X hk hw hv.1 (c_X5_canHave l Z et S_38 (u3) (r_39) _ h) (tb_V tw_270 tw_267 tw_268 tw_269 tw_48) (xE_row o_40) rfl rfl rfl rfl (by decide +kernel) ⟨Nat.le_of_ble_eq_true rfl, Nat.le_of_ble_eq_true rfl⟩ rfl (Nat.le_of_ble_eq_true rfl) dX0_seat_115 ⟨Nat.le_of_ble_eq_true rfl, Nat.le_of_ble_eq_true rfl⟩) hl (fun r_42 S_41 H locs h hN hw hl => ?_)
    have o_43 := oR_N hN o_40
    replace hNN := hN.trans hNN
    refine lv_if_ne (tgt := 123) X.1 X.2.1 dX0_seat_118 (by decide) (fun c_44 => ?_) (fun c_44 => ?_)
    · skip
      replace h := h.1 c_44
      refine lv_aload_n X.1 X.2.1 dX0_seat_123 rfl (lv_at hv 2 rfl) ?_
      refine xw_getN X hk hw (i := u3) 1 (xE_row o_43) rfl tlX5 (by decide) rfl xn_19 dX0_seat_124 ?_
      refine lv_aload_n X.1 X.2.1 dX0_seat_127 rfl (lv_at hv 0 rfl) ?_
      refine xw_get X hk hw (i := 33) 1 xe_33 rfl tlX0 (by decide) rfl tw_98 dX0_seat_128 ?_
      refine lv_iload_n X.1 X.2.1 dX0_seat_131 rfl (lv_at hv 1 rfl) ?_
      obtain ⟨j_45, e_46, b_47, h⟩ := h
      refine xw_ild X hk hw xe_38 e_46 b_47 (by decide) dX0_seat_132 ?_
      refine lv_iload X.1 X.2.1 dX0_seat_133 (lv_at hv 3 rfl) ?_
      refine lv_i2l (v := (a4).toInt64) X.1 X.2.1 dX0_seat_135 rfl ?_
      obtain ⟨j_48, e_49, b_50, h⟩ := h
      refine xw_lst X hk hw hl (xE_arr o_43) (xE_arr (S := sL S_41 (u3 + 120) j_48 ((a4).toInt64)) o_43) e_49 b_50 (oR_lt o_43) dX0_seat_136 (fun H locs hw hl => ?_)
      obtain ⟨S_51, e_52⟩ : ∃ T : xs_T, T = sL S_41 (u3 + 120) j_48 ((a4).toInt64) := ⟨_, rfl⟩
      rw [← e_52] at hw
      replace h := h S_51 e_52
      have hN : S_51.2.2.2.2 = S_41.2.2.2.2 := by rw [e_52]; rfl
      have o_53 := oR_N hN o_43
      replace hNN := hN.trans hNN
      refine lv_iconst (v := 0) X.1 X.2.1 dX0_seat_137 (by decide) ?_
      exact xt_i X hr hlocks hNN hw hl h dX0_seat_138
    · skip
      replace h := h.2 c_44
      refine lv_iconst (v := 2) X.1 X.2.1 dX0_seat_121 (by decide) ?_
      exact xt_i X hr hlocks hNN hw hl h dX0_seat_122
  · skip
    replace h := h.2 c_37
    refine lv_iconst (v := 3) X.1 X.2.1 dX0_seat_102 (by decide) ?_
    exact xt_i X hr hlocks hNN hw hl h dX0_seat_103
set_option maxHeartbeats 4000000 in
set_option maxRecDepth 100000 in
theorem c_X0_seat (l : Launch) (Z : xz_T) (et : Nat → Nat) (S : xs_T) (x1 : Int32) (x2 : Int32) (K : Int32 → xs_T → Prop) (h : v_X0_seat x1 x2 S K) : Met l yX0_seat (wq yX0_seat cX0_seat 7 (some .int)) { frames := 2, cells := 0, slots := 0, locals := 45 } (xPc Z et S [.ref (et (33)), .int (x1), .int (x2)]) (xQi Z et S.2.2.2.2 K) 0 0 (fun q => Z.2.2.1 ≤ q) := by
  refine Met.ofW (cc := cX0_seat) (maxL := 7) (ret := (some .int)) (by decide +kernel) rfl ?_
  intro p e s m args below meth c s₁ B hml hv0
  obtain ⟨rfl, hk, hw⟩ := hv0
  have X : CallFix p m c cX0_seat 7 s _ (wq yX0_seat cX0_seat 7 (some .int)) RX0 := ⟨B.exec, B.bytes, hml, findClass_of_methodNamed B.named, atoms_spec (ws := (wq yX0_seat cX0_seat 7 (some .int))) B.pre⟩
  have hr := B.returns
  have hlocks := B.notSynchronized
  have hl : xl Z [] := fun _ h => by cases h
  have hNN : S.2.2.2.2 = S.2.2.2.2 := rfl
  have hv := lv_entry [.ref (et (33)), .int (x1), .int (x2)] (n := 7) (Nat.le_of_ble_eq_true rfl)
  rw [lg_entry_eq]
  generalize (lg_sl [.ref (et (33)), .int (x1), .int (x2)] ++ List.replicate (7 - (lg_sl [.ref (et (33)), .int (x1), .int (x2)]).length) Slot.unset).toArray = ls at hv ⊢
  replace hv : lv_has ls 7 [(0, .ref (et (33))), (1, .int (x1)), (2, .int (x2))] := hv
  unfold v_X0_seat at h
  refine lv_aload_n X.1 X.2.1 dX0_seat_0 rfl (lv_at hv 0 rfl) ?_
  refine xw_get X hk hw (i := 33) 0 xe_33 rfl tlX0 (by decide) rfl tw_96 dX0_seat_1 ?_
  refine lv_iload_n X.1 X.2.1 dX0_seat_4 rfl (lv_at hv 1 rfl) ?_
  obtain ⟨j_1, e_2, b_3, h⟩ := h
  refine xw_qld X hk hw xe_37 (C := RX7) rfl e_2 b_3 (by decide) dX0_seat_5 ?_
  refine xv_ifnonnull (tgt := 11) X.1 X.2.1 dX0_seat_6 (by decide) (fun u_5 c_4 => ?_) (fun c_4 => ?_)
  · skip
    replace h := h.2 u_5 c_4
    refine lv_aload_n X.1 X.2.1 dX0_seat_11 rfl (lv_at hv 0 rfl) ?_
    refine xw_get X hk hw (i := 33) 0 xe_33 rfl tlX0 (by decide) rfl tw_96 dX0_seat_12 ?_
    refine lv_iload_n X.1 X.2.1 dX0_seat_15 rfl (lv_at hv 1 rfl) ?_
    obtain ⟨j_6, e_7, b_8, h⟩ := h
    refine xw_qld X hk hw xe_37 (C := RX7) rfl e_7 b_8 (by decide) dX0_seat_16 ?_
    refine xv_astore (lv' := [(4, va_rf (Option.map et (xQ S 37 j_6))), (0, .ref (et (33))), (1, .int (x1)), (2, .int (x2))]) X.1 X.2.1 dX0_seat_17 hv (by decide) rfl (fun ls hv => ?_)
    refine xv_aload X.1 X.2.1 dX0_seat_19 (lv_at hv 0 rfl) ?_
    obtain ⟨o_9, h⟩ := h
    refine xw_instR X hk hw o_9 tw_241 dX0_seat_21 (fun u_10 c_11 o_12 => ?_) (fun c_11 => ?_)
    · skip
      replace h := h.1 u_10 c_11 o_12
      rw [c_11] at hv
      replace hv : lv_has ls 7 [(4, .ref (et (u_10))), (0, .ref (et (33))), (1, .int (x1)), (2, .int (x2))] := hv
      refine lv_if_eq (tgt := 40) X.1 X.2.1 dX0_seat_24 (by decide) (fun c => absurd c (by decide)) (fun _ => ?_)
      refine lv_aload X.1 X.2.1 dX0_seat_27 (lv_at hv 0 rfl) ?_
      refine xw_castR X hk hw o_12 tw_241 dX0_seat_29 ?_
      refine lv_astore_n (lv' := [(3, .ref (et (u_10))), (4, .ref (et (u_10))), (0, .ref (et (33))), (1, .int (x1)), (2, .int (x2))]) X.1 X.2.1 dX0_seat_32 rfl hv (by decide) rfl (fun ls hv => ?_)
      refine lv_aload_n X.1 X.2.1 dX0_seat_33 rfl (lv_at hv 0 rfl) ?_
      refine xc_i (xr_V (n := 0) (As := []) (i := u_10) X hk hw hv.1 (c_X5_isOfFigures l Z et S (u_10) _ h) (tb_V tw_249 tw_258 tw_247 tw_248 tw_48) (xE_row o_12) rfl rfl rfl rfl (by decide +kernel) ⟨Nat.le_of_ble_eq_true rfl, Nat.le_of_ble_eq_true rfl⟩ rfl (Nat.le_of_ble_eq_true rfl) dX0_seat_34 ⟨Nat.le_of_ble_eq_true rfl, Nat.le_of_ble_eq_true rfl⟩) hl (fun r_14 S_13 H locs h hN hw hl => ?_)
      have o_15 := oT_N hN o_9
      have o_16 := oR_N hN o_12
      replace hNN := hN.trans hNN
      refine lv_if_ne (tgt := 42) X.1 X.2.1 dX0_seat_37 (by decide) (fun c_17 => ?_) (fun c_17 => ?_)
      · skip
        replace h := h.1 c_17
        refine lv_iconst (v := 0) X.1 X.2.1 dX0_seat_42 (by decide) ?_
        refine lv_istore (lv' := [(4, .int (0)), (3, .ref (et (u_10))), (0, .ref (et (33))), (1, .int (x1)), (2, .int (x2))]) X.1 X.2.1 dX0_seat_43 hv (by decide) rfl (fun ls hv => ?_)
        refine lv_aload_n X.1 X.2.1 dX0_seat_45 rfl (lv_at hv 2 rfl) ?_
        refine xw_get X hk hw (i := 33) 0 xe_33 rfl tlX0 (by decide) rfl tw_96 dX0_seat_46 ?_
        refine lv_iload_n X.1 X.2.1 dX0_seat_49 rfl (lv_at hv 4 rfl) ?_
        obtain ⟨j_18, e_19, b_20, h⟩ := h
        refine xw_qld X hk hw xe_37 (C := RX7) rfl e_19 b_20 (by decide) dX0_seat_50 ?_
        refine xv_astore (lv' := [(6, va_rf (Option.map et (xQ S_13 37 j_18))), (4, .int (0)), (3, .ref (et (u_10))), (0, .ref (et (33))), (1, .int (x1)), (2, .int (x2))]) X.1 X.2.1 dX0_seat_51 hv (by decide) rfl (fun ls hv => ?_)
        refine xv_aload X.1 X.2.1 dX0_seat_53 (lv_at hv 0 rfl) ?_
        obtain ⟨o_21, h⟩ := h
        refine xw_instG X hk hw o_21 tw_418 dX0_seat_55 (fun u_22 c_23 o_24 => ?_) (fun c_23 => ?_)
        · skip
          replace h := h.1 u_22 c_23 o_24
          rw [c_23] at hv
          replace hv : lv_has ls 7 [(6, .ref (et (u_22))), (4, .int (0)), (3, .ref (et (u_10))), (0, .ref (et (33))), (1, .int (x1)), (2, .int (x2))] := hv
          refine lv_if_eq (tgt := 78) X.1 X.2.1 dX0_seat_58 (by decide) (fun c => absurd c (by decide)) (fun _ => ?_)
          refine lv_aload X.1 X.2.1 dX0_seat_61 (lv_at hv 0 rfl) ?_
          refine xw_castG X hk hw o_24 tw_418 dX0_seat_63 ?_
          refine lv_astore (lv' := [(5, .ref (et (u_22))), (6, .ref (et (u_22))), (4, .int (0)), (3, .ref (et (u_10))), (0, .ref (et (33))), (1, .int (x1)), (2, .int (x2))]) X.1 X.2.1 dX0_seat_66 hv (by decide) rfl (fun ls hv => ?_)
          refine lv_aload X.1 X.2.1 dX0_seat_68 (lv_at hv 0 rfl) ?_
          refine xw_getN X hk hw (i := u_22) 1 (xE_fig o_24) rfl tlX3 (by decide) rfl xn_26 dX0_seat_70 ?_
          refine lv_istore (lv' := [(4, .int ((xF S_13 u_22 1))), (5, .ref (et (u_22))), (6, .ref (et (u_22))), (3, .ref (et (u_10))), (0, .ref (et (33))), (1, .int (x1)), (2, .int (x2))]) X.1 X.2.1 dX0_seat_73 hv (by decide) rfl (fun ls hv => ?_)
          refine lv_goto (tgt := 89) X.1 X.2.1 dX0_seat_75 (by decide) ?_
          exact j_X0_seat_89 X hk hr hlocks (x1) (u_10) ((xF S_13 u_22 1)) S_13 _ _ _ h hNN hw hl (lv_sub hv [4, 5, 3, 0] rfl)
        · skip
          replace h := h.2 c_23
          refine lv_if_eq (tgt := 78) X.1 X.2.1 dX0_seat_58 (by decide) (fun _ => ?_) (fun c => absurd c (by decide))
          refine lv_aload_n X.1 X.2.1 dX0_seat_78 rfl (lv_at hv 3 rfl) ?_
          refine xw_get X hk hw (i := 33) 0 xe_33 rfl tlX0 (by decide) rfl tw_96 dX0_seat_79 ?_
          refine lv_iload_n X.1 X.2.1 dX0_seat_82 rfl (lv_at hv 5 rfl) ?_
          obtain ⟨j_25, e_26, b_27, h⟩ := h
          refine xw_qld X hk hw xe_37 (C := RX7) rfl e_26 b_27 (by decide) dX0_seat_83 ?_
          refine xv_ifnull (tgt := 89) X.1 X.2.1 dX0_seat_84 (by decide) (fun c_28 => ?_) (fun u_29 c_28 => ?_)
          · skip
            replace h := h.1 c_28
            exact j_X0_seat_89 X hk hr hlocks (x1) (u_10) (0) S_13 _ _ _ h hNN hw hl (lv_sub hv [3, 4, 2, 1] rfl)
          · skip
            replace h := h.2 u_29 c_28
            refine lv_iconst (v := 2) X.1 X.2.1 dX0_seat_87 (by decide) ?_
            exact xt_i X hr hlocks hNN hw hl h dX0_seat_88
      · skip
        replace h := h.2 c_17
        refine lv_iconst (v := 2) X.1 X.2.1 dX0_seat_40 (by decide) ?_
        exact xt_i X hr hlocks hNN hw hl h dX0_seat_41
    · skip
      replace h := h.2 c_11
      refine lv_if_eq (tgt := 40) X.1 X.2.1 dX0_seat_24 (by decide) (fun _ => ?_) (fun c => absurd c (by decide))
      refine lv_iconst (v := 2) X.1 X.2.1 dX0_seat_40 (by decide) ?_
      exact xt_i X hr hlocks hNN hw hl h dX0_seat_41
  · skip
    replace h := h.1 c_4
    refine lv_iconst (v := 1) X.1 X.2.1 dX0_seat_9 (by decide) ?_
    exact xt_i X hr hlocks hNN hw hl h dX0_seat_10
def v_X5_shut (u0 : Nat) (x1 : Int32) (x2 : Int32) (S : xs_T) (K : xs_T → Prop) : Prop := oR S u0 ∧ ∃ j_2 j_3 j_4 : Nat, (x1 + x2) = nI j_2 ∧ x1 = nI j_3 ∧ (((nI (xN S (u0 + 120))) - x1) - x2) = nI j_4 ∧ j_2 + j_4 ≤ xN S (u0 + 120) ∧ j_3 + j_4 ≤ xN S (u0 + 120) ∧ ∀ S_10 : xs_T, S_10 = tL S (u0 + 120) (va_cpy (xL S (u0 + 120)) (xL S (u0 + 120)) j_2 j_3 j_4) → v_X5_empty (u0) (((nI (xN S_10 (u0 + 120))) - x2)) ((nI (xN S_10 (u0 + 120)))) S_10 (fun (S_13 : xs_T) => K S_13)
set_option maxHeartbeats 4000000 in
set_option maxRecDepth 100000 in
theorem c_X5_shut (l : Launch) (Z : xz_T) (et : Nat → Nat) (S : xs_T) (u0 : Nat) (x1 : Int32) (x2 : Int32) (K : xs_T → Prop) (h : v_X5_shut u0 x1 x2 S K) : Met l yX5_shut (wq yX5_shut cX5_shut 3 none) { frames := 1, cells := 0, slots := 0, locals := 30 } (xPc Z et S [.ref (et (u0)), .int (x1), .int (x2)]) (xQv Z et S.2.2.2.2 K) 0 0 (fun q => Z.2.2.1 ≤ q) := by
  refine Met.ofW (cc := cX5_shut) (maxL := 3) (ret := none) (by decide +kernel) rfl ?_
  intro p e s m args below meth c s₁ B hml hv0
  obtain ⟨rfl, hk, hw⟩ := hv0
  have X : CallFix p m c cX5_shut 3 s _ (wq yX5_shut cX5_shut 3 none) RX5 := ⟨B.exec, B.bytes, hml, findClass_of_methodNamed B.named, atoms_spec (ws := (wq yX5_shut cX5_shut 3 none)) B.pre⟩
  have hr := B.returns
  have hlocks := B.notSynchronized
  have hl : xl Z [] := fun _ h => by cases h
  have hNN : S.2.2.2.2 = S.2.2.2.2 := rfl
  have hv := lv_entry [.ref (et (u0)), .int (x1), .int (x2)] (n := 3) (Nat.le_of_ble_eq_true rfl)
  rw [lg_entry_eq]
  generalize (lg_sl [.ref (et (u0)), .int (x1), .int (x2)] ++ List.replicate (3 - (lg_sl [.ref (et (u0)), .int (x1), .int (x2)]).length) Slot.unset).toArray = ls at hv ⊢
  replace hv : lv_has ls 3 [(0, .ref (et (u0))), (1, .int (x1)), (2, .int (x2))] := hv
  unfold v_X5_shut at h
  refine lv_aload_n X.1 X.2.1 dX5_shut_0 rfl (lv_at hv 0 rfl) ?_
  obtain ⟨o_1, h⟩ := h
  refine xw_get X hk hw (i := u0) 1 (xE_row o_1) rfl tlX5 (by decide) rfl tw_331 dX5_shut_1 ?_
  refine lv_iload_n X.1 X.2.1 dX5_shut_4 rfl (lv_at hv 1 rfl) ?_
  refine lv_iload_n X.1 X.2.1 dX5_shut_5 rfl (lv_at hv 2 rfl) ?_
  refine lv_iadd X.1 X.2.1 dX5_shut_6 ?_
  refine lv_aload_n X.1 X.2.1 dX5_shut_7 rfl (lv_at hv 0 rfl) ?_
  refine xw_get X hk hw (i := u0) 1 (xE_row o_1) rfl tlX5 (by decide) rfl tw_331 dX5_shut_8 ?_
  refine lv_iload_n X.1 X.2.1 dX5_shut_11 rfl (lv_at hv 1 rfl) ?_
  refine lv_aload_n X.1 X.2.1 dX5_shut_12 rfl (lv_at hv 0 rfl) ?_
  refine xw_get X hk hw (i := u0) 1 (xE_row o_1) rfl tlX5 (by decide) rfl tw_331 dX5_shut_13 ?_
  refine xw_len X hk hw (xE_arr o_1) dX5_shut_16 ?_
  refine lv_iload_n X.1 X.2.1 dX5_shut_17 rfl (lv_at hv 1 rfl) ?_
  refine lv_isub X.1 X.2.1 dX5_shut_18 ?_
  refine lv_iload_n X.1 X.2.1 dX5_shut_19 rfl (lv_at hv 2 rfl) ?_
  refine lv_isub X.1 X.2.1 dX5_shut_20 ?_
  obtain ⟨j_2, j_3, j_4, e_5, e_6, e_7, e_8, e_9, h⟩ := h
  refine xw_cpy X hk hw hl hv.1 (xE_arr o_1) (xE_arr o_1) (fun f => xE_arr (S := tL S (u0 + 120) f) o_1) e_5 e_6 e_7 e_8 e_9 (oR_lt o_1) (oR_lt o_1) tw_230 (Nat.le_of_ble_eq_true rfl) (Nat.le_of_ble_eq_true rfl) dX5_shut_21 (fun H locs hw hl => ?_)
  obtain ⟨S_10, e_11⟩ : ∃ T : xs_T, T = tL S (u0 + 120) (va_cpy (xL S (u0 + 120)) (xL S (u0 + 120)) j_2 j_3 j_4) := ⟨_, rfl⟩
  rw [← e_11] at hw
  replace h := h S_10 e_11
  have hN : S_10.2.2.2.2 = S.2.2.2.2 := by rw [e_11]; rfl
  have o_12 := oR_N hN o_1
  replace hNN := hN.trans hNN
  refine lv_aload_n X.1 X.2.1 dX5_shut_24 rfl (lv_at hv 0 rfl) ?_
  refine lv_aload_n X.1 X.2.1 dX5_shut_25 rfl (lv_at hv 0 rfl) ?_
  refine xw_get X hk hw (i := u0) 1 (xE_row o_12) rfl tlX5 (by decide) rfl tw_331 dX5_shut_26 ?_
  refine xw_len X hk hw (xE_arr o_12) dX5_shut_29 ?_
  refine lv_iload_n X.1 X.2.1 dX5_shut_30 rfl (lv_at hv 2 rfl) ?_
  refine lv_isub X.1 X.2.1 dX5_shut_31 ?_
  refine lv_aload_n X.1 X.2.1 dX5_shut_32 rfl (lv_at hv 0 rfl) ?_
  refine xw_get X hk hw (i := u0) 1 (xE_row o_12) rfl tlX5 (by decide) rfl tw_331 dX5_shut_33 ?_
  refine xw_len X hk hw (xE_arr o_12) dX5_shut_36 ?_
  refine xc_v (xr_V (n := 2) (As := [.int (((nI (xN S_10 (u0 + 120))) - x2)), .int ((nI (xN S_10 (u0 + 120))))]) (i := u0) X hk hw hv.1 (c_X5_empty l Z et S_10 (u0) (((nI (xN S_10 (u0 + 120))) - x2)) ((nI (xN S_10 (u0 + 120)))) _ h) (tb_V tw_300 tw_296 tw_298 tw_7 tw_48) (xE_row o_12) rfl rfl rfl rfl (by decide +kernel) ⟨Nat.le_of_ble_eq_true rfl, Nat.le_of_ble_eq_true rfl⟩ rfl (Nat.le_of_ble_eq_true rfl) dX5_shut_37 ⟨Nat.le_of_ble_eq_true rfl, Nat.le_of_ble_eq_true rfl⟩) hl (fun S_13 H locs h hN hw hl => ?_)
  have o_15 := oR_N hN o_12
  replace hNN := hN.trans hNN
  exact xt_v X hr hlocks hNN hw hl h dX5_shut_40
def v_X0_shut (x1 : Int32) (x2 : Int32) (S : xs_T) (K : Int32 → xs_T → Prop) : Prop := v_X0_refusalOfPlaces (x1) (x2) S (fun (r_2 : Int32) (S_1 : xs_T) => ((¬ r_2 = 0 → K (r_2) S_1) ∧ (r_2 = 0 → ∃ j_4 : Nat, x1 = nI j_4 ∧ j_4 < 10 ∧ oT S_1 (xQ S_1 37 j_4) ∧ ((∀ u_8 : Nat, xQ S_1 37 j_4 = some u_8 → oR S_1 u_8 → ∃ j_11 : Nat, x1 = nI j_11 ∧ j_11 < 10 ∧ v_X5_shut (u_8) ((xI S_1 38 j_11)) (x2) S_1 (fun (S_14 : xs_T) => K (r_2) S_14)) ∧ (¬ iR S_1 (xQ S_1 37 j_4) → K (r_2) S_1)))))
set_option maxHeartbeats 4000000 in
set_option maxRecDepth 100000 in
theorem c_X0_shut (l : Launch) (Z : xz_T) (et : Nat → Nat) (S : xs_T) (x1 : Int32) (x2 : Int32) (K : Int32 → xs_T → Prop) (h : v_X0_shut x1 x2 S K) : Met l yX0_shut (wq yX0_shut cX0_shut 6 (some .int)) { frames := 2, cells := 0, slots := 0, locals := 52 } (xPc Z et S [.ref (et (33)), .int (x1), .int (x2)]) (xQi Z et S.2.2.2.2 K) 0 0 (fun q => Z.2.2.1 ≤ q) := by
  refine Met.ofW (cc := cX0_shut) (maxL := 6) (ret := (some .int)) (by decide +kernel) rfl ?_
  intro p e s m args below meth c s₁ B hml hv0
  obtain ⟨rfl, hk, hw⟩ := hv0
  have X : CallFix p m c cX0_shut 6 s _ (wq yX0_shut cX0_shut 6 (some .int)) RX0 := ⟨B.exec, B.bytes, hml, findClass_of_methodNamed B.named, atoms_spec (ws := (wq yX0_shut cX0_shut 6 (some .int))) B.pre⟩
  have hr := B.returns
  have hlocks := B.notSynchronized
  have hl : xl Z [] := fun _ h => by cases h
  have hNN : S.2.2.2.2 = S.2.2.2.2 := rfl
  have hv := lv_entry [.ref (et (33)), .int (x1), .int (x2)] (n := 6) (Nat.le_of_ble_eq_true rfl)
  rw [lg_entry_eq]
  generalize (lg_sl [.ref (et (33)), .int (x1), .int (x2)] ++ List.replicate (6 - (lg_sl [.ref (et (33)), .int (x1), .int (x2)]).length) Slot.unset).toArray = ls at hv ⊢
  replace hv : lv_has ls 6 [(0, .ref (et (33))), (1, .int (x1)), (2, .int (x2))] := hv
  unfold v_X0_shut at h
  refine lv_aload_n X.1 X.2.1 dX0_shut_0 rfl (lv_at hv 0 rfl) ?_
  refine lv_iload_n X.1 X.2.1 dX0_shut_1 rfl (lv_at hv 1 rfl) ?_
  refine lv_iload_n X.1 X.2.1 dX0_shut_2 rfl (lv_at hv 2 rfl) ?_
  refine xc_i (xr_V (n := 2) (As := [.int (x1), .int (x2)]) (i := 33) X hk hw hv.1 (c_X0_refusalOfPlaces l Z et S (x1) (x2) _ h) (tb_V tw_291 tw_288 tw_290 tw_6 tw_40) xe_33 rfl rfl rfl rfl (by decide +kernel) ⟨Nat.le_of_ble_eq_true rfl, Nat.le_of_ble_eq_true rfl⟩ rfl (Nat.le_of_ble_eq_true rfl) dX0_shut_3 ⟨Nat.le_of_ble_eq_true rfl, Nat.le_of_ble_eq_true rfl⟩) hl (fun r_2 S_1 H locs h hN hw hl => ?_)
  replace hNN := hN.trans hNN
  refine lv_istore_n (lv' := [(3, .int (r_2)), (0, .ref (et (33))), (1, .int (x1)), (2, .int (x2))]) X.1 X.2.1 dX0_shut_6 rfl hv (by decide) rfl (fun ls hv => ?_)
  refine lv_iload_n X.1 X.2.1 dX0_shut_7 rfl (lv_at hv 0 rfl) ?_
  refine lv_if_ne (tgt := 46) X.1 X.2.1 dX0_shut_8 (by decide) (fun c_3 => ?_) (fun c_3 => ?_)
  · skip
    replace h := h.1 c_3
    refine lv_iload_n X.1 X.2.1 dX0_shut_46 rfl (lv_at hv 0 rfl) ?_
    exact xt_i X hr hlocks hNN hw hl h dX0_shut_47
  · skip
    replace h := h.2 c_3
    refine lv_aload_n X.1 X.2.1 dX0_shut_11 rfl (lv_at hv 1 rfl) ?_
    refine xw_get X hk hw (i := 33) 0 xe_33 rfl tlX0 (by decide) rfl tw_96 dX0_shut_12 ?_
    refine lv_iload_n X.1 X.2.1 dX0_shut_15 rfl (lv_at hv 2 rfl) ?_
    obtain ⟨j_4, e_5, b_6, h⟩ := h
    refine xw_qld X hk hw xe_37 (C := RX7) rfl e_5 b_6 (by decide) dX0_shut_16 ?_
    refine xv_astore (lv' := [(5, va_rf (Option.map et (xQ S_1 37 j_4))), (3, .int (r_2)), (0, .ref (et (33))), (1, .int (x1)), (2, .int (x2))]) X.1 X.2.1 dX0_shut_17 hv (by decide) rfl (fun ls hv => ?_)
    refine xv_aload X.1 X.2.1 dX0_shut_19 (lv_at hv 0 rfl) ?_
    obtain ⟨o_7, h⟩ := h
    refine xw_instR X hk hw o_7 tw_241 dX0_shut_21 (fun u_8 c_9 o_10 => ?_) (fun c_9 => ?_)
    · skip
      replace h := h.1 u_8 c_9 o_10
      rw [c_9] at hv
      replace hv : lv_has ls 6 [(5, .ref (et (u_8))), (3, .int (r_2)), (0, .ref (et (33))), (1, .int (x1)), (2, .int (x2))] := hv
      refine lv_if_eq (tgt := 46) X.1 X.2.1 dX0_shut_24 (by decide) (fun c => absurd c (by decide)) (fun _ => ?_)
      refine lv_aload X.1 X.2.1 dX0_shut_27 (lv_at hv 0 rfl) ?_
      refine xw_castR X hk hw o_10 tw_241 dX0_shut_29 ?_
      refine lv_astore (lv' := [(4, .ref (et (u_8))), (5, .ref (et (u_8))), (3, .int (r_2)), (0, .ref (et (33))), (1, .int (x1)), (2, .int (x2))]) X.1 X.2.1 dX0_shut_32 hv (by decide) rfl (fun ls hv => ?_)
      refine lv_aload X.1 X.2.1 dX0_shut_34 (lv_at hv 0 rfl) ?_
      refine lv_aload_n X.1 X.2.1 dX0_shut_36 rfl (lv_at hv 3 rfl) ?_
      refine xw_get X hk hw (i := 33) 1 xe_33 rfl tlX0 (by decide) rfl tw_98 dX0_shut_37 ?_
      refine lv_iload_n X.1 X.2.1 dX0_shut_40 rfl (lv_at hv 4 rfl) ?_
      obtain ⟨j_11, e_12, b_13, h⟩ := h
      refine xw_ild X hk hw xe_38 e_12 b_13 (by decide) dX0_shut_41 ?_
      refine lv_iload_n X.1 X.2.1 dX0_shut_42 rfl (lv_at hv 5 rfl) ?_
      refine xc_v (xr_V (n := 2) (As := [.int ((xI S_1 38 j_11)), .int (x2)]) (i := u_8) X hk hw hv.1 (c_X5_shut l Z et S_1 (u_8) ((xI S_1 38 j_11)) (x2) _ h) (tb_V tw_308 tw_305 tw_306 tw_307 tw_48) (xE_row o_10) rfl rfl rfl rfl (by decide +kernel) ⟨Nat.le_of_ble_eq_true rfl, Nat.le_of_ble_eq_true rfl⟩ rfl (Nat.le_of_ble_eq_true rfl) dX0_shut_43 ⟨Nat.le_of_ble_eq_true rfl, Nat.le_of_ble_eq_true rfl⟩) hl (fun S_14 H locs h hN hw hl => ?_)
      have o_16 := oT_N hN o_7
      have o_17 := oR_N hN o_10
      replace hNN := hN.trans hNN
      refine lv_iload_n X.1 X.2.1 dX0_shut_46 rfl (lv_at hv 2 rfl) ?_
      exact xt_i X hr hlocks hNN hw hl h dX0_shut_47
    · skip
      replace h := h.2 c_9
      refine lv_if_eq (tgt := 46) X.1 X.2.1 dX0_shut_24 (by decide) (fun _ => ?_) (fun c => absurd c (by decide))
      refine lv_iload_n X.1 X.2.1 dX0_shut_46 rfl (lv_at hv 1 rfl) ?_
      exact xt_i X hr hlocks hNN hw hl h dX0_shut_47
def v_X0_howManyFit_13 (K : Int32 → xs_T → Prop) : Nat → Nat → Int32 → Nat → Int32 → Int32 → xs_T → Prop
  | 0, _, _, _, _, _, _ => False
  | n + 1, u1, a2, u3, a4, a5, S => ((a4 ≤ a5 → K (a4) S) ∧ (¬ a4 ≤ a5 → oR S u1 ∧ ∃ j_9 : Nat, (a2 + a5) = nI j_9 ∧ j_9 < xN S (u1 + 120) ∧ v_X6_sortOf ((xL S (u1 + 120) j_9)) S (fun (r_13 : Int32) (S_12 : xs_T) => oR S_12 u3 ∧ v_X5_canHave (u3) (r_13) S_12 (fun (r_17 : Int32) (S_16 : xs_T) => ((¬ r_17 = 0 → v_X0_howManyFit_13 K n (u1) (a2) (u3) (a4) ((a5 + 1)) S_16) ∧ (r_17 = 0 → K (a5) S_16))))))
def v_X0_howManyFit (u1 : Nat) (x2 : Int32) (u3 : Nat) (x4 : Int32) (S : xs_T) (K : Int32 → xs_T → Prop) : Prop := oR S u3 ∧ v_X5_isOfFigures (u3) S (fun (r_3 : Int32) (S_2 : xs_T) => ((¬ r_3 = 0 → ∃ n, v_X0_howManyFit_13 K n (u1) (x2) (u3) (x4) (0) S_2) ∧ (r_3 = 0 → K (x4) S_2)))
set_option maxHeartbeats 4000000 in
set_option maxRecDepth 100000 in
theorem j_X0_howManyFit_13 {l : Launch} {p : Program} {e : Env} {s : State} {m : MethodId} {args : Array Value} {below : List Frame} {meth : Method} {c : Code} {Z : xz_T} {et : Nat → Nat} {Nn : Nat → Nat} {K : Int32 → xs_T → Prop} (X : CallFix p m c cX0_howManyFit 6 s args (wq yX0_howManyFit cX0_howManyFit 6 (some .int)) RX0) (hk : xk Z s) (hr : meth.sig.returnType = (some .int)) (hlocks : meth.locks = false) : ∀ (n : Nat) (u1 : Nat) (a2 : Int32) (u3 : Nat) (a4 : Int32) (a5 : Int32) (S : xs_T) (H : Heap) (locs : List Loc) (ls : Array Slot), v_X0_howManyFit_13 K n u1 a2 u3 a4 a5 S → S.2.2.2.2 = Nn → wd Z et S H → xl Z locs → lv_has ls 6 [(0, .ref (et (33))), (1, .ref (et (u1))), (2, .int (a2)), (3, .ref (et (u3))), (4, .int (a4)), (5, .int (a5))] → W p l e (headSpec (wq yX0_howManyFit cX0_howManyFit 6 (some .int)) { frames := 2, cells := 0, slots := 0, locals := 45 }).room s m args below meth c H locs 0 0 (MQ below (xQi Z et Nn K) args s 0 0 (fun q => Z.2.2.1 ≤ q)) (F0 m 13 ls []) := by
  intro n
  induction n with
  | zero =>
    intro u1 a2 u3 a4 a5 S H locs ls h hNN hw hl hv
    exact False.elim h
  | succ n ih =>
    intro u1 a2 u3 a4 a5 S H locs ls h hNN hw hl hv
    rw [v_X0_howManyFit_13] at h
    refine lv_iload X.1 X.2.1 dX0_howManyFit_13 (lv_at hv 5 rfl) ?_
    refine lv_iload X.1 X.2.1 dX0_howManyFit_15 (lv_at hv 4 rfl) ?_
    refine lv_icmp_ge (tgt := 52) X.1 X.2.1 dX0_howManyFit_17 (by decide) (fun c_7 => ?_) (fun c_7 => ?_)
    · skip
      replace h := h.1 c_7
      refine lv_iload X.1 X.2.1 dX0_howManyFit_52 (lv_at hv 4 rfl) ?_
      exact xt_i X hr hlocks hNN hw hl h dX0_howManyFit_54
    · skip
      replace h := h.2 c_7
      refine lv_aload_n X.1 X.2.1 dX0_howManyFit_20 rfl (lv_at hv 3 rfl) ?_
      refine lv_aload_n X.1 X.2.1 dX0_howManyFit_21 rfl (lv_at hv 0 rfl) ?_
      refine xw_get X hk hw (i := 33) 3 xe_33 rfl tlX0 (by decide) rfl tw_101 dX0_howManyFit_22 ?_
      refine lv_aload_n X.1 X.2.1 dX0_howManyFit_25 rfl (lv_at hv 1 rfl) ?_
      obtain ⟨o_8, h⟩ := h
      refine xw_getN X hk hw (i := u1) 1 (xE_row o_8) rfl tlX5 (by decide) rfl xn_19 dX0_howManyFit_26 ?_
      refine lv_iload_n X.1 X.2.1 dX0_howManyFit_29 rfl (lv_at hv 2 rfl) ?_
      refine lv_iload X.1 X.2.1 dX0_howManyFit_30 (lv_at hv 5 rfl) ?_
      refine lv_iadd X.1 X.2.1 dX0_howManyFit_32 ?_
      obtain ⟨j_9, e_10, b_11, h⟩ := h
      refine xw_lld X hk hw (xE_arr o_8) e_10 b_11 (oR_lt o_8) dX0_howManyFit_33 ?_
      refine xc_i (xr_V (n := 1) (As := [.long ((xL S (u1 + 120) j_9))]) (i := 40) X hk hw hv.1 (c_X6_sortOf l Z et S ((xL S (u1 + 120) j_9)) _ h) (tb_V tw_262 tw_259 tw_260 tw_261 tw_41) xe_40 rfl rfl rfl rfl (by decide +kernel) ⟨Nat.le_of_ble_eq_true rfl, Nat.le_of_ble_eq_true rfl⟩ rfl (Nat.le_of_ble_eq_true rfl) dX0_howManyFit_34 ⟨Nat.le_of_ble_eq_true rfl, Nat.le_of_ble_eq_true rfl⟩) hl (fun r_13 S_12 H locs h hN hw hl => ?_)
      have o_14 := oR_N hN o_8
      replace hNN := hN.trans hNN
      obtain ⟨o_15, h⟩ := h
      refine xc_i (xr_V (n := 1) (As := [.int (r_13)]) (i := u3) X hk hw hv.1 (c_X5_canHave l Z et S_12 (u3) (r_13) _ h) (tb_V tw_270 tw_267 tw_268 tw_269 tw_48) (xE_row o_15) rfl rfl rfl rfl (by decide +kernel) ⟨Nat.le_of_ble_eq_true rfl, Nat.le_of_ble_eq_true rfl⟩ rfl (Nat.le_of_ble_eq_true rfl) dX0_howManyFit_37 ⟨Nat.le_of_ble_eq_true rfl, Nat.le_of_ble_eq_true rfl⟩) hl (fun r_17 S_16 H locs h hN hw hl => ?_)
      have o_18 := oR_N hN o_14
      have o_19 := oR_N hN o_15
      replace hNN := hN.trans hNN
      refine lv_if_ne (tgt := 46) X.1 X.2.1 dX0_howManyFit_40 (by decide) (fun c_20 => ?_) (fun c_20 => ?_)
      · skip
        replace h := h.1 c_20
        refine lv_iinc (v := (a5 + 1)) (lv' := [(5, .int ((a5 + 1))), (0, .ref (et (33))), (1, .ref (et (u1))), (2, .int (a2)), (3, .ref (et (u3))), (4, .int (a4))]) X.1 X.2.1 dX0_howManyFit_46 hv (k := 5) rfl rfl (by decide) rfl (fun ls hv => ?_)
        refine lv_goto (tgt := 13) X.1 X.2.1 dX0_howManyFit_49 (by decide) ?_
        exact ih (u1) (a2) (u3) (a4) ((a5 + 1)) S_16 _ _ _ h hNN hw hl (lv_sub hv [1, 2, 3, 4, 5, 0] rfl)
      · skip
        replace h := h.2 c_20
        refine lv_iload X.1 X.2.1 dX0_howManyFit_43 (lv_at hv 5 rfl) ?_
        exact xt_i X hr hlocks hNN hw hl h dX0_howManyFit_45
set_option maxHeartbeats 4000000 in
set_option maxRecDepth 100000 in
theorem c_X0_howManyFit (l : Launch) (Z : xz_T) (et : Nat → Nat) (S : xs_T) (u1 : Nat) (x2 : Int32) (u3 : Nat) (x4 : Int32) (K : Int32 → xs_T → Prop) (h : v_X0_howManyFit u1 x2 u3 x4 S K) : Met l yX0_howManyFit (wq yX0_howManyFit cX0_howManyFit 6 (some .int)) { frames := 2, cells := 0, slots := 0, locals := 45 } (xPc Z et S [.ref (et (33)), .ref (et (u1)), .int (x2), .ref (et (u3)), .int (x4)]) (xQi Z et S.2.2.2.2 K) 0 0 (fun q => Z.2.2.1 ≤ q) := by
  refine Met.ofW (cc := cX0_howManyFit) (maxL := 6) (ret := (some .int)) (by decide +kernel) rfl ?_
  intro p e s m args below meth c s₁ B hml hv0
  obtain ⟨rfl, hk, hw⟩ := hv0
  have X : CallFix p m c cX0_howManyFit 6 s _ (wq yX0_howManyFit cX0_howManyFit 6 (some .int)) RX0 := ⟨B.exec, B.bytes, hml, findClass_of_methodNamed B.named, atoms_spec (ws := (wq yX0_howManyFit cX0_howManyFit 6 (some .int))) B.pre⟩
  have hr := B.returns
  have hlocks := B.notSynchronized
  have hl : xl Z [] := fun _ h => by cases h
  have hNN : S.2.2.2.2 = S.2.2.2.2 := rfl
  have hv := lv_entry [.ref (et (33)), .ref (et (u1)), .int (x2), .ref (et (u3)), .int (x4)] (n := 6) (Nat.le_of_ble_eq_true rfl)
  rw [lg_entry_eq]
  generalize (lg_sl [.ref (et (33)), .ref (et (u1)), .int (x2), .ref (et (u3)), .int (x4)] ++ List.replicate (6 - (lg_sl [.ref (et (33)), .ref (et (u1)), .int (x2), .ref (et (u3)), .int (x4)]).length) Slot.unset).toArray = ls at hv ⊢
  replace hv : lv_has ls 6 [(0, .ref (et (33))), (1, .ref (et (u1))), (2, .int (x2)), (3, .ref (et (u3))), (4, .int (x4))] := hv
  unfold v_X0_howManyFit at h
  refine lv_aload_n X.1 X.2.1 dX0_howManyFit_0 rfl (lv_at hv 3 rfl) ?_
  obtain ⟨o_1, h⟩ := h
  refine xc_i (xr_V (n := 0) (As := []) (i := u3) X hk hw hv.1 (c_X5_isOfFigures l Z et S (u3) _ h) (tb_V tw_249 tw_258 tw_247 tw_248 tw_48) (xE_row o_1) rfl rfl rfl rfl (by decide +kernel) ⟨Nat.le_of_ble_eq_true rfl, Nat.le_of_ble_eq_true rfl⟩ rfl (Nat.le_of_ble_eq_true rfl) dX0_howManyFit_1 ⟨Nat.le_of_ble_eq_true rfl, Nat.le_of_ble_eq_true rfl⟩) hl (fun r_3 S_2 H locs h hN hw hl => ?_)
  have o_4 := oR_N hN o_1
  replace hNN := hN.trans hNN
  refine lv_if_ne (tgt := 10) X.1 X.2.1 dX0_howManyFit_4 (by decide) (fun c_5 => ?_) (fun c_5 => ?_)
  · skip
    replace h := h.1 c_5
    refine lv_iconst (v := 0) X.1 X.2.1 dX0_howManyFit_10 (by decide) ?_
    refine lv_istore (lv' := [(5, .int (0)), (0, .ref (et (33))), (1, .ref (et (u1))), (2, .int (x2)), (3, .ref (et (u3))), (4, .int (x4))]) X.1 X.2.1 dX0_howManyFit_11 hv (by decide) rfl (fun ls hv => ?_)
    obtain ⟨n_6, h⟩ := h
    exact j_X0_howManyFit_13 X hk hr hlocks n_6 (u1) (x2) (u3) (x4) (0) S_2 _ _ _ h hNN hw hl (lv_sub hv [1, 2, 3, 4, 5, 0] rfl)
  · skip
    replace h := h.2 c_5
    refine lv_iload X.1 X.2.1 dX0_howManyFit_7 (lv_at hv 4 rfl) ?_
    exact xt_i X hr hlocks hNN hw hl h dX0_howManyFit_9
def v_X5_isAlike (u0 : Nat) (u1 : Nat) (S : xs_T) (K : Int32 → xs_T → Prop) : Prop := oR S u0 ∧ oR S u1 ∧ (((xF S u0 0) = (xF S u1 0) → K (1) S) ∧ (¬ (xF S u0 0) = (xF S u1 0) → v_X5_isOfFigures (u0) S (fun (r_5 : Int32) (S_4 : xs_T) => ((r_5 = 0 → K (0) S_4) ∧ (¬ r_5 = 0 → v_X5_isOfFigures (u1) S_4 (fun (r_10 : Int32) (S_9 : xs_T) => ((r_10 = 0 → K (0) S_9) ∧ (¬ r_10 = 0 → K (1) S_9))))))))
set_option maxHeartbeats 4000000 in
set_option maxRecDepth 100000 in
theorem c_X5_isAlike (l : Launch) (Z : xz_T) (et : Nat → Nat) (S : xs_T) (u0 : Nat) (u1 : Nat) (K : Int32 → xs_T → Prop) (h : v_X5_isAlike u0 u1 S K) : Met l yX5_isAlike (wq yX5_isAlike cX5_isAlike 2 (some .boolean)) { frames := 1, cells := 0, slots := 0, locals := 20 } (xPc Z et S [.ref (et (u0)), .ref (et (u1))]) (xQi Z et S.2.2.2.2 K) 0 0 (fun q => Z.2.2.1 ≤ q) := by
  refine Met.ofW (cc := cX5_isAlike) (maxL := 2) (ret := (some .boolean)) (by decide +kernel) rfl ?_
  intro p e s m args below meth c s₁ B hml hv0
  obtain ⟨rfl, hk, hw⟩ := hv0
  have X : CallFix p m c cX5_isAlike 2 s _ (wq yX5_isAlike cX5_isAlike 2 (some .boolean)) RX5 := ⟨B.exec, B.bytes, hml, findClass_of_methodNamed B.named, atoms_spec (ws := (wq yX5_isAlike cX5_isAlike 2 (some .boolean))) B.pre⟩
  have hr := B.returns
  have hlocks := B.notSynchronized
  have hl : xl Z [] := fun _ h => by cases h
  have hNN : S.2.2.2.2 = S.2.2.2.2 := rfl
  have hv := lv_entry [.ref (et (u0)), .ref (et (u1))] (n := 2) (Nat.le_of_ble_eq_true rfl)
  rw [lg_entry_eq]
  generalize (lg_sl [.ref (et (u0)), .ref (et (u1))] ++ List.replicate (2 - (lg_sl [.ref (et (u0)), .ref (et (u1))]).length) Slot.unset).toArray = ls at hv ⊢
  replace hv : lv_has ls 2 [(0, .ref (et (u0))), (1, .ref (et (u1)))] := hv
  unfold v_X5_isAlike at h
  refine lv_aload_n X.1 X.2.1 dX5_isAlike_0 rfl (lv_at hv 0 rfl) ?_
  obtain ⟨o_1, h⟩ := h
  refine xw_get X hk hw (i := u0) 0 (xE_row o_1) rfl tlX5 (by decide) rfl tw_329 dX5_isAlike_1 ?_
  refine lv_aload_n X.1 X.2.1 dX5_isAlike_4 rfl (lv_at hv 1 rfl) ?_
  obtain ⟨o_2, h⟩ := h
  refine xw_get X hk hw (i := u1) 0 (xE_row o_2) rfl tlX5 (by decide) rfl tw_329 dX5_isAlike_5 ?_
  refine lv_icmp_eq (tgt := 25) X.1 X.2.1 dX5_isAlike_8 (by decide) (fun c_3 => ?_) (fun c_3 => ?_)
  · skip
    replace h := h.1 c_3
    refine lv_iconst (v := 1) X.1 X.2.1 dX5_isAlike_25 (by decide) ?_
    refine lv_goto (tgt := 30) X.1 X.2.1 dX5_isAlike_26 (by decide) ?_
    exact xt_z X hr hlocks hNN hw hl (by decide) h dX5_isAlike_30
  · skip
    replace h := h.2 c_3
    refine lv_aload_n X.1 X.2.1 dX5_isAlike_11 rfl (lv_at hv 0 rfl) ?_
    refine xc_i (xr_V (n := 0) (As := []) (i := u0) X hk hw hv.1 (c_X5_isOfFigures l Z et S (u0) _ h) (tb_V tw_249 tw_246 tw_247 tw_248 tw_48) (xE_row o_1) rfl rfl rfl rfl (by decide +kernel) ⟨Nat.le_of_ble_eq_true rfl, Nat.le_of_ble_eq_true rfl⟩ rfl (Nat.le_of_ble_eq_true rfl) dX5_isAlike_12 ⟨Nat.le_of_ble_eq_true rfl, Nat.le_of_ble_eq_true rfl⟩) hl (fun r_5 S_4 H locs h hN hw hl => ?_)
    have o_6 := oR_N hN o_1
    have o_7 := oR_N hN o_2
    replace hNN := hN.trans hNN
    refine lv_if_eq (tgt := 29) X.1 X.2.1 dX5_isAlike_15 (by decide) (fun c_8 => ?_) (fun c_8 => ?_)
    · skip
      replace h := h.1 c_8
      refine lv_iconst (v := 0) X.1 X.2.1 dX5_isAlike_29 (by decide) ?_
      exact xt_z X hr hlocks hNN hw hl (by decide) h dX5_isAlike_30
    · skip
      replace h := h.2 c_8
      refine lv_aload_n X.1 X.2.1 dX5_isAlike_18 rfl (lv_at hv 1 rfl) ?_
      refine xc_i (xr_V (n := 0) (As := []) (i := u1) X hk hw hv.1 (c_X5_isOfFigures l Z et S_4 (u1) _ h) (tb_V tw_249 tw_246 tw_247 tw_248 tw_48) (xE_row o_7) rfl rfl rfl rfl (by decide +kernel) ⟨Nat.le_of_ble_eq_true rfl, Nat.le_of_ble_eq_true rfl⟩ rfl (Nat.le_of_ble_eq_true rfl) dX5_isAlike_19 ⟨Nat.le_of_ble_eq_true rfl, Nat.le_of_ble_eq_true rfl⟩) hl (fun r_10 S_9 H locs h hN hw hl => ?_)
      have o_11 := oR_N hN o_6
      have o_12 := oR_N hN o_7
      replace hNN := hN.trans hNN
      refine lv_if_eq (tgt := 29) X.1 X.2.1 dX5_isAlike_22 (by decide) (fun c_13 => ?_) (fun c_13 => ?_)
      · skip
        replace h := h.1 c_13
        refine lv_iconst (v := 0) X.1 X.2.1 dX5_isAlike_29 (by decide) ?_
        exact xt_z X hr hlocks hNN hw hl (by decide) h dX5_isAlike_30
      · skip
        replace h := h.2 c_13
        refine lv_iconst (v := 1) X.1 X.2.1 dX5_isAlike_25 (by decide) ?_
        refine lv_goto (tgt := 30) X.1 X.2.1 dX5_isAlike_26 (by decide) ?_
        exact xt_z X hr hlocks hNN hw hl (by decide) h dX5_isAlike_30
def v_X0_splice (x1 : Int32) (x2 : Int32) (x3 : Int32) (S : xs_T) (K : Int32 → xs_T → Prop) : Prop := ∃ j_1 : Nat, x1 = nI j_1 ∧ j_1 < 10 ∧ ((xQ S 37 j_1 = none → K (1) S) ∧ (∀ u_5 : Nat, xQ S 37 j_1 = some u_5 → ∃ j_6 : Nat, x2 = nI j_6 ∧ j_6 < 10 ∧ ((xQ S 37 j_6 = none → K (1) S) ∧ (∀ u_10 : Nat, xQ S 37 j_6 = some u_10 → ∃ j_11 : Nat, x1 = nI j_11 ∧ j_11 < 10 ∧ oT S (xQ S 37 j_11) ∧ ((∀ u_15 : Nat, xQ S 37 j_11 = some u_15 → oR S u_15 → ∃ j_18 : Nat, x2 = nI j_18 ∧ j_18 < 10 ∧ oT S (xQ S 37 j_18) ∧ ((∀ u_22 : Nat, xQ S 37 j_18 = some u_22 → oR S u_22 → v_X5_isAlike (u_15) (u_22) S (fun (r_26 : Int32) (S_25 : xs_T) => ((¬ r_26 = 0 → ∃ j_32 : Nat, x1 = nI j_32 ∧ j_32 < 10 ∧ v_X5_hasPlaces (u_15) ((xI S_25 38 j_32)) (x3) S_25 (fun (r_36 : Int32) (S_35 : xs_T) => ((r_36 = 0 → K (3) S_35) ∧ (¬ r_36 = 0 → ∃ j_42 : Nat, x2 = nI j_42 ∧ j_42 < 10 ∧ v_X5_hasPlaces (u_22) ((xI S_35 38 j_42)) (x3) S_35 (fun (r_46 : Int32) (S_45 : xs_T) => ((¬ r_46 = 0 → ∃ j_52 : Nat, x1 = nI j_52 ∧ j_52 < 10 ∧ v_X0_howManyFit (u_15) ((xI S_45 38 j_52)) (u_22) (x3) S_45 (fun (r_56 : Int32) (S_55 : xs_T) => ∃ j_61 : Nat, x1 = nI j_61 ∧ j_61 < 10 ∧ ∃ j_64 : Nat, x2 = nI j_64 ∧ j_64 < 10 ∧ ∃ j_67 j_68 j_69 : Nat, (xI S_55 38 j_61) = nI j_67 ∧ (xI S_55 38 j_64) = nI j_68 ∧ r_56 = nI j_69 ∧ j_67 + j_69 ≤ xN S_55 (u_15 + 120) ∧ j_68 + j_69 ≤ xN S_55 (u_22 + 120) ∧ ∀ S_75 : xs_T, S_75 = tL S_55 (u_22 + 120) (va_cpy (xL S_55 (u_15 + 120)) (xL S_55 (u_22 + 120)) j_67 j_68 j_69) → ((¬ r_56 = x3 → K (2) S_75) ∧ (r_56 = x3 → K (0) S_75)))) ∧ (r_46 = 0 → K (3) S_45))))))) ∧ (r_26 = 0 → K (2) S_25)))) ∧ (¬ iR S (xQ S 37 j_18) → K (2) S))) ∧ (¬ iR S (xQ S 37 j_11) → K (2) S))))))
set_option maxHeartbeats 4000000 in
set_option maxRecDepth 100000 in
theorem c_X0_splice (l : Launch) (Z : xz_T) (et : Nat → Nat) (S : xs_T) (x1 : Int32) (x2 : Int32) (x3 : Int32) (K : Int32 → xs_T → Prop) (h : v_X0_splice x1 x2 x3 S K) : Met l yX0_splice (wq yX0_splice cX0_splice 7 (some .int)) { frames := 3, cells := 0, slots := 0, locals := 70 } (xPc Z et S [.ref (et (33)), .int (x1), .int (x2), .int (x3)]) (xQi Z et S.2.2.2.2 K) 0 0 (fun q => Z.2.2.1 ≤ q) := by
  refine Met.ofW (cc := cX0_splice) (maxL := 7) (ret := (some .int)) (by decide +kernel) rfl ?_
  intro p e s m args below meth c s₁ B hml hv0
  obtain ⟨rfl, hk, hw⟩ := hv0
  have X : CallFix p m c cX0_splice 7 s _ (wq yX0_splice cX0_splice 7 (some .int)) RX0 := ⟨B.exec, B.bytes, hml, findClass_of_methodNamed B.named, atoms_spec (ws := (wq yX0_splice cX0_splice 7 (some .int))) B.pre⟩
  have hr := B.returns
  have hlocks := B.notSynchronized
  have hl : xl Z [] := fun _ h => by cases h
  have hNN : S.2.2.2.2 = S.2.2.2.2 := rfl
  have hv := lv_entry [.ref (et (33)), .int (x1), .int (x2), .int (x3)] (n := 7) (Nat.le_of_ble_eq_true rfl)
  rw [lg_entry_eq]
  generalize (lg_sl [.ref (et (33)), .int (x1), .int (x2), .int (x3)] ++ List.replicate (7 - (lg_sl [.ref (et (33)), .int (x1), .int (x2), .int (x3)]).length) Slot.unset).toArray = ls at hv ⊢
  replace hv : lv_has ls 7 [(0, .ref (et (33))), (1, .int (x1)), (2, .int (x2)), (3, .int (x3))] := hv
  unfold v_X0_splice at h
  refine lv_aload_n X.1 X.2.1 dX0_splice_0 rfl (lv_at hv 0 rfl) ?_
  refine xw_get X hk hw (i := 33) 0 xe_33 rfl tlX0 (by decide) rfl tw_96 dX0_splice_1 ?_
  refine lv_iload_n X.1 X.2.1 dX0_splice_4 rfl (lv_at hv 1 rfl) ?_
  obtain ⟨j_1, e_2, b_3, h⟩ := h
  refine xw_qld X hk hw xe_37 (C := RX7) rfl e_2 b_3 (by decide) dX0_splice_5 ?_
  refine xv_ifnull (tgt := 18) X.1 X.2.1 dX0_splice_6 (by decide) (fun c_4 => ?_) (fun u_5 c_4 => ?_)
  · skip
    replace h := h.1 c_4
    refine lv_iconst (v := 1) X.1 X.2.1 dX0_splice_18 (by decide) ?_
    exact xt_i X hr hlocks hNN hw hl h dX0_splice_19
  · skip
    replace h := h.2 u_5 c_4
    refine lv_aload_n X.1 X.2.1 dX0_splice_9 rfl (lv_at hv 0 rfl) ?_
    refine xw_get X hk hw (i := 33) 0 xe_33 rfl tlX0 (by decide) rfl tw_96 dX0_splice_10 ?_
    refine lv_iload_n X.1 X.2.1 dX0_splice_13 rfl (lv_at hv 2 rfl) ?_
    obtain ⟨j_6, e_7, b_8, h⟩ := h
    refine xw_qld X hk hw xe_37 (C := RX7) rfl e_7 b_8 (by decide) dX0_splice_14 ?_
    refine xv_ifnonnull (tgt := 20) X.1 X.2.1 dX0_splice_15 (by decide) (fun u_10 c_9 => ?_) (fun c_9 => ?_)
    · skip
      replace h := h.2 u_10 c_9
      refine lv_aload_n X.1 X.2.1 dX0_splice_20 rfl (lv_at hv 0 rfl) ?_
      refine xw_get X hk hw (i := 33) 0 xe_33 rfl tlX0 (by decide) rfl tw_96 dX0_splice_21 ?_
      refine lv_iload_n X.1 X.2.1 dX0_splice_24 rfl (lv_at hv 1 rfl) ?_
      obtain ⟨j_11, e_12, b_13, h⟩ := h
      refine xw_qld X hk hw xe_37 (C := RX7) rfl e_12 b_13 (by decide) dX0_splice_25 ?_
      refine xv_astore (lv' := [(6, va_rf (Option.map et (xQ S 37 j_11))), (0, .ref (et (33))), (1, .int (x1)), (2, .int (x2)), (3, .int (x3))]) X.1 X.2.1 dX0_splice_26 hv (by decide) rfl (fun ls hv => ?_)
      refine xv_aload X.1 X.2.1 dX0_splice_28 (lv_at hv 0 rfl) ?_
      obtain ⟨o_14, h⟩ := h
      refine xw_instR X hk hw o_14 tw_241 dX0_splice_30 (fun u_15 c_16 o_17 => ?_) (fun c_16 => ?_)
      · skip
        replace h := h.1 u_15 c_16 o_17
        rw [c_16] at hv
        replace hv : lv_has ls 7 [(6, .ref (et (u_15))), (0, .ref (et (33))), (1, .int (x1)), (2, .int (x2)), (3, .int (x3))] := hv
        refine lv_if_eq (tgt := 76) X.1 X.2.1 dX0_splice_33 (by decide) (fun c => absurd c (by decide)) (fun _ => ?_)
        refine lv_aload X.1 X.2.1 dX0_splice_36 (lv_at hv 0 rfl) ?_
        refine xw_castR X hk hw o_17 tw_241 dX0_splice_38 ?_
        refine lv_astore (lv' := [(4, .ref (et (u_15))), (6, .ref (et (u_15))), (0, .ref (et (33))), (1, .int (x1)), (2, .int (x2)), (3, .int (x3))]) X.1 X.2.1 dX0_splice_41 hv (by decide) rfl (fun ls hv => ?_)
        refine lv_aload_n X.1 X.2.1 dX0_splice_43 rfl (lv_at hv 2 rfl) ?_
        refine xw_get X hk hw (i := 33) 0 xe_33 rfl tlX0 (by decide) rfl tw_96 dX0_splice_44 ?_
        refine lv_iload_n X.1 X.2.1 dX0_splice_47 rfl (lv_at hv 4 rfl) ?_
        obtain ⟨j_18, e_19, b_20, h⟩ := h
        refine xw_qld X hk hw xe_37 (C := RX7) rfl e_19 b_20 (by decide) dX0_splice_48 ?_
        refine xv_astore (lv' := [(6, va_rf (Option.map et (xQ S 37 j_18))), (4, .ref (et (u_15))), (0, .ref (et (33))), (1, .int (x1)), (2, .int (x2)), (3, .int (x3))]) X.1 X.2.1 dX0_splice_49 hv (by decide) rfl (fun ls hv => ?_)
        refine xv_aload X.1 X.2.1 dX0_splice_51 (lv_at hv 0 rfl) ?_
        obtain ⟨o_21, h⟩ := h
        refine xw_instR X hk hw o_21 tw_241 dX0_splice_53 (fun u_22 c_23 o_24 => ?_) (fun c_23 => ?_)
        · skip
          replace h := h.1 u_22 c_23 o_24
          rw [c_23] at hv
          replace hv : lv_has ls 7 [(6, .ref (et (u_22))), (4, .ref (et (u_15))), (0, .ref (et (33))), (1, .int (x1)), (2, .int (x2)), (3, .int (x3))] := hv
          refine lv_if_eq (tgt := 76) X.1 X.2.1 dX0_splice_56 (by decide) (fun c => absurd c (by decide)) (fun _ => ?_)
          refine lv_aload X.1 X.2.1 dX0_splice_59 (lv_at hv 0 rfl) ?_
          refine xw_castR X hk hw o_24 tw_241 dX0_splice_61 ?_
          refine lv_astore (lv' := [(5, .ref (et (u_22))), (6, .ref (et (u_22))), (4, .ref (et (u_15))), (0, .ref (et (33))), (1, .int (x1)), (2, .int (x2)), (3, .int (x3))]) X.1 X.2.1 dX0_splice_64 hv (by decide) rfl (fun ls hv => ?_)
          refine lv_aload X.1 X.2.1 dX0_splice_66 (lv_at hv 2 rfl) ?_
          refine lv_aload X.1 X.2.1 dX0_splice_68 (lv_at hv 0 rfl) ?_
          refine xc_i (xr_V (n := 1) (As := [.ref (et (u_22))]) (i := u_15) X hk hw hv.1 (c_X5_isAlike l Z et S (u_15) (u_22) _ h) (tb_V tw_245 tw_242 tw_243 tw_244 tw_48) (xE_row o_17) rfl rfl rfl rfl (by decide +kernel) ⟨Nat.le_of_ble_eq_true rfl, Nat.le_of_ble_eq_true rfl⟩ rfl (Nat.le_of_ble_eq_true rfl) dX0_splice_70 ⟨Nat.le_of_ble_eq_true rfl, Nat.le_of_ble_eq_true rfl⟩) hl (fun r_26 S_25 H locs h hN hw hl => ?_)
          have o_27 := oT_N hN o_14
          have o_28 := oR_N hN o_17
          have o_29 := oT_N hN o_21
          have o_30 := oR_N hN o_24
          replace hNN := hN.trans hNN
          refine lv_if_ne (tgt := 78) X.1 X.2.1 dX0_splice_73 (by decide) (fun c_31 => ?_) (fun c_31 => ?_)
          · skip
            replace h := h.1 c_31
            refine lv_aload X.1 X.2.1 dX0_splice_78 (lv_at hv 2 rfl) ?_
            refine lv_aload_n X.1 X.2.1 dX0_splice_80 rfl (lv_at hv 3 rfl) ?_
            refine xw_get X hk hw (i := 33) 1 xe_33 rfl tlX0 (by decide) rfl tw_98 dX0_splice_81 ?_
            refine lv_iload_n X.1 X.2.1 dX0_splice_84 rfl (lv_at hv 4 rfl) ?_
            obtain ⟨j_32, e_33, b_34, h⟩ := h
            refine xw_ild X hk hw xe_38 e_33 b_34 (by decide) dX0_splice_85 ?_
            refine lv_iload_n X.1 X.2.1 dX0_splice_86 rfl (lv_at hv 6 rfl) ?_
            refine xc_i (xr_V (n := 2) (As := [.int ((xI S_25 38 j_32)), .int (x3)]) (i := u_15) X hk hw hv.1 (c_X5_hasPlaces l Z et S_25 (u_15) ((xI S_25 38 j_32)) (x3) _ h) (tb_V tw_253 tw_250 tw_251 tw_252 tw_48) (xE_row o_28) rfl rfl rfl rfl (by decide +kernel) ⟨Nat.le_of_ble_eq_true rfl, Nat.le_of_ble_eq_true rfl⟩ rfl (Nat.le_of_ble_eq_true rfl) dX0_splice_87 ⟨Nat.le_of_ble_eq_true rfl, Nat.le_of_ble_eq_true rfl⟩) hl (fun r_36 S_35 H locs h hN hw hl => ?_)
            have o_37 := oT_N hN o_27
            have o_38 := oR_N hN o_28
            have o_39 := oT_N hN o_29
            have o_40 := oR_N hN o_30
            replace hNN := hN.trans hNN
            refine lv_if_eq (tgt := 108) X.1 X.2.1 dX0_splice_90 (by decide) (fun c_41 => ?_) (fun c_41 => ?_)
            · skip
              replace h := h.1 c_41
              refine lv_iconst (v := 3) X.1 X.2.1 dX0_splice_108 (by decide) ?_
              exact xt_i X hr hlocks hNN hw hl h dX0_splice_109
            · skip
              replace h := h.2 c_41
              refine lv_aload X.1 X.2.1 dX0_splice_93 (lv_at hv 0 rfl) ?_
              refine lv_aload_n X.1 X.2.1 dX0_splice_95 rfl (lv_at hv 3 rfl) ?_
              refine xw_get X hk hw (i := 33) 1 xe_33 rfl tlX0 (by decide) rfl tw_98 dX0_splice_96 ?_
              refine lv_iload_n X.1 X.2.1 dX0_splice_99 rfl (lv_at hv 5 rfl) ?_
              obtain ⟨j_42, e_43, b_44, h⟩ := h
              refine xw_ild X hk hw xe_38 e_43 b_44 (by decide) dX0_splice_100 ?_
              refine lv_iload_n X.1 X.2.1 dX0_splice_101 rfl (lv_at hv 6 rfl) ?_
              refine xc_i (xr_V (n := 2) (As := [.int ((xI S_35 38 j_42)), .int (x3)]) (i := u_22) X hk hw hv.1 (c_X5_hasPlaces l Z et S_35 (u_22) ((xI S_35 38 j_42)) (x3) _ h) (tb_V tw_253 tw_250 tw_251 tw_252 tw_48) (xE_row o_40) rfl rfl rfl rfl (by decide +kernel) ⟨Nat.le_of_ble_eq_true rfl, Nat.le_of_ble_eq_true rfl⟩ rfl (Nat.le_of_ble_eq_true rfl) dX0_splice_102 ⟨Nat.le_of_ble_eq_true rfl, Nat.le_of_ble_eq_true rfl⟩) hl (fun r_46 S_45 H locs h hN hw hl => ?_)
              have o_47 := oT_N hN o_37
              have o_48 := oR_N hN o_38
              have o_49 := oT_N hN o_39
              have o_50 := oR_N hN o_40
              replace hNN := hN.trans hNN
              refine lv_if_ne (tgt := 110) X.1 X.2.1 dX0_splice_105 (by decide) (fun c_51 => ?_) (fun c_51 => ?_)
              · skip
                replace h := h.1 c_51
                refine lv_aload_n X.1 X.2.1 dX0_splice_110 rfl (lv_at hv 3 rfl) ?_
                refine lv_aload X.1 X.2.1 dX0_splice_111 (lv_at hv 2 rfl) ?_
                refine lv_aload_n X.1 X.2.1 dX0_splice_113 rfl (lv_at hv 3 rfl) ?_
                refine xw_get X hk hw (i := 33) 1 xe_33 rfl tlX0 (by decide) rfl tw_98 dX0_splice_114 ?_
                refine lv_iload_n X.1 X.2.1 dX0_splice_117 rfl (lv_at hv 4 rfl) ?_
                obtain ⟨j_52, e_53, b_54, h⟩ := h
                refine xw_ild X hk hw xe_38 e_53 b_54 (by decide) dX0_splice_118 ?_
                refine lv_aload X.1 X.2.1 dX0_splice_119 (lv_at hv 0 rfl) ?_
                refine lv_iload_n X.1 X.2.1 dX0_splice_121 rfl (lv_at hv 6 rfl) ?_
                refine xc_i (xr_V (n := 4) (As := [.ref (et (u_15)), .int ((xI S_45 38 j_52)), .ref (et (u_22)), .int (x3)]) (i := 33) X hk hw hv.1 (c_X0_howManyFit l Z et S_45 (u_15) ((xI S_45 38 j_52)) (u_22) (x3) _ h) (tb_V tw_257 tw_254 tw_256 tw_3 tw_40) xe_33 rfl rfl rfl rfl (by decide +kernel) ⟨Nat.le_of_ble_eq_true rfl, Nat.le_of_ble_eq_true rfl⟩ rfl (Nat.le_of_ble_eq_true rfl) dX0_splice_122 ⟨Nat.le_of_ble_eq_true rfl, Nat.le_of_ble_eq_true rfl⟩) hl (fun r_56 S_55 H locs h hN hw hl => ?_)
                have o_57 := oT_N hN o_47
                have o_58 := oR_N hN o_48
                have o_59 := oT_N hN o_49
                have o_60 := oR_N hN o_50
                replace hNN := hN.trans hNN
                refine lv_istore (lv' := [(6, .int (r_56)), (5, .ref (et (u_22))), (4, .ref (et (u_15))), (0, .ref (et (33))), (1, .int (x1)), (2, .int (x2)), (3, .int (x3))]) X.1 X.2.1 dX0_splice_125 hv (by decide) rfl (fun ls hv => ?_)
                refine lv_aload X.1 X.2.1 dX0_splice_127 (lv_at hv 2 rfl) ?_
                refine xw_getN X hk hw (i := u_15) 1 (xE_row o_58) rfl tlX5 (by decide) rfl xn_19 dX0_splice_129 ?_
                refine lv_aload_n X.1 X.2.1 dX0_splice_132 rfl (lv_at hv 3 rfl) ?_
                refine xw_get X hk hw (i := 33) 1 xe_33 rfl tlX0 (by decide) rfl tw_98 dX0_splice_133 ?_
                refine lv_iload_n X.1 X.2.1 dX0_splice_136 rfl (lv_at hv 4 rfl) ?_
                obtain ⟨j_61, e_62, b_63, h⟩ := h
                refine xw_ild X hk hw xe_38 e_62 b_63 (by decide) dX0_splice_137 ?_
                refine lv_aload X.1 X.2.1 dX0_splice_138 (lv_at hv 1 rfl) ?_
                refine xw_getN X hk hw (i := u_22) 1 (xE_row o_60) rfl tlX5 (by decide) rfl xn_19 dX0_splice_140 ?_
                refine lv_aload_n X.1 X.2.1 dX0_splice_143 rfl (lv_at hv 3 rfl) ?_
                refine xw_get X hk hw (i := 33) 1 xe_33 rfl tlX0 (by decide) rfl tw_98 dX0_splice_144 ?_
                refine lv_iload_n X.1 X.2.1 dX0_splice_147 rfl (lv_at hv 5 rfl) ?_
                obtain ⟨j_64, e_65, b_66, h⟩ := h
                refine xw_ild X hk hw xe_38 e_65 b_66 (by decide) dX0_splice_148 ?_
                refine lv_iload X.1 X.2.1 dX0_splice_149 (lv_at hv 0 rfl) ?_
                obtain ⟨j_67, j_68, j_69, e_70, e_71, e_72, e_73, e_74, h⟩ := h
                refine xw_cpy X hk hw hl hv.1 (xE_arr o_58) (xE_arr o_60) (fun f => xE_arr (S := tL S_55 (u_22 + 120) f) o_60) e_70 e_71 e_72 e_73 e_74 (oR_lt o_58) (oR_lt o_60) tw_271 (Nat.le_of_ble_eq_true rfl) (Nat.le_of_ble_eq_true rfl) dX0_splice_151 (fun H locs hw hl => ?_)
                obtain ⟨S_75, e_76⟩ : ∃ T : xs_T, T = tL S_55 (u_22 + 120) (va_cpy (xL S_55 (u_15 + 120)) (xL S_55 (u_22 + 120)) j_67 j_68 j_69) := ⟨_, rfl⟩
                rw [← e_76] at hw
                replace h := h S_75 e_76
                have hN : S_75.2.2.2.2 = S_55.2.2.2.2 := by rw [e_76]; rfl
                have o_77 := oT_N hN o_57
                have o_78 := oR_N hN o_58
                have o_79 := oT_N hN o_59
                have o_80 := oR_N hN o_60
                replace hNN := hN.trans hNN
                refine lv_iload X.1 X.2.1 dX0_splice_154 (lv_at hv 0 rfl) ?_
                refine lv_iload_n X.1 X.2.1 dX0_splice_156 rfl (lv_at hv 6 rfl) ?_
                refine lv_icmp_ne (tgt := 164) X.1 X.2.1 dX0_splice_157 (by decide) (fun c_81 => ?_) (fun c_81 => ?_)
                · skip
                  replace h := h.1 c_81
                  refine lv_iconst (v := 2) X.1 X.2.1 dX0_splice_164 (by decide) ?_
                  exact xt_i X hr hlocks hNN hw hl h dX0_splice_165
                · skip
                  replace h := h.2 c_81
                  refine lv_iconst (v := 0) X.1 X.2.1 dX0_splice_160 (by decide) ?_
                  refine lv_goto (tgt := 165) X.1 X.2.1 dX0_splice_161 (by decide) ?_
                  exact xt_i X hr hlocks hNN hw hl h dX0_splice_165
              · skip
                replace h := h.2 c_51
                refine lv_iconst (v := 3) X.1 X.2.1 dX0_splice_108 (by decide) ?_
                exact xt_i X hr hlocks hNN hw hl h dX0_splice_109
          · skip
            replace h := h.2 c_31
            refine lv_iconst (v := 2) X.1 X.2.1 dX0_splice_76 (by decide) ?_
            exact xt_i X hr hlocks hNN hw hl h dX0_splice_77
        · skip
          replace h := h.2 c_23
          refine lv_if_eq (tgt := 76) X.1 X.2.1 dX0_splice_56 (by decide) (fun _ => ?_) (fun c => absurd c (by decide))
          refine lv_iconst (v := 2) X.1 X.2.1 dX0_splice_76 (by decide) ?_
          exact xt_i X hr hlocks hNN hw hl h dX0_splice_77
      · skip
        replace h := h.2 c_16
        refine lv_if_eq (tgt := 76) X.1 X.2.1 dX0_splice_33 (by decide) (fun _ => ?_) (fun c => absurd c (by decide))
        refine lv_iconst (v := 2) X.1 X.2.1 dX0_splice_76 (by decide) ?_
        exact xt_i X hr hlocks hNN hw hl h dX0_splice_77
    · skip
      replace h := h.1 c_9
      refine lv_iconst (v := 1) X.1 X.2.1 dX0_splice_18 (by decide) ?_
      exact xt_i X hr hlocks hNN hw hl h dX0_splice_19
def v_X0_swap (x1 : Int32) (x2 : Int32) (S : xs_T) (K : Int32 → xs_T → Prop) : Prop := ∃ j_1 : Nat, x1 = nI j_1 ∧ j_1 < 10 ∧ ∃ j_4 : Nat, x2 = nI j_4 ∧ j_4 < 10 ∧ oT S (xQ S 37 j_4) ∧ ∃ j_8 : Nat, x1 = nI j_8 ∧ j_8 < 10 ∧ ∀ S_11 : xs_T, S_11 = sQ S 37 j_8 (xQ S 37 j_4) → oT S_11 (xQ S 37 j_1) ∧ ∃ j_15 : Nat, x2 = nI j_15 ∧ j_15 < 10 ∧ ∀ S_18 : xs_T, S_18 = sQ S_11 37 j_15 (xQ S 37 j_1) → K (0) S_18
set_option maxHeartbeats 4000000 in
set_option maxRecDepth 100000 in
theorem c_X0_swap (l : Launch) (Z : xz_T) (et : Nat → Nat) (S : xs_T) (x1 : Int32) (x2 : Int32) (K : Int32 → xs_T → Prop) (h : v_X0_swap x1 x2 S K) : Met l yX0_swap (wq yX0_swap cX0_swap 4 (some .int)) { frames := 0, cells := 0, slots := 0, locals := 0 } (xPc Z et S [.ref (et (33)), .int (x1), .int (x2)]) (xQi Z et S.2.2.2.2 K) 0 0 (fun q => Z.2.2.1 ≤ q) := by
  refine Met.ofW (cc := cX0_swap) (maxL := 4) (ret := (some .int)) (by decide +kernel) rfl ?_
  intro p e s m args below meth c s₁ B hml hv0
  obtain ⟨rfl, hk, hw⟩ := hv0
  have X : CallFix p m c cX0_swap 4 s _ (wq yX0_swap cX0_swap 4 (some .int)) RX0 := ⟨B.exec, B.bytes, hml, findClass_of_methodNamed B.named, atoms_spec (ws := (wq yX0_swap cX0_swap 4 (some .int))) B.pre⟩
  have hr := B.returns
  have hlocks := B.notSynchronized
  have hl : xl Z [] := fun _ h => by cases h
  have hNN : S.2.2.2.2 = S.2.2.2.2 := rfl
  have hv := lv_entry [.ref (et (33)), .int (x1), .int (x2)] (n := 4) (Nat.le_of_ble_eq_true rfl)
  rw [lg_entry_eq]
  generalize (lg_sl [.ref (et (33)), .int (x1), .int (x2)] ++ List.replicate (4 - (lg_sl [.ref (et (33)), .int (x1), .int (x2)]).length) Slot.unset).toArray = ls at hv ⊢
  replace hv : lv_has ls 4 [(0, .ref (et (33))), (1, .int (x1)), (2, .int (x2))] := hv
  unfold v_X0_swap at h
  refine lv_aload_n X.1 X.2.1 dX0_swap_0 rfl (lv_at hv 0 rfl) ?_
  refine xw_get X hk hw (i := 33) 0 xe_33 rfl tlX0 (by decide) rfl tw_96 dX0_swap_1 ?_
  refine lv_iload_n X.1 X.2.1 dX0_swap_4 rfl (lv_at hv 1 rfl) ?_
  obtain ⟨j_1, e_2, b_3, h⟩ := h
  refine xw_qld X hk hw xe_37 (C := RX7) rfl e_2 b_3 (by decide) dX0_swap_5 ?_
  refine xv_astore_n (lv' := [(3, va_rf (Option.map et (xQ S 37 j_1))), (0, .ref (et (33))), (1, .int (x1)), (2, .int (x2))]) X.1 X.2.1 dX0_swap_6 rfl hv (by decide) rfl (fun ls hv => ?_)
  refine lv_aload_n X.1 X.2.1 dX0_swap_7 rfl (lv_at hv 1 rfl) ?_
  refine xw_get X hk hw (i := 33) 0 xe_33 rfl tlX0 (by decide) rfl tw_96 dX0_swap_8 ?_
  refine lv_iload_n X.1 X.2.1 dX0_swap_11 rfl (lv_at hv 2 rfl) ?_
  refine lv_aload_n X.1 X.2.1 dX0_swap_12 rfl (lv_at hv 1 rfl) ?_
  refine xw_get X hk hw (i := 33) 0 xe_33 rfl tlX0 (by decide) rfl tw_96 dX0_swap_13 ?_
  refine lv_iload_n X.1 X.2.1 dX0_swap_16 rfl (lv_at hv 3 rfl) ?_
  obtain ⟨j_4, e_5, b_6, h⟩ := h
  refine xw_qld X hk hw xe_37 (C := RX7) rfl e_5 b_6 (by decide) dX0_swap_17 ?_
  obtain ⟨o_7, h⟩ := h
  obtain ⟨j_8, e_9, b_10, h⟩ := h
  refine xw_qst X hk hw hl (E := RX7) (xQ S 37 j_4) (oS_T o_7) xe_37 rfl rfl e_9 b_10 (by decide) dX0_swap_18 (fun H locs hw hl => ?_)
  obtain ⟨S_11, e_12⟩ : ∃ T : xs_T, T = sQ S 37 j_8 (xQ S 37 j_4) := ⟨_, rfl⟩
  rw [← e_12] at hw
  replace h := h S_11 e_12
  have hN : S_11.2.2.2.2 = S.2.2.2.2 := by rw [e_12]; rfl
  have o_13 := oT_N hN o_7
  replace hNN := hN.trans hNN
  refine lv_aload_n X.1 X.2.1 dX0_swap_19 rfl (lv_at hv 1 rfl) ?_
  refine xw_get X hk hw (i := 33) 0 xe_33 rfl tlX0 (by decide) rfl tw_96 dX0_swap_20 ?_
  refine lv_iload_n X.1 X.2.1 dX0_swap_23 rfl (lv_at hv 3 rfl) ?_
  refine xv_aload_n X.1 X.2.1 dX0_swap_24 rfl (lv_at hv 0 rfl) ?_
  obtain ⟨o_14, h⟩ := h
  obtain ⟨j_15, e_16, b_17, h⟩ := h
  refine xw_qst X hk hw hl (E := RX7) (xQ S 37 j_1) (oS_T o_14) xe_37 rfl rfl e_16 b_17 (by decide) dX0_swap_25 (fun H locs hw hl => ?_)
  obtain ⟨S_18, e_19⟩ : ∃ T : xs_T, T = sQ S_11 37 j_15 (xQ S 37 j_1) := ⟨_, rfl⟩
  rw [← e_19] at hw
  replace h := h S_18 e_19
  have hN : S_18.2.2.2.2 = S_11.2.2.2.2 := by rw [e_19]; rfl
  have o_20 := oT_N hN o_13
  have o_21 := oT_N hN o_14
  replace hNN := hN.trans hNN
  refine lv_iconst (v := 0) X.1 X.2.1 dX0_swap_26 (by decide) ?_
  exact xt_i X hr hlocks hNN hw hl h dX0_swap_27
def v_X5_copyTo (u0 : Nat) (b1 : Nat) (S : xs_T) (K : xs_T → Prop) : Prop := oR S u0 ∧ oA S b1 ∧ ∃ j_3 j_4 j_5 : Nat, 0 = nI j_3 ∧ 0 = nI j_4 ∧ (nI (xN S (u0 + 120))) = nI j_5 ∧ j_3 + j_5 ≤ xN S (u0 + 120) ∧ j_4 + j_5 ≤ aN S b1 ∧ ∀ S_11 : xs_T, S_11 = tL S b1 (va_cpy (xL S (u0 + 120)) (xL S b1) j_3 j_4 j_5) → K S_11
set_option maxHeartbeats 4000000 in
set_option maxRecDepth 100000 in
theorem c_X5_copyTo (l : Launch) (Z : xz_T) (et : Nat → Nat) (S : xs_T) (u0 : Nat) (b1 : Nat) (K : xs_T → Prop) (h : v_X5_copyTo u0 b1 S K) : Met l yX5_copyTo (wq yX5_copyTo cX5_copyTo 2 none) { frames := 1, cells := 0, slots := 0, locals := 30 } (xPc Z et S [.ref (et (u0)), .ref (et (b1))]) (xQv Z et S.2.2.2.2 K) 0 0 (fun q => Z.2.2.1 ≤ q) := by
  refine Met.ofW (cc := cX5_copyTo) (maxL := 2) (ret := none) (by decide +kernel) rfl ?_
  intro p e s m args below meth c s₁ B hml hv0
  obtain ⟨rfl, hk, hw⟩ := hv0
  have X : CallFix p m c cX5_copyTo 2 s _ (wq yX5_copyTo cX5_copyTo 2 none) RX5 := ⟨B.exec, B.bytes, hml, findClass_of_methodNamed B.named, atoms_spec (ws := (wq yX5_copyTo cX5_copyTo 2 none)) B.pre⟩
  have hr := B.returns
  have hlocks := B.notSynchronized
  have hl : xl Z [] := fun _ h => by cases h
  have hNN : S.2.2.2.2 = S.2.2.2.2 := rfl
  have hv := lv_entry [.ref (et (u0)), .ref (et (b1))] (n := 2) (Nat.le_of_ble_eq_true rfl)
  rw [lg_entry_eq]
  generalize (lg_sl [.ref (et (u0)), .ref (et (b1))] ++ List.replicate (2 - (lg_sl [.ref (et (u0)), .ref (et (b1))]).length) Slot.unset).toArray = ls at hv ⊢
  replace hv : lv_has ls 2 [(0, .ref (et (u0))), (1, .ref (et (b1)))] := hv
  unfold v_X5_copyTo at h
  refine lv_aload_n X.1 X.2.1 dX5_copyTo_0 rfl (lv_at hv 0 rfl) ?_
  obtain ⟨o_1, h⟩ := h
  refine xw_get X hk hw (i := u0) 1 (xE_row o_1) rfl tlX5 (by decide) rfl tw_331 dX5_copyTo_1 ?_
  refine lv_iconst (v := 0) X.1 X.2.1 dX5_copyTo_4 (by decide) ?_
  refine lv_aload_n X.1 X.2.1 dX5_copyTo_5 rfl (lv_at hv 1 rfl) ?_
  refine lv_iconst (v := 0) X.1 X.2.1 dX5_copyTo_6 (by decide) ?_
  refine lv_aload_n X.1 X.2.1 dX5_copyTo_7 rfl (lv_at hv 0 rfl) ?_
  refine xw_get X hk hw (i := u0) 1 (xE_row o_1) rfl tlX5 (by decide) rfl tw_331 dX5_copyTo_8 ?_
  refine xw_len X hk hw (xE_arr o_1) dX5_copyTo_11 ?_
  obtain ⟨o_2, h⟩ := h
  obtain ⟨j_3, j_4, j_5, e_6, e_7, e_8, e_9, e_10, h⟩ := h
  refine xw_cpy X hk hw hl hv.1 (xE_arr o_1) (xE_oA o_2) (fun f => xE_oA (S := tL S b1 f) o_2) e_6 e_7 e_8 e_9 e_10 (oR_lt o_1) (oA_lt o_2) tw_230 (Nat.le_of_ble_eq_true rfl) (Nat.le_of_ble_eq_true rfl) dX5_copyTo_12 (fun H locs hw hl => ?_)
  obtain ⟨S_11, e_12⟩ : ∃ T : xs_T, T = tL S b1 (va_cpy (xL S (u0 + 120)) (xL S b1) j_3 j_4 j_5) := ⟨_, rfl⟩
  rw [← e_12] at hw
  replace h := h S_11 e_12
  have hN : S_11.2.2.2.2 = S.2.2.2.2 := by rw [e_12]; rfl
  have o_13 := oR_N hN o_1
  have o_14 := oA_N hN o_2
  replace hNN := hN.trans hNN
  exact xt_v X hr hlocks hNN hw hl h dX5_copyTo_15
def v_X5_turn_26 (K : xs_T → Prop) : Nat → Nat → Nat → Int32 → Int32 → Int32 → xs_T → Prop
  | 0, _, _, _, _, _, _ => False
  | n + 1, u0, u2, a3, a4, a5, S => ((a3 ≤ a5 → K S) ∧ (¬ a3 ≤ a5 → oR S u0 ∧ (¬ a3 = 0) ∧ oA S u2 ∧ ∃ j_13 : Nat, ((a5 + a4) - (a5 + a4) / a3 * a3) = nI j_13 ∧ j_13 < aN S u2 ∧ ∃ j_17 : Nat, a5 = nI j_17 ∧ j_17 < xN S (u0 + 120) ∧ ∀ S_20 : xs_T, S_20 = sL S (u0 + 120) j_17 ((xL S u2 j_13)) → v_X5_turn_26 K n (u0) (u2) (a3) (a4) ((a5 + 1)) S_20))
def v_X5_turn (u0 : Nat) (x1 : Int32) (b2 : Nat) (S : xs_T) (K : xs_T → Prop) : Prop := oR S u0 ∧ ((¬ (nI (xN S (u0 + 120))) = 0 → v_J9_floorMod_7cf53 (x1) ((nI (xN S (u0 + 120)))) S (fun (r_4 : Int32) (S_3 : xs_T) => v_X5_copyTo (u0) (b2) S_3 (fun (S_6 : xs_T) => ∃ n, v_X5_turn_26 K n (u0) (b2) ((nI (xN S (u0 + 120)))) (r_4) (0) S_6))) ∧ ((nI (xN S (u0 + 120))) = 0 → K S))
set_option maxHeartbeats 4000000 in
set_option maxRecDepth 100000 in
theorem j_X5_turn_26 {l : Launch} {p : Program} {e : Env} {s : State} {m : MethodId} {args : Array Value} {below : List Frame} {meth : Method} {c : Code} {Z : xz_T} {et : Nat → Nat} {Nn : Nat → Nat} {K : xs_T → Prop} (X : CallFix p m c cX5_turn 6 s args (wq yX5_turn cX5_turn 6 none) RX5) (hk : xk Z s) (hr : meth.sig.returnType = none) (hlocks : meth.locks = false) : ∀ (n : Nat) (u0 : Nat) (u2 : Nat) (a3 : Int32) (a4 : Int32) (a5 : Int32) (S : xs_T) (H : Heap) (locs : List Loc) (ls : Array Slot), v_X5_turn_26 K n u0 u2 a3 a4 a5 S → S.2.2.2.2 = Nn → wd Z et S H → xl Z locs → lv_has ls 6 [(0, .ref (et (u0))), (2, .ref (et (u2))), (3, .int (a3)), (4, .int (a4)), (5, .int (a5))] → W p l e (headSpec (wq yX5_turn cX5_turn 6 none) { frames := 2, cells := 0, slots := 0, locals := 51 }).room s m args below meth c H locs 0 0 (MQ below (xQv Z et Nn K) args s 0 0 (fun q => Z.2.2.1 ≤ q)) (F0 m 26 ls []) := by
  intro n
  induction n with
  | zero =>
    intro u0 u2 a3 a4 a5 S H locs ls h hNN hw hl hv
    exact False.elim h
  | succ n ih =>
    intro u0 u2 a3 a4 a5 S H locs ls h hNN hw hl hv
    rw [v_X5_turn_26] at h
    refine lv_iload X.1 X.2.1 dX5_turn_26 (lv_at hv 4 rfl) ?_
    refine lv_iload_n X.1 X.2.1 dX5_turn_28 rfl (lv_at hv 2 rfl) ?_
    refine lv_icmp_ge (tgt := 54) X.1 X.2.1 dX5_turn_29 (by decide) (fun c_10 => ?_) (fun c_10 => ?_)
    · skip
      replace h := h.1 c_10
      exact xt_v X hr hlocks hNN hw hl h dX5_turn_54
    · skip
      replace h := h.2 c_10
      refine lv_aload_n X.1 X.2.1 dX5_turn_32 rfl (lv_at hv 0 rfl) ?_
      obtain ⟨o_11, h⟩ := h
      refine xw_get X hk hw (i := u0) 1 (xE_row o_11) rfl tlX5 (by decide) rfl tw_331 dX5_turn_33 ?_
      refine lv_iload X.1 X.2.1 dX5_turn_36 (lv_at hv 4 rfl) ?_
      refine lv_aload_n X.1 X.2.1 dX5_turn_38 rfl (lv_at hv 1 rfl) ?_
      refine lv_iload X.1 X.2.1 dX5_turn_39 (lv_at hv 4 rfl) ?_
      refine lv_iload X.1 X.2.1 dX5_turn_41 (lv_at hv 3 rfl) ?_
      refine lv_iadd X.1 X.2.1 dX5_turn_43 ?_
      refine lv_iload_n X.1 X.2.1 dX5_turn_44 rfl (lv_at hv 2 rfl) ?_
      obtain ⟨c_12, h⟩ := h
      refine lv_irem X.1 X.2.1 dX5_turn_45 c_12 ?_
      obtain ⟨o_16, h⟩ := h
      obtain ⟨j_13, e_14, b_15, h⟩ := h
      refine xw_lld X hk hw (xE_oA o_16) e_14 b_15 (oA_lt o_16) dX5_turn_46 ?_
      obtain ⟨j_17, e_18, b_19, h⟩ := h
      refine xw_lst X hk hw hl (xE_arr o_11) (xE_arr (S := sL S (u0 + 120) j_17 ((xL S u2 j_13))) o_11) e_18 b_19 (oR_lt o_11) dX5_turn_47 (fun H locs hw hl => ?_)
      obtain ⟨S_20, e_21⟩ : ∃ T : xs_T, T = sL S (u0 + 120) j_17 ((xL S u2 j_13)) := ⟨_, rfl⟩
      rw [← e_21] at hw
      replace h := h S_20 e_21
      have hN : S_20.2.2.2.2 = S.2.2.2.2 := by rw [e_21]; rfl
      have o_22 := oR_N hN o_11
      have o_23 := oA_N hN o_16
      replace hNN := hN.trans hNN
      refine lv_iinc (v := (a5 + 1)) (lv' := [(5, .int ((a5 + 1))), (0, .ref (et (u0))), (2, .ref (et (u2))), (3, .int (a3)), (4, .int (a4))]) X.1 X.2.1 dX5_turn_48 hv (k := 4) rfl rfl (by decide) rfl (fun ls hv => ?_)
      refine lv_goto (tgt := 26) X.1 X.2.1 dX5_turn_51 (by decide) ?_
      exact ih (u0) (u2) (a3) (a4) ((a5 + 1)) S_20 _ _ _ h hNN hw hl (lv_sub hv [1, 2, 3, 4, 0] rfl)
set_option maxHeartbeats 4000000 in
set_option maxRecDepth 100000 in
theorem c_X5_turn (l : Launch) (Z : xz_T) (et : Nat → Nat) (S : xs_T) (u0 : Nat) (x1 : Int32) (b2 : Nat) (K : xs_T → Prop) (h : v_X5_turn u0 x1 b2 S K) : Met l yX5_turn (wq yX5_turn cX5_turn 6 none) { frames := 2, cells := 0, slots := 0, locals := 51 } (xPc Z et S [.ref (et (u0)), .int (x1), .ref (et (b2))]) (xQv Z et S.2.2.2.2 K) 0 0 (fun q => Z.2.2.1 ≤ q) := by
  refine Met.ofW (cc := cX5_turn) (maxL := 6) (ret := none) (by decide +kernel) rfl ?_
  intro p e s m args below meth c s₁ B hml hv0
  obtain ⟨rfl, hk, hw⟩ := hv0
  have X : CallFix p m c cX5_turn 6 s _ (wq yX5_turn cX5_turn 6 none) RX5 := ⟨B.exec, B.bytes, hml, findClass_of_methodNamed B.named, atoms_spec (ws := (wq yX5_turn cX5_turn 6 none)) B.pre⟩
  have hr := B.returns
  have hlocks := B.notSynchronized
  have hl : xl Z [] := fun _ h => by cases h
  have hNN : S.2.2.2.2 = S.2.2.2.2 := rfl
  have hv := lv_entry [.ref (et (u0)), .int (x1), .ref (et (b2))] (n := 6) (Nat.le_of_ble_eq_true rfl)
  rw [lg_entry_eq]
  generalize (lg_sl [.ref (et (u0)), .int (x1), .ref (et (b2))] ++ List.replicate (6 - (lg_sl [.ref (et (u0)), .int (x1), .ref (et (b2))]).length) Slot.unset).toArray = ls at hv ⊢
  replace hv : lv_has ls 6 [(0, .ref (et (u0))), (1, .int (x1)), (2, .ref (et (b2)))] := hv
  unfold v_X5_turn at h
  refine lv_aload_n X.1 X.2.1 dX5_turn_0 rfl (lv_at hv 0 rfl) ?_
  obtain ⟨o_1, h⟩ := h
  refine xw_get X hk hw (i := u0) 1 (xE_row o_1) rfl tlX5 (by decide) rfl tw_331 dX5_turn_1 ?_
  refine xw_len X hk hw (xE_arr o_1) dX5_turn_4 ?_
  refine lv_istore_n (lv' := [(3, .int ((nI (xN S (u0 + 120))))), (0, .ref (et (u0))), (1, .int (x1)), (2, .ref (et (b2)))]) X.1 X.2.1 dX5_turn_5 rfl hv (by decide) rfl (fun ls hv => ?_)
  refine lv_iload_n X.1 X.2.1 dX5_turn_6 rfl (lv_at hv 0 rfl) ?_
  refine lv_if_ne (tgt := 11) X.1 X.2.1 dX5_turn_7 (by decide) (fun c_2 => ?_) (fun c_2 => ?_)
  · skip
    replace h := h.1 c_2
    refine lv_iload_n X.1 X.2.1 dX5_turn_11 rfl (lv_at hv 2 rfl) ?_
    refine lv_iload_n X.1 X.2.1 dX5_turn_12 rfl (lv_at hv 0 rfl) ?_
    refine xc_i (xr_S (n := 2) X hk hw hv.1 (c_J9_floorMod_7cf53 l Z et S (x1) ((nI (xN S (u0 + 120)))) _ h) (tb_S tw_282 tw_280 tw_281 tw_46) rfl rfl (by decide +kernel) ⟨Nat.le_of_ble_eq_true rfl, Nat.le_of_ble_eq_true rfl⟩ rfl (Nat.le_of_ble_eq_true rfl) dX5_turn_13 ⟨Nat.le_of_ble_eq_true rfl, Nat.le_of_ble_eq_true rfl⟩) hl (fun r_4 S_3 H locs h hN hw hl => ?_)
    have o_5 := oR_N hN o_1
    replace hNN := hN.trans hNN
    refine lv_istore (lv' := [(4, .int (r_4)), (3, .int ((nI (xN S (u0 + 120))))), (0, .ref (et (u0))), (1, .int (x1)), (2, .ref (et (b2)))]) X.1 X.2.1 dX5_turn_16 hv (by decide) rfl (fun ls hv => ?_)
    refine lv_aload_n X.1 X.2.1 dX5_turn_18 rfl (lv_at hv 2 rfl) ?_
    refine lv_aload_n X.1 X.2.1 dX5_turn_19 rfl (lv_at hv 4 rfl) ?_
    refine xc_v (xr_V (n := 1) (As := [.ref (et (b2))]) (i := u0) X hk hw hv.1 (c_X5_copyTo l Z et S_3 (u0) (b2) _ h) (tb_V tw_229 tw_283 tw_227 tw_228 tw_48) (xE_row o_5) rfl rfl rfl rfl (by decide +kernel) ⟨Nat.le_of_ble_eq_true rfl, Nat.le_of_ble_eq_true rfl⟩ rfl (Nat.le_of_ble_eq_true rfl) dX5_turn_20 ⟨Nat.le_of_ble_eq_true rfl, Nat.le_of_ble_eq_true rfl⟩) hl (fun S_6 H locs h hN hw hl => ?_)
    have o_8 := oR_N hN o_5
    replace hNN := hN.trans hNN
    refine lv_iconst (v := 0) X.1 X.2.1 dX5_turn_23 (by decide) ?_
    refine lv_istore (lv' := [(5, .int (0)), (4, .int (r_4)), (3, .int ((nI (xN S (u0 + 120))))), (0, .ref (et (u0))), (1, .int (x1)), (2, .ref (et (b2)))]) X.1 X.2.1 dX5_turn_24 hv (by decide) rfl (fun ls hv => ?_)
    obtain ⟨n_9, h⟩ := h
    exact j_X5_turn_26 X hk hr hlocks n_9 (u0) (b2) ((nI (xN S (u0 + 120)))) (r_4) (0) S_6 _ _ _ h hNN hw hl (lv_sub hv [3, 5, 2, 1, 0] rfl)
  · skip
    replace h := h.2 c_2
    exact xt_v X hr hlocks hNN hw hl h dX5_turn_10
def v_X0_turn (x1 : Int32) (x2 : Int32) (S : xs_T) (K : Int32 → xs_T → Prop) : Prop := ∃ j_1 : Nat, x1 = nI j_1 ∧ j_1 < 10 ∧ ((xQ S 37 j_1 = none → K (1) S) ∧ (∀ u_5 : Nat, xQ S 37 j_1 = some u_5 → ∃ j_6 : Nat, x1 = nI j_6 ∧ j_6 < 10 ∧ oT S (xQ S 37 j_6) ∧ ((∀ u_10 : Nat, xQ S 37 j_6 = some u_10 → oR S u_10 → v_X5_turn (u_10) (x2) (39) S (fun (S_13 : xs_T) => K (0) S_13)) ∧ (¬ iR S (xQ S 37 j_6) → K (2) S))))
set_option maxHeartbeats 4000000 in
set_option maxRecDepth 100000 in
theorem c_X0_turn (l : Launch) (Z : xz_T) (et : Nat → Nat) (S : xs_T) (x1 : Int32) (x2 : Int32) (K : Int32 → xs_T → Prop) (h : v_X0_turn x1 x2 S K) : Met l yX0_turn (wq yX0_turn cX0_turn 5 (some .int)) { frames := 3, cells := 0, slots := 0, locals := 76 } (xPc Z et S [.ref (et (33)), .int (x1), .int (x2)]) (xQi Z et S.2.2.2.2 K) 0 0 (fun q => Z.2.2.1 ≤ q) := by
  refine Met.ofW (cc := cX0_turn) (maxL := 5) (ret := (some .int)) (by decide +kernel) rfl ?_
  intro p e s m args below meth c s₁ B hml hv0
  obtain ⟨rfl, hk, hw⟩ := hv0
  have X : CallFix p m c cX0_turn 5 s _ (wq yX0_turn cX0_turn 5 (some .int)) RX0 := ⟨B.exec, B.bytes, hml, findClass_of_methodNamed B.named, atoms_spec (ws := (wq yX0_turn cX0_turn 5 (some .int))) B.pre⟩
  have hr := B.returns
  have hlocks := B.notSynchronized
  have hl : xl Z [] := fun _ h => by cases h
  have hNN : S.2.2.2.2 = S.2.2.2.2 := rfl
  have hv := lv_entry [.ref (et (33)), .int (x1), .int (x2)] (n := 5) (Nat.le_of_ble_eq_true rfl)
  rw [lg_entry_eq]
  generalize (lg_sl [.ref (et (33)), .int (x1), .int (x2)] ++ List.replicate (5 - (lg_sl [.ref (et (33)), .int (x1), .int (x2)]).length) Slot.unset).toArray = ls at hv ⊢
  replace hv : lv_has ls 5 [(0, .ref (et (33))), (1, .int (x1)), (2, .int (x2))] := hv
  unfold v_X0_turn at h
  refine lv_aload_n X.1 X.2.1 dX0_turn_0 rfl (lv_at hv 0 rfl) ?_
  refine xw_get X hk hw (i := 33) 0 xe_33 rfl tlX0 (by decide) rfl tw_96 dX0_turn_1 ?_
  refine lv_iload_n X.1 X.2.1 dX0_turn_4 rfl (lv_at hv 1 rfl) ?_
  obtain ⟨j_1, e_2, b_3, h⟩ := h
  refine xw_qld X hk hw xe_37 (C := RX7) rfl e_2 b_3 (by decide) dX0_turn_5 ?_
  refine xv_ifnonnull (tgt := 11) X.1 X.2.1 dX0_turn_6 (by decide) (fun u_5 c_4 => ?_) (fun c_4 => ?_)
  · skip
    replace h := h.2 u_5 c_4
    refine lv_aload_n X.1 X.2.1 dX0_turn_11 rfl (lv_at hv 0 rfl) ?_
    refine xw_get X hk hw (i := 33) 0 xe_33 rfl tlX0 (by decide) rfl tw_96 dX0_turn_12 ?_
    refine lv_iload_n X.1 X.2.1 dX0_turn_15 rfl (lv_at hv 1 rfl) ?_
    obtain ⟨j_6, e_7, b_8, h⟩ := h
    refine xw_qld X hk hw xe_37 (C := RX7) rfl e_7 b_8 (by decide) dX0_turn_16 ?_
    refine xv_astore (lv' := [(4, va_rf (Option.map et (xQ S 37 j_6))), (0, .ref (et (33))), (1, .int (x1)), (2, .int (x2))]) X.1 X.2.1 dX0_turn_17 hv (by decide) rfl (fun ls hv => ?_)
    refine xv_aload X.1 X.2.1 dX0_turn_19 (lv_at hv 0 rfl) ?_
    obtain ⟨o_9, h⟩ := h
    refine xw_instR X hk hw o_9 tw_241 dX0_turn_21 (fun u_10 c_11 o_12 => ?_) (fun c_11 => ?_)
    · skip
      replace h := h.1 u_10 c_11 o_12
      rw [c_11] at hv
      replace hv : lv_has ls 5 [(4, .ref (et (u_10))), (0, .ref (et (33))), (1, .int (x1)), (2, .int (x2))] := hv
      refine lv_if_eq (tgt := 36) X.1 X.2.1 dX0_turn_24 (by decide) (fun c => absurd c (by decide)) (fun _ => ?_)
      refine lv_aload X.1 X.2.1 dX0_turn_27 (lv_at hv 0 rfl) ?_
      refine xw_castR X hk hw o_12 tw_241 dX0_turn_29 ?_
      refine lv_astore_n (lv' := [(3, .ref (et (u_10))), (4, .ref (et (u_10))), (0, .ref (et (33))), (1, .int (x1)), (2, .int (x2))]) X.1 X.2.1 dX0_turn_32 rfl hv (by decide) rfl (fun ls hv => ?_)
      refine lv_goto (tgt := 38) X.1 X.2.1 dX0_turn_33 (by decide) ?_
      refine lv_aload_n X.1 X.2.1 dX0_turn_38 rfl (lv_at hv 0 rfl) ?_
      refine lv_iload_n X.1 X.2.1 dX0_turn_39 rfl (lv_at hv 4 rfl) ?_
      refine lv_aload_n X.1 X.2.1 dX0_turn_40 rfl (lv_at hv 2 rfl) ?_
      refine xw_get X hk hw (i := 33) 2 xe_33 rfl tlX0 (by decide) rfl tw_100 dX0_turn_41 ?_
      refine xc_v (xr_V (n := 2) (As := [.int (x2), .ref (et (39))]) (i := u_10) X hk hw hv.1 (c_X5_turn l Z et S (u_10) (x2) (39) _ h) (tb_V tw_279 tw_276 tw_277 tw_278 tw_48) (xE_row o_12) rfl rfl rfl rfl (by decide +kernel) ⟨Nat.le_of_ble_eq_true rfl, Nat.le_of_ble_eq_true rfl⟩ rfl (Nat.le_of_ble_eq_true rfl) dX0_turn_44 ⟨Nat.le_of_ble_eq_true rfl, Nat.le_of_ble_eq_true rfl⟩) hl (fun S_13 H locs h hN hw hl => ?_)
      have o_15 := oT_N hN o_9
      have o_16 := oR_N hN o_12
      replace hNN := hN.trans hNN
      refine lv_iconst (v := 0) X.1 X.2.1 dX0_turn_47 (by decide) ?_
      exact xt_i X hr hlocks hNN hw hl h dX0_turn_48
    · skip
      replace h := h.2 c_11
      refine lv_if_eq (tgt := 36) X.1 X.2.1 dX0_turn_24 (by decide) (fun _ => ?_) (fun c => absurd c (by decide))
      refine lv_iconst (v := 2) X.1 X.2.1 dX0_turn_36 (by decide) ?_
      exact xt_i X hr hlocks hNN hw hl h dX0_turn_37
  · skip
    replace h := h.1 c_4
    refine lv_iconst (v := 1) X.1 X.2.1 dX0_turn_9 (by decide) ?_
    exact xt_i X hr hlocks hNN hw hl h dX0_turn_10
