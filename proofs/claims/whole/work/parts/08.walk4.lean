def v_X10_run_46 (K : Int32 → xs_T → Prop) : Nat → Int32 → Int32 → xs_T → Prop
  | 0, _, _, _ => False
  | n + 1, a1, a2, S => (((xF S 0 12) ≤ a2 → K (0) S) ∧ (¬ (xF S 0 12) ≤ a2 → ((¬ (xF S 0 23) = 4000 → ((¬ (xF S 0 26) = a1 → ∀ S_19 : xs_T, S_19 = sF S 0 26 (((xF S 0 26) + 1)) → ∃ j_21 : Nat, a2 = nI j_21 ∧ j_21 < 60 ∧ ((¬ (xI S_19 13 j_21) = 13 → ∃ j_25 : Nat, a2 = nI j_25 ∧ j_25 < 60 ∧ ((¬ (xI S_19 13 j_25) = 14 → ∃ j_29 : Nat, a2 = nI j_29 ∧ j_29 < 60 ∧ ∃ j_32 : Nat, a2 = nI j_32 ∧ j_32 < 60 ∧ ∃ j_35 : Nat, a2 = nI j_35 ∧ j_35 < 60 ∧ ∃ j_38 : Nat, a2 = nI j_38 ∧ j_38 < 60 ∧ v_X10_begin ((xI S_19 13 j_29)) ((xI S_19 14 j_32)) ((xI S_19 15 j_35)) ((xI S_19 16 j_38)) S_19 (fun (r_42 : Int32) (S_41 : xs_T) => ((¬ r_42 = 0 → v_X10_behind (a2) (r_42) S_41 (fun (r_45 : Int32) (S_44 : xs_T) => ((0 ≤ r_45 → ((r_42 ≤ 0 → ∀ S_48 : xs_T, S_48 = sF S_44 0 25 ((xF S_44 0 25)) → v_X10_run_46 K n (a1) (r_45) S_48) ∧ (¬ r_42 ≤ 0 → ∀ S_50 : xs_T, S_50 = sF S_44 0 25 (((xF S_44 0 25) + 1)) → v_X10_run_46 K n (a1) (r_45) S_50))) ∧ (¬ 0 ≤ r_45 → ∀ S_52 : xs_T, S_52 = sF S_44 0 27 (a2) → K (r_42) S_52)))) ∧ (r_42 = 0 → ((0 ≤ (a2 + 1) → ((r_42 ≤ 0 → ∀ S_56 : xs_T, S_56 = sF S_41 0 25 ((xF S_41 0 25)) → v_X10_run_46 K n (a1) ((a2 + 1)) S_56) ∧ (¬ r_42 ≤ 0 → ∀ S_58 : xs_T, S_58 = sF S_41 0 25 (((xF S_41 0 25) + 1)) → v_X10_run_46 K n (a1) ((a2 + 1)) S_58))) ∧ (¬ 0 ≤ (a2 + 1) → ∀ S_60 : xs_T, S_60 = sF S_41 0 27 (a2) → K (r_42) S_60)))))) ∧ ((xI S_19 13 j_25) = 14 → ∀ S_62 : xs_T, S_62 = sF S_19 0 23 (((xF S_19 0 23) + 1)) → v_X10_again (a2) S_62 (fun (r_65 : Int32) (S_64 : xs_T) => v_X10_run_46 K n (a1) (r_65) S_64)))) ∧ ((xI S_19 13 j_21) = 13 → ∀ S_66 : xs_T, S_66 = sF S_19 0 23 (((xF S_19 0 23) + 1)) → ∃ j_68 : Nat, a2 = nI j_68 ∧ j_68 < 60 ∧ v_X10_run_46 K n (a1) (((a2 + 1) + (xI S_66 16 j_68))) S_66))) ∧ ((xF S 0 26) = a1 → K (7) S))) ∧ ((xF S 0 23) = 4000 → ∀ S_71 : xs_T, S_71 = sF S 0 27 (a2) → K (6) S_71))))
def v_X10_run_25 (K : Int32 → xs_T → Prop) : Nat → Int32 → Int32 → xs_T → Prop
  | 0, _, _, _ => False
  | n + 1, a1, a2, S => ((60 ≤ a2 → ∃ n, v_X10_run_46 K n (a1) (0) S) ∧ (¬ 60 ≤ a2 → ∃ j_11 : Nat, a2 = nI j_11 ∧ j_11 < 60 ∧ ∀ S_14 : xs_T, S_14 = sI S 17 j_11 (0) → v_X10_run_25 K n (a1) ((a2 + 1)) S_14))
def v_X10_run (x1 : Int32) (S : xs_T) (K : Int32 → xs_T → Prop) : Prop := v_X10_in (x1) (0) (300) S (fun (r_2 : Int32) (S_1 : xs_T) => ((¬ r_2 = 0 → ∀ S_4 : xs_T, S_4 = sF S_1 0 26 (0) → ∀ S_6 : xs_T, S_6 = sF S_4 0 27 ((-1)) → ∃ n, v_X10_run_25 K n (x1) (0) S_6) ∧ (r_2 = 0 → K ((-1)) S_1)))
set_option maxHeartbeats 4000000 in
set_option maxRecDepth 100000 in
theorem j_X10_run_46 {l : Launch} {p : Program} {e : Env} {s : State} {m : MethodId} {args : Array Value} {below : List Frame} {meth : Method} {c : Code} {Z : xz_T} {et : Nat → Nat} {Nn : Nat → Nat} {K : Int32 → xs_T → Prop} (X : CallFix p m c cX10_run 5 s args (wq yX10_run cX10_run 5 (some .int)) RX10) (hk : xk Z s) (hr : meth.sig.returnType = (some .int)) (hlocks : meth.locks = false) : ∀ (n : Nat) (a1 : Int32) (a2 : Int32) (S : xs_T) (H : Heap) (locs : List Loc) (ls : Array Slot), v_X10_run_46 K n a1 a2 S → S.2.2.2.2 = Nn → wd Z et S H → xl Z locs → lv_has ls 5 [(0, .ref (et (0))), (1, .int (a1)), (2, .int (a2))] → W p l e (headSpec (wq yX10_run cX10_run 5 (some .int)) { frames := 6, cells := 0, slots := 0, locals := 147 }).room s m args below meth c H locs 0 0 (MQ below (xQi Z et Nn K) args s 0 0 (fun q => Z.2.2.1 ≤ q)) (F0 m 46 ls []) := by
  intro n
  induction n with
  | zero =>
    intro a1 a2 S H locs ls h hNN hw hl hv
    exact False.elim h
  | succ n ih =>
    intro a1 a2 S H locs ls h hNN hw hl hv
    rw [v_X10_run_46] at h
    refine lv_iload_n X.1 X.2.1 dX10_run_46 rfl (lv_at hv 2 rfl) ?_
    refine lv_aload_n X.1 X.2.1 dX10_run_47 rfl (lv_at hv 0 rfl) ?_
    refine xw_get X hk hw (i := 0) 12 xe_0 rfl tlX10 (by decide) rfl tw_531 dX10_run_48 ?_
    refine lv_icmp_ge (tgt := 244) X.1 X.2.1 dX10_run_51 (by decide) (fun c_16 => ?_) (fun c_16 => ?_)
    · skip
      replace h := h.1 c_16
      refine lv_iconst (v := 0) X.1 X.2.1 dX10_run_244 (by decide) ?_
      exact xt_i X hr hlocks hNN hw hl h dX10_run_245
    · skip
      replace h := h.2 c_16
      refine lv_aload_n X.1 X.2.1 dX10_run_54 rfl (lv_at hv 0 rfl) ?_
      refine xw_get X hk hw (i := 0) 23 xe_0 rfl tlX10 (by decide) rfl tw_542 dX10_run_55 ?_
      refine lv_sipush (v := 4000) X.1 X.2.1 dX10_run_58 (by decide) ?_
      refine lv_icmp_ne (tgt := 72) X.1 X.2.1 dX10_run_61 (by decide) (fun c_17 => ?_) (fun c_17 => ?_)
      · skip
        replace h := h.1 c_17
        refine lv_aload_n X.1 X.2.1 dX10_run_72 rfl (lv_at hv 0 rfl) ?_
        refine xw_get X hk hw (i := 0) 26 xe_0 rfl tlX10 (by decide) rfl tw_545 dX10_run_73 ?_
        refine lv_iload_n X.1 X.2.1 dX10_run_76 rfl (lv_at hv 1 rfl) ?_
        refine lv_icmp_ne (tgt := 83) X.1 X.2.1 dX10_run_77 (by decide) (fun c_18 => ?_) (fun c_18 => ?_)
        · skip
          replace h := h.1 c_18
          refine lv_aload_n X.1 X.2.1 dX10_run_83 rfl (lv_at hv 0 rfl) ?_
          refine lv_dup X.1 X.2.1 dX10_run_84 rfl ?_
          refine xw_get X hk hw (i := 0) 26 xe_0 rfl tlX10 (by decide) rfl tw_545 dX10_run_85 ?_
          refine lv_iconst (v := 1) X.1 X.2.1 dX10_run_88 (by decide) ?_
          refine lv_iadd X.1 X.2.1 dX10_run_89 ?_
          refine xw_put X hk hw hl (i := 0) 26 xe_0 rfl rfl tlX10 tyX10 tyX10_ok nmX10 (by decide) tw_545 rfl rfl (Nat.le_of_ble_eq_true rfl) dX10_run_90 (fun H locs hw hl => ?_)
          obtain ⟨S_19, e_20⟩ : ∃ T : xs_T, T = sF S 0 26 (((xF S 0 26) + 1)) := ⟨_, rfl⟩
          rw [← e_20] at hw
          replace h := h S_19 e_20
          have hN : S_19.2.2.2.2 = S.2.2.2.2 := by rw [e_20]; rfl
          replace hNN := hN.trans hNN
          refine lv_aload_n X.1 X.2.1 dX10_run_93 rfl (lv_at hv 0 rfl) ?_
          refine xw_get X hk hw (i := 0) 13 xe_0 rfl tlX10 (by decide) rfl tw_532 dX10_run_94 ?_
          refine lv_iload_n X.1 X.2.1 dX10_run_97 rfl (lv_at hv 2 rfl) ?_
          obtain ⟨j_21, e_22, b_23, h⟩ := h
          refine xw_ild X hk hw xe_13 e_22 b_23 (by decide) dX10_run_98 ?_
          refine lv_bipush (v := 13) X.1 X.2.1 dX10_run_99 (by decide) ?_
          refine lv_icmp_ne (tgt := 128) X.1 X.2.1 dX10_run_101 (by decide) (fun c_24 => ?_) (fun c_24 => ?_)
          · skip
            replace h := h.1 c_24
            refine lv_aload_n X.1 X.2.1 dX10_run_128 rfl (lv_at hv 0 rfl) ?_
            refine xw_get X hk hw (i := 0) 13 xe_0 rfl tlX10 (by decide) rfl tw_532 dX10_run_129 ?_
            refine lv_iload_n X.1 X.2.1 dX10_run_132 rfl (lv_at hv 2 rfl) ?_
            obtain ⟨j_25, e_26, b_27, h⟩ := h
            refine xw_ild X hk hw xe_13 e_26 b_27 (by decide) dX10_run_133 ?_
            refine lv_bipush (v := 14) X.1 X.2.1 dX10_run_134 (by decide) ?_
            refine lv_icmp_ne (tgt := 158) X.1 X.2.1 dX10_run_136 (by decide) (fun c_28 => ?_) (fun c_28 => ?_)
            · skip
              replace h := h.1 c_28
              refine lv_aload_n X.1 X.2.1 dX10_run_158 rfl (lv_at hv 0 rfl) ?_
              refine lv_aload_n X.1 X.2.1 dX10_run_159 rfl (lv_at hv 0 rfl) ?_
              refine xw_get X hk hw (i := 0) 13 xe_0 rfl tlX10 (by decide) rfl tw_532 dX10_run_160 ?_
              refine lv_iload_n X.1 X.2.1 dX10_run_163 rfl (lv_at hv 2 rfl) ?_
              obtain ⟨j_29, e_30, b_31, h⟩ := h
              refine xw_ild X hk hw xe_13 e_30 b_31 (by decide) dX10_run_164 ?_
              refine lv_aload_n X.1 X.2.1 dX10_run_165 rfl (lv_at hv 0 rfl) ?_
              refine xw_get X hk hw (i := 0) 14 xe_0 rfl tlX10 (by decide) rfl tw_533 dX10_run_166 ?_
              refine lv_iload_n X.1 X.2.1 dX10_run_169 rfl (lv_at hv 2 rfl) ?_
              obtain ⟨j_32, e_33, b_34, h⟩ := h
              refine xw_ild X hk hw xe_14 e_33 b_34 (by decide) dX10_run_170 ?_
              refine lv_aload_n X.1 X.2.1 dX10_run_171 rfl (lv_at hv 0 rfl) ?_
              refine xw_get X hk hw (i := 0) 15 xe_0 rfl tlX10 (by decide) rfl tw_534 dX10_run_172 ?_
              refine lv_iload_n X.1 X.2.1 dX10_run_175 rfl (lv_at hv 2 rfl) ?_
              obtain ⟨j_35, e_36, b_37, h⟩ := h
              refine xw_ild X hk hw xe_15 e_36 b_37 (by decide) dX10_run_176 ?_
              refine lv_aload_n X.1 X.2.1 dX10_run_177 rfl (lv_at hv 0 rfl) ?_
              refine xw_get X hk hw (i := 0) 16 xe_0 rfl tlX10 (by decide) rfl tw_535 dX10_run_178 ?_
              refine lv_iload_n X.1 X.2.1 dX10_run_181 rfl (lv_at hv 2 rfl) ?_
              obtain ⟨j_38, e_39, b_40, h⟩ := h
              refine xw_ild X hk hw xe_16 e_39 b_40 (by decide) dX10_run_182 ?_
              refine xc_i (xr_V (n := 4) (As := [.int ((xI S_19 13 j_29)), .int ((xI S_19 14 j_32)), .int ((xI S_19 15 j_35)), .int ((xI S_19 16 j_38))]) (i := 0) X hk hw hv.1 (c_X10_begin l Z et S_19 ((xI S_19 13 j_29)) ((xI S_19 14 j_32)) ((xI S_19 15 j_35)) ((xI S_19 16 j_38)) _ h) (tb_V tw_625 tw_622 tw_624 tw_17 tw_44) xe_0 rfl rfl rfl rfl (by decide +kernel) ⟨Nat.le_of_ble_eq_true rfl, Nat.le_of_ble_eq_true rfl⟩ rfl (Nat.le_of_ble_eq_true rfl) dX10_run_183 ⟨Nat.le_of_ble_eq_true rfl, Nat.le_of_ble_eq_true rfl⟩) hl (fun r_42 S_41 H locs h hN hw hl => ?_)
              replace hNN := hN.trans hNN
              refine lv_istore_n (lv' := [(3, .int (r_42)), (0, .ref (et (0))), (1, .int (a1)), (2, .int (a2))]) X.1 X.2.1 dX10_run_186 rfl hv (by decide) rfl (fun ls hv => ?_)
              refine lv_iload_n X.1 X.2.1 dX10_run_187 rfl (lv_at hv 0 rfl) ?_
              refine lv_if_ne (tgt := 197) X.1 X.2.1 dX10_run_188 (by decide) (fun c_43 => ?_) (fun c_43 => ?_)
              · skip
                replace h := h.1 c_43
                refine lv_aload_n X.1 X.2.1 dX10_run_197 rfl (lv_at hv 1 rfl) ?_
                refine lv_iload_n X.1 X.2.1 dX10_run_198 rfl (lv_at hv 3 rfl) ?_
                refine lv_iload_n X.1 X.2.1 dX10_run_199 rfl (lv_at hv 0 rfl) ?_
                refine xc_i (xr_V (n := 2) (As := [.int (a2), .int (r_42)]) (i := 0) X hk hw hv.1 (c_X10_behind l Z et S_41 (a2) (r_42) _ h) (tb_V tw_729 tw_726 tw_728 tw_36 tw_44) xe_0 rfl rfl rfl rfl (by decide +kernel) ⟨Nat.le_of_ble_eq_true rfl, Nat.le_of_ble_eq_true rfl⟩ rfl (Nat.le_of_ble_eq_true rfl) dX10_run_200 ⟨Nat.le_of_ble_eq_true rfl, Nat.le_of_ble_eq_true rfl⟩) hl (fun r_45 S_44 H locs h hN hw hl => ?_)
                replace hNN := hN.trans hNN
                refine lv_istore (lv' := [(4, .int (r_45)), (3, .int (r_42)), (0, .ref (et (0))), (1, .int (a1)), (2, .int (a2))]) X.1 X.2.1 dX10_run_203 hv (by decide) rfl (fun ls hv => ?_)
                refine lv_iload X.1 X.2.1 dX10_run_205 (lv_at hv 0 rfl) ?_
                refine lv_if_ge (tgt := 217) X.1 X.2.1 dX10_run_207 (by decide) (fun c_46 => ?_) (fun c_46 => ?_)
                · skip
                  replace h := h.1 c_46
                  refine lv_aload_n X.1 X.2.1 dX10_run_217 rfl (lv_at hv 2 rfl) ?_
                  refine lv_iload_n X.1 X.2.1 dX10_run_218 rfl (lv_at hv 1 rfl) ?_
                  refine lv_if_le (tgt := 231) X.1 X.2.1 dX10_run_219 (by decide) (fun c_47 => ?_) (fun c_47 => ?_)
                  · skip
                    replace h := h.1 c_47
                    refine lv_aload_n X.1 X.2.1 dX10_run_231 rfl (lv_at hv 2 rfl) ?_
                    refine xw_get X hk hw (i := 0) 25 xe_0 rfl tlX10 (by decide) rfl tw_544 dX10_run_232 ?_
                    refine xw_put X hk hw hl (i := 0) 25 xe_0 rfl rfl tlX10 tyX10 tyX10_ok nmX10 (by decide) tw_544 rfl rfl (Nat.le_of_ble_eq_true rfl) dX10_run_235 (fun H locs hw hl => ?_)
                    obtain ⟨S_48, e_49⟩ : ∃ T : xs_T, T = sF S_44 0 25 ((xF S_44 0 25)) := ⟨_, rfl⟩
                    rw [← e_49] at hw
                    replace h := h S_48 e_49
                    have hN : S_48.2.2.2.2 = S_44.2.2.2.2 := by rw [e_49]; rfl
                    replace hNN := hN.trans hNN
                    refine lv_iload X.1 X.2.1 dX10_run_238 (lv_at hv 0 rfl) ?_
                    refine lv_istore_n (lv' := [(2, .int (r_45)), (4, .int (r_45)), (3, .int (r_42)), (0, .ref (et (0))), (1, .int (a1))]) X.1 X.2.1 dX10_run_240 rfl hv (by decide) rfl (fun ls hv => ?_)
                    refine lv_goto (tgt := 46) X.1 X.2.1 dX10_run_241 (by decide) ?_
                    exact ih (a1) (r_45) S_48 _ _ _ h hNN hw hl (lv_sub hv [3, 4, 0] rfl)
                  · skip
                    replace h := h.2 c_47
                    refine lv_aload_n X.1 X.2.1 dX10_run_222 rfl (lv_at hv 2 rfl) ?_
                    refine xw_get X hk hw (i := 0) 25 xe_0 rfl tlX10 (by decide) rfl tw_544 dX10_run_223 ?_
                    refine lv_iconst (v := 1) X.1 X.2.1 dX10_run_226 (by decide) ?_
                    refine lv_iadd X.1 X.2.1 dX10_run_227 ?_
                    refine lv_goto (tgt := 235) X.1 X.2.1 dX10_run_228 (by decide) ?_
                    refine xw_put X hk hw hl (i := 0) 25 xe_0 rfl rfl tlX10 tyX10 tyX10_ok nmX10 (by decide) tw_544 rfl rfl (Nat.le_of_ble_eq_true rfl) dX10_run_235 (fun H locs hw hl => ?_)
                    obtain ⟨S_50, e_51⟩ : ∃ T : xs_T, T = sF S_44 0 25 (((xF S_44 0 25) + 1)) := ⟨_, rfl⟩
                    rw [← e_51] at hw
                    replace h := h S_50 e_51
                    have hN : S_50.2.2.2.2 = S_44.2.2.2.2 := by rw [e_51]; rfl
                    replace hNN := hN.trans hNN
                    refine lv_iload X.1 X.2.1 dX10_run_238 (lv_at hv 0 rfl) ?_
                    refine lv_istore_n (lv' := [(2, .int (r_45)), (4, .int (r_45)), (3, .int (r_42)), (0, .ref (et (0))), (1, .int (a1))]) X.1 X.2.1 dX10_run_240 rfl hv (by decide) rfl (fun ls hv => ?_)
                    refine lv_goto (tgt := 46) X.1 X.2.1 dX10_run_241 (by decide) ?_
                    exact ih (a1) (r_45) S_50 _ _ _ h hNN hw hl (lv_sub hv [3, 4, 0] rfl)
                · skip
                  replace h := h.2 c_46
                  refine lv_aload_n X.1 X.2.1 dX10_run_210 rfl (lv_at hv 2 rfl) ?_
                  refine lv_iload_n X.1 X.2.1 dX10_run_211 rfl (lv_at hv 4 rfl) ?_
                  refine xw_put X hk hw hl (i := 0) 27 xe_0 rfl rfl tlX10 tyX10 tyX10_ok nmX10 (by decide) tw_546 rfl rfl (Nat.le_of_ble_eq_true rfl) dX10_run_212 (fun H locs hw hl => ?_)
                  obtain ⟨S_52, e_53⟩ : ∃ T : xs_T, T = sF S_44 0 27 (a2) := ⟨_, rfl⟩
                  rw [← e_53] at hw
                  replace h := h S_52 e_53
                  have hN : S_52.2.2.2.2 = S_44.2.2.2.2 := by rw [e_53]; rfl
                  replace hNN := hN.trans hNN
                  refine lv_iload_n X.1 X.2.1 dX10_run_215 rfl (lv_at hv 1 rfl) ?_
                  exact xt_i X hr hlocks hNN hw hl h dX10_run_216
              · skip
                replace h := h.2 c_43
                refine lv_iload_n X.1 X.2.1 dX10_run_191 rfl (lv_at hv 3 rfl) ?_
                refine lv_iconst (v := 1) X.1 X.2.1 dX10_run_192 (by decide) ?_
                refine lv_iadd X.1 X.2.1 dX10_run_193 ?_
                refine lv_goto (tgt := 203) X.1 X.2.1 dX10_run_194 (by decide) ?_
                refine lv_istore (lv' := [(4, .int ((a2 + 1))), (3, .int (r_42)), (0, .ref (et (0))), (1, .int (a1)), (2, .int (a2))]) X.1 X.2.1 dX10_run_203 hv (by decide) rfl (fun ls hv => ?_)
                refine lv_iload X.1 X.2.1 dX10_run_205 (lv_at hv 0 rfl) ?_
                refine lv_if_ge (tgt := 217) X.1 X.2.1 dX10_run_207 (by decide) (fun c_54 => ?_) (fun c_54 => ?_)
                · skip
                  replace h := h.1 c_54
                  refine lv_aload_n X.1 X.2.1 dX10_run_217 rfl (lv_at hv 2 rfl) ?_
                  refine lv_iload_n X.1 X.2.1 dX10_run_218 rfl (lv_at hv 1 rfl) ?_
                  refine lv_if_le (tgt := 231) X.1 X.2.1 dX10_run_219 (by decide) (fun c_55 => ?_) (fun c_55 => ?_)
                  · skip
                    replace h := h.1 c_55
                    refine lv_aload_n X.1 X.2.1 dX10_run_231 rfl (lv_at hv 2 rfl) ?_
                    refine xw_get X hk hw (i := 0) 25 xe_0 rfl tlX10 (by decide) rfl tw_544 dX10_run_232 ?_
                    refine xw_put X hk hw hl (i := 0) 25 xe_0 rfl rfl tlX10 tyX10 tyX10_ok nmX10 (by decide) tw_544 rfl rfl (Nat.le_of_ble_eq_true rfl) dX10_run_235 (fun H locs hw hl => ?_)
                    obtain ⟨S_56, e_57⟩ : ∃ T : xs_T, T = sF S_41 0 25 ((xF S_41 0 25)) := ⟨_, rfl⟩
                    rw [← e_57] at hw
                    replace h := h S_56 e_57
                    have hN : S_56.2.2.2.2 = S_41.2.2.2.2 := by rw [e_57]; rfl
                    replace hNN := hN.trans hNN
                    refine lv_iload X.1 X.2.1 dX10_run_238 (lv_at hv 0 rfl) ?_
                    refine lv_istore_n (lv' := [(2, .int ((a2 + 1))), (4, .int ((a2 + 1))), (3, .int (r_42)), (0, .ref (et (0))), (1, .int (a1))]) X.1 X.2.1 dX10_run_240 rfl hv (by decide) rfl (fun ls hv => ?_)
                    refine lv_goto (tgt := 46) X.1 X.2.1 dX10_run_241 (by decide) ?_
                    exact ih (a1) ((a2 + 1)) S_56 _ _ _ h hNN hw hl (lv_sub hv [3, 4, 0] rfl)
                  · skip
                    replace h := h.2 c_55
                    refine lv_aload_n X.1 X.2.1 dX10_run_222 rfl (lv_at hv 2 rfl) ?_
                    refine xw_get X hk hw (i := 0) 25 xe_0 rfl tlX10 (by decide) rfl tw_544 dX10_run_223 ?_
                    refine lv_iconst (v := 1) X.1 X.2.1 dX10_run_226 (by decide) ?_
                    refine lv_iadd X.1 X.2.1 dX10_run_227 ?_
                    refine lv_goto (tgt := 235) X.1 X.2.1 dX10_run_228 (by decide) ?_
                    refine xw_put X hk hw hl (i := 0) 25 xe_0 rfl rfl tlX10 tyX10 tyX10_ok nmX10 (by decide) tw_544 rfl rfl (Nat.le_of_ble_eq_true rfl) dX10_run_235 (fun H locs hw hl => ?_)
                    obtain ⟨S_58, e_59⟩ : ∃ T : xs_T, T = sF S_41 0 25 (((xF S_41 0 25) + 1)) := ⟨_, rfl⟩
                    rw [← e_59] at hw
                    replace h := h S_58 e_59
                    have hN : S_58.2.2.2.2 = S_41.2.2.2.2 := by rw [e_59]; rfl
                    replace hNN := hN.trans hNN
                    refine lv_iload X.1 X.2.1 dX10_run_238 (lv_at hv 0 rfl) ?_
                    refine lv_istore_n (lv' := [(2, .int ((a2 + 1))), (4, .int ((a2 + 1))), (3, .int (r_42)), (0, .ref (et (0))), (1, .int (a1))]) X.1 X.2.1 dX10_run_240 rfl hv (by decide) rfl (fun ls hv => ?_)
                    refine lv_goto (tgt := 46) X.1 X.2.1 dX10_run_241 (by decide) ?_
                    exact ih (a1) ((a2 + 1)) S_58 _ _ _ h hNN hw hl (lv_sub hv [3, 4, 0] rfl)
                · skip
                  replace h := h.2 c_54
                  refine lv_aload_n X.1 X.2.1 dX10_run_210 rfl (lv_at hv 2 rfl) ?_
                  refine lv_iload_n X.1 X.2.1 dX10_run_211 rfl (lv_at hv 4 rfl) ?_
                  refine xw_put X hk hw hl (i := 0) 27 xe_0 rfl rfl tlX10 tyX10 tyX10_ok nmX10 (by decide) tw_546 rfl rfl (Nat.le_of_ble_eq_true rfl) dX10_run_212 (fun H locs hw hl => ?_)
                  obtain ⟨S_60, e_61⟩ : ∃ T : xs_T, T = sF S_41 0 27 (a2) := ⟨_, rfl⟩
                  rw [← e_61] at hw
                  replace h := h S_60 e_61
                  have hN : S_60.2.2.2.2 = S_41.2.2.2.2 := by rw [e_61]; rfl
                  replace hNN := hN.trans hNN
                  refine lv_iload_n X.1 X.2.1 dX10_run_215 rfl (lv_at hv 1 rfl) ?_
                  exact xt_i X hr hlocks hNN hw hl h dX10_run_216
            · skip
              replace h := h.2 c_28
              refine lv_aload_n X.1 X.2.1 dX10_run_139 rfl (lv_at hv 0 rfl) ?_
              refine lv_dup X.1 X.2.1 dX10_run_140 rfl ?_
              refine xw_get X hk hw (i := 0) 23 xe_0 rfl tlX10 (by decide) rfl tw_542 dX10_run_141 ?_
              refine lv_iconst (v := 1) X.1 X.2.1 dX10_run_144 (by decide) ?_
              refine lv_iadd X.1 X.2.1 dX10_run_145 ?_
              refine xw_put X hk hw hl (i := 0) 23 xe_0 rfl rfl tlX10 tyX10 tyX10_ok nmX10 (by decide) tw_542 rfl rfl (Nat.le_of_ble_eq_true rfl) dX10_run_146 (fun H locs hw hl => ?_)
              obtain ⟨S_62, e_63⟩ : ∃ T : xs_T, T = sF S_19 0 23 (((xF S_19 0 23) + 1)) := ⟨_, rfl⟩
              rw [← e_63] at hw
              replace h := h S_62 e_63
              have hN : S_62.2.2.2.2 = S_19.2.2.2.2 := by rw [e_63]; rfl
              replace hNN := hN.trans hNN
              refine lv_aload_n X.1 X.2.1 dX10_run_149 rfl (lv_at hv 0 rfl) ?_
              refine lv_iload_n X.1 X.2.1 dX10_run_150 rfl (lv_at hv 2 rfl) ?_
              refine xc_i (xr_V (n := 1) (As := [.int (a2)]) (i := 0) X hk hw hv.1 (c_X10_again l Z et S_62 (a2) _ h) (tb_V tw_725 tw_722 tw_724 tw_35 tw_44) xe_0 rfl rfl rfl rfl (by decide +kernel) ⟨Nat.le_of_ble_eq_true rfl, Nat.le_of_ble_eq_true rfl⟩ rfl (Nat.le_of_ble_eq_true rfl) dX10_run_151 ⟨Nat.le_of_ble_eq_true rfl, Nat.le_of_ble_eq_true rfl⟩) hl (fun r_65 S_64 H locs h hN hw hl => ?_)
              replace hNN := hN.trans hNN
              refine lv_istore_n (lv' := [(2, .int (r_65)), (0, .ref (et (0))), (1, .int (a1))]) X.1 X.2.1 dX10_run_154 rfl hv (by decide) rfl (fun ls hv => ?_)
              refine lv_goto (tgt := 46) X.1 X.2.1 dX10_run_155 (by decide) ?_
              exact ih (a1) (r_65) S_64 _ _ _ h hNN hw hl (lv_sub hv [1, 2, 0] rfl)
          · skip
            replace h := h.2 c_24
            refine lv_aload_n X.1 X.2.1 dX10_run_104 rfl (lv_at hv 0 rfl) ?_
            refine lv_dup X.1 X.2.1 dX10_run_105 rfl ?_
            refine xw_get X hk hw (i := 0) 23 xe_0 rfl tlX10 (by decide) rfl tw_542 dX10_run_106 ?_
            refine lv_iconst (v := 1) X.1 X.2.1 dX10_run_109 (by decide) ?_
            refine lv_iadd X.1 X.2.1 dX10_run_110 ?_
            refine xw_put X hk hw hl (i := 0) 23 xe_0 rfl rfl tlX10 tyX10 tyX10_ok nmX10 (by decide) tw_542 rfl rfl (Nat.le_of_ble_eq_true rfl) dX10_run_111 (fun H locs hw hl => ?_)
            obtain ⟨S_66, e_67⟩ : ∃ T : xs_T, T = sF S_19 0 23 (((xF S_19 0 23) + 1)) := ⟨_, rfl⟩
            rw [← e_67] at hw
            replace h := h S_66 e_67
            have hN : S_66.2.2.2.2 = S_19.2.2.2.2 := by rw [e_67]; rfl
            replace hNN := hN.trans hNN
            refine lv_iload_n X.1 X.2.1 dX10_run_114 rfl (lv_at hv 2 rfl) ?_
            refine lv_iconst (v := 1) X.1 X.2.1 dX10_run_115 (by decide) ?_
            refine lv_iadd X.1 X.2.1 dX10_run_116 ?_
            refine lv_aload_n X.1 X.2.1 dX10_run_117 rfl (lv_at hv 0 rfl) ?_
            refine xw_get X hk hw (i := 0) 16 xe_0 rfl tlX10 (by decide) rfl tw_535 dX10_run_118 ?_
            refine lv_iload_n X.1 X.2.1 dX10_run_121 rfl (lv_at hv 2 rfl) ?_
            obtain ⟨j_68, e_69, b_70, h⟩ := h
            refine xw_ild X hk hw xe_16 e_69 b_70 (by decide) dX10_run_122 ?_
            refine lv_iadd X.1 X.2.1 dX10_run_123 ?_
            refine lv_istore_n (lv' := [(2, .int (((a2 + 1) + (xI S_66 16 j_68)))), (0, .ref (et (0))), (1, .int (a1))]) X.1 X.2.1 dX10_run_124 rfl hv (by decide) rfl (fun ls hv => ?_)
            refine lv_goto (tgt := 46) X.1 X.2.1 dX10_run_125 (by decide) ?_
            exact ih (a1) (((a2 + 1) + (xI S_66 16 j_68))) S_66 _ _ _ h hNN hw hl (lv_sub hv [1, 2, 0] rfl)
        · skip
          replace h := h.2 c_18
          refine lv_bipush (v := 7) X.1 X.2.1 dX10_run_80 (by decide) ?_
          exact xt_i X hr hlocks hNN hw hl h dX10_run_82
      · skip
        replace h := h.2 c_17
        refine lv_aload_n X.1 X.2.1 dX10_run_64 rfl (lv_at hv 0 rfl) ?_
        refine lv_iload_n X.1 X.2.1 dX10_run_65 rfl (lv_at hv 2 rfl) ?_
        refine xw_put X hk hw hl (i := 0) 27 xe_0 rfl rfl tlX10 tyX10 tyX10_ok nmX10 (by decide) tw_546 rfl rfl (Nat.le_of_ble_eq_true rfl) dX10_run_66 (fun H locs hw hl => ?_)
        obtain ⟨S_71, e_72⟩ : ∃ T : xs_T, T = sF S 0 27 (a2) := ⟨_, rfl⟩
        rw [← e_72] at hw
        replace h := h S_71 e_72
        have hN : S_71.2.2.2.2 = S.2.2.2.2 := by rw [e_72]; rfl
        replace hNN := hN.trans hNN
        refine lv_bipush (v := 6) X.1 X.2.1 dX10_run_69 (by decide) ?_
        exact xt_i X hr hlocks hNN hw hl h dX10_run_71
set_option maxHeartbeats 4000000 in
set_option maxRecDepth 100000 in
theorem j_X10_run_25 {l : Launch} {p : Program} {e : Env} {s : State} {m : MethodId} {args : Array Value} {below : List Frame} {meth : Method} {c : Code} {Z : xz_T} {et : Nat → Nat} {Nn : Nat → Nat} {K : Int32 → xs_T → Prop} (X : CallFix p m c cX10_run 5 s args (wq yX10_run cX10_run 5 (some .int)) RX10) (hk : xk Z s) (hr : meth.sig.returnType = (some .int)) (hlocks : meth.locks = false) : ∀ (n : Nat) (a1 : Int32) (a2 : Int32) (S : xs_T) (H : Heap) (locs : List Loc) (ls : Array Slot), v_X10_run_25 K n a1 a2 S → S.2.2.2.2 = Nn → wd Z et S H → xl Z locs → lv_has ls 5 [(0, .ref (et (0))), (1, .int (a1)), (2, .int (a2))] → W p l e (headSpec (wq yX10_run cX10_run 5 (some .int)) { frames := 6, cells := 0, slots := 0, locals := 147 }).room s m args below meth c H locs 0 0 (MQ below (xQi Z et Nn K) args s 0 0 (fun q => Z.2.2.1 ≤ q)) (F0 m 25 ls []) := by
  intro n
  induction n with
  | zero =>
    intro a1 a2 S H locs ls h hNN hw hl hv
    exact False.elim h
  | succ n ih =>
    intro a1 a2 S H locs ls h hNN hw hl hv
    rw [v_X10_run_25] at h
    refine lv_iload_n X.1 X.2.1 dX10_run_25 rfl (lv_at hv 2 rfl) ?_
    refine lv_bipush (v := 60) X.1 X.2.1 dX10_run_26 (by decide) ?_
    refine lv_icmp_ge (tgt := 44) X.1 X.2.1 dX10_run_28 (by decide) (fun c_9 => ?_) (fun c_9 => ?_)
    · skip
      replace h := h.1 c_9
      refine lv_iconst (v := 0) X.1 X.2.1 dX10_run_44 (by decide) ?_
      refine lv_istore_n (lv' := [(2, .int (0)), (0, .ref (et (0))), (1, .int (a1))]) X.1 X.2.1 dX10_run_45 rfl hv (by decide) rfl (fun ls hv => ?_)
      obtain ⟨n_10, h⟩ := h
      exact j_X10_run_46 X hk hr hlocks n_10 (a1) (0) S _ _ _ h hNN hw hl (lv_sub hv [1, 2, 0] rfl)
    · skip
      replace h := h.2 c_9
      refine lv_aload_n X.1 X.2.1 dX10_run_31 rfl (lv_at hv 0 rfl) ?_
      refine xw_get X hk hw (i := 0) 17 xe_0 rfl tlX10 (by decide) rfl tw_536 dX10_run_32 ?_
      refine lv_iload_n X.1 X.2.1 dX10_run_35 rfl (lv_at hv 2 rfl) ?_
      refine lv_iconst (v := 0) X.1 X.2.1 dX10_run_36 (by decide) ?_
      obtain ⟨j_11, e_12, b_13, h⟩ := h
      refine xw_ist X hk hw hl xe_17 rfl e_12 b_13 (by decide) dX10_run_37 (fun H locs hw hl => ?_)
      obtain ⟨S_14, e_15⟩ : ∃ T : xs_T, T = sI S 17 j_11 (0) := ⟨_, rfl⟩
      rw [← e_15] at hw
      replace h := h S_14 e_15
      have hN : S_14.2.2.2.2 = S.2.2.2.2 := by rw [e_15]; rfl
      replace hNN := hN.trans hNN
      refine lv_iinc (v := (a2 + 1)) (lv' := [(2, .int ((a2 + 1))), (0, .ref (et (0))), (1, .int (a1))]) X.1 X.2.1 dX10_run_38 hv (k := 2) rfl rfl (by decide) rfl (fun ls hv => ?_)
      refine lv_goto (tgt := 25) X.1 X.2.1 dX10_run_41 (by decide) ?_
      exact ih (a1) ((a2 + 1)) S_14 _ _ _ h hNN hw hl (lv_sub hv [1, 2, 0] rfl)
set_option maxHeartbeats 4000000 in
set_option maxRecDepth 100000 in
theorem c_X10_run (l : Launch) (Z : xz_T) (et : Nat → Nat) (S : xs_T) (x1 : Int32) (K : Int32 → xs_T → Prop) (h : v_X10_run x1 S K) : Met l yX10_run (wq yX10_run cX10_run 5 (some .int)) { frames := 6, cells := 0, slots := 0, locals := 147 } (xPc Z et S [.ref (et (0)), .int (x1)]) (xQi Z et S.2.2.2.2 K) 0 0 (fun q => Z.2.2.1 ≤ q) := by
  refine Met.ofW (cc := cX10_run) (maxL := 5) (ret := (some .int)) (by decide +kernel) rfl ?_
  intro p e s m args below meth c s₁ B hml hv0
  obtain ⟨rfl, hk, hw⟩ := hv0
  have X : CallFix p m c cX10_run 5 s _ (wq yX10_run cX10_run 5 (some .int)) RX10 := ⟨B.exec, B.bytes, hml, findClass_of_methodNamed B.named, atoms_spec (ws := (wq yX10_run cX10_run 5 (some .int))) B.pre⟩
  have hr := B.returns
  have hlocks := B.notSynchronized
  have hl : xl Z [] := fun _ h => by cases h
  have hNN : S.2.2.2.2 = S.2.2.2.2 := rfl
  have hv := lv_entry [.ref (et (0)), .int (x1)] (n := 5) (Nat.le_of_ble_eq_true rfl)
  rw [lg_entry_eq]
  generalize (lg_sl [.ref (et (0)), .int (x1)] ++ List.replicate (5 - (lg_sl [.ref (et (0)), .int (x1)]).length) Slot.unset).toArray = ls at hv ⊢
  replace hv : lv_has ls 5 [(0, .ref (et (0))), (1, .int (x1))] := hv
  unfold v_X10_run at h
  refine lv_iload_n X.1 X.2.1 dX10_run_0 rfl (lv_at hv 1 rfl) ?_
  refine lv_iconst (v := 0) X.1 X.2.1 dX10_run_1 (by decide) ?_
  refine lv_sipush (v := 300) X.1 X.2.1 dX10_run_2 (by decide) ?_
  refine xc_i (xr_S (n := 3) X hk hw hv.1 (c_X10_in l Z et S (x1) (0) (300) _ h) (tb_S tw_613 tw_611 tw_612 tw_44) rfl rfl (by decide +kernel) ⟨Nat.le_of_ble_eq_true rfl, Nat.le_of_ble_eq_true rfl⟩ rfl (Nat.le_of_ble_eq_true rfl) dX10_run_5 ⟨Nat.le_of_ble_eq_true rfl, Nat.le_of_ble_eq_true rfl⟩) hl (fun r_2 S_1 H locs h hN hw hl => ?_)
  replace hNN := hN.trans hNN
  refine lv_if_ne (tgt := 13) X.1 X.2.1 dX10_run_8 (by decide) (fun c_3 => ?_) (fun c_3 => ?_)
  · skip
    replace h := h.1 c_3
    refine lv_aload_n X.1 X.2.1 dX10_run_13 rfl (lv_at hv 0 rfl) ?_
    refine lv_iconst (v := 0) X.1 X.2.1 dX10_run_14 (by decide) ?_
    refine xw_put X hk hw hl (i := 0) 26 xe_0 rfl rfl tlX10 tyX10 tyX10_ok nmX10 (by decide) tw_545 rfl rfl (Nat.le_of_ble_eq_true rfl) dX10_run_15 (fun H locs hw hl => ?_)
    obtain ⟨S_4, e_5⟩ : ∃ T : xs_T, T = sF S_1 0 26 (0) := ⟨_, rfl⟩
    rw [← e_5] at hw
    replace h := h S_4 e_5
    have hN : S_4.2.2.2.2 = S_1.2.2.2.2 := by rw [e_5]; rfl
    replace hNN := hN.trans hNN
    refine lv_aload_n X.1 X.2.1 dX10_run_18 rfl (lv_at hv 0 rfl) ?_
    refine lv_iconst (v := (-1)) X.1 X.2.1 dX10_run_19 (by decide) ?_
    refine xw_put X hk hw hl (i := 0) 27 xe_0 rfl rfl tlX10 tyX10 tyX10_ok nmX10 (by decide) tw_546 rfl rfl (Nat.le_of_ble_eq_true rfl) dX10_run_20 (fun H locs hw hl => ?_)
    obtain ⟨S_6, e_7⟩ : ∃ T : xs_T, T = sF S_4 0 27 ((-1)) := ⟨_, rfl⟩
    rw [← e_7] at hw
    replace h := h S_6 e_7
    have hN : S_6.2.2.2.2 = S_4.2.2.2.2 := by rw [e_7]; rfl
    replace hNN := hN.trans hNN
    refine lv_iconst (v := 0) X.1 X.2.1 dX10_run_23 (by decide) ?_
    refine lv_istore_n (lv' := [(2, .int (0)), (0, .ref (et (0))), (1, .int (x1))]) X.1 X.2.1 dX10_run_24 rfl hv (by decide) rfl (fun ls hv => ?_)
    obtain ⟨n_8, h⟩ := h
    exact j_X10_run_25 X hk hr hlocks n_8 (x1) (0) S_6 _ _ _ h hNN hw hl (lv_sub hv [1, 2, 0] rfl)
  · skip
    replace h := h.2 c_3
    refine lv_iconst (v := (-1)) X.1 X.2.1 dX10_run_11 (by decide) ?_
    exact xt_i X hr hlocks hNN hw hl h dX10_run_12
def v_X10_back_31 (K : Int32 → xs_T → Prop) : Nat → Int32 → Int32 → xs_T → Prop
  | 0, _, _, _ => False
  | n + 1, a1, a2, S => ∃ j_8 : Nat, a1 = nI j_8 ∧ j_8 < 120 ∧ (((xI S 2 j_8) ≤ a2 → K (1) S) ∧ (¬ (xI S 2 j_8) ≤ a2 → ∃ j_12 : Nat, a1 = nI j_12 ∧ j_12 < 120 ∧ ∃ j_15 : Nat, ((64 * (xF S 0 18)) + a2) = nI j_15 ∧ j_15 < 1280 ∧ ∃ j_18 : Nat, ((xI S 3 j_12) + a2) = nI j_18 ∧ j_18 < 3000 ∧ ∀ S_21 : xs_T, S_21 = sL S 5 j_18 ((xL S 20 j_15)) → v_X10_back_31 K n (a1) ((a2 + 1)) S_21))
def v_X10_back  (S : xs_T) (K : Int32 → xs_T → Prop) : Prop := ((¬ (xF S 0 18) = 0 → ∀ S_2 : xs_T, S_2 = sF S 0 18 (((xF S 0 18) - 1)) → ∃ j_4 : Nat, (xF S_2 0 18) = nI j_4 ∧ j_4 < 20 ∧ ∃ n, v_X10_back_31 K n ((xI S_2 19 j_4)) (0) S_2) ∧ ((xF S 0 18) = 0 → K (0) S))
set_option maxHeartbeats 4000000 in
set_option maxRecDepth 100000 in
theorem j_X10_back_31 {l : Launch} {p : Program} {e : Env} {s : State} {m : MethodId} {args : Array Value} {below : List Frame} {meth : Method} {c : Code} {Z : xz_T} {et : Nat → Nat} {Nn : Nat → Nat} {K : Int32 → xs_T → Prop} (X : CallFix p m c cX10_back 3 s args (wq yX10_back cX10_back 3 (some .boolean)) RX10) (hk : xk Z s) (hr : meth.sig.returnType = (some .boolean)) (hlocks : meth.locks = false) : ∀ (n : Nat) (a1 : Int32) (a2 : Int32) (S : xs_T) (H : Heap) (locs : List Loc) (ls : Array Slot), v_X10_back_31 K n a1 a2 S → S.2.2.2.2 = Nn → wd Z et S H → xl Z locs → lv_has ls 3 [(0, .ref (et (0))), (1, .int (a1)), (2, .int (a2))] → W p l e (headSpec (wq yX10_back cX10_back 3 (some .boolean)) { frames := 0, cells := 0, slots := 0, locals := 0 }).room s m args below meth c H locs 0 0 (MQ below (xQi Z et Nn K) args s 0 0 (fun q => Z.2.2.1 ≤ q)) (F0 m 31 ls []) := by
  intro n
  induction n with
  | zero =>
    intro a1 a2 S H locs ls h hNN hw hl hv
    exact False.elim h
  | succ n ih =>
    intro a1 a2 S H locs ls h hNN hw hl hv
    rw [v_X10_back_31] at h
    refine lv_iload_n X.1 X.2.1 dX10_back_31 rfl (lv_at hv 2 rfl) ?_
    refine lv_aload_n X.1 X.2.1 dX10_back_32 rfl (lv_at hv 0 rfl) ?_
    refine xw_get X hk hw (i := 0) 2 xe_0 rfl tlX10 (by decide) rfl tw_521 dX10_back_33 ?_
    refine lv_iload_n X.1 X.2.1 dX10_back_36 rfl (lv_at hv 1 rfl) ?_
    obtain ⟨j_8, e_9, b_10, h⟩ := h
    refine xw_ild X hk hw xe_2 e_9 b_10 (by decide) dX10_back_37 ?_
    refine lv_icmp_ge (tgt := 74) X.1 X.2.1 dX10_back_38 (by decide) (fun c_11 => ?_) (fun c_11 => ?_)
    · skip
      replace h := h.1 c_11
      refine lv_iconst (v := 1) X.1 X.2.1 dX10_back_74 (by decide) ?_
      exact xt_z X hr hlocks hNN hw hl (by decide) h dX10_back_75
    · skip
      replace h := h.2 c_11
      refine lv_aload_n X.1 X.2.1 dX10_back_41 rfl (lv_at hv 0 rfl) ?_
      refine xw_get X hk hw (i := 0) 5 xe_0 rfl tlX10 (by decide) rfl tw_524 dX10_back_42 ?_
      refine lv_aload_n X.1 X.2.1 dX10_back_45 rfl (lv_at hv 0 rfl) ?_
      refine xw_get X hk hw (i := 0) 3 xe_0 rfl tlX10 (by decide) rfl tw_522 dX10_back_46 ?_
      refine lv_iload_n X.1 X.2.1 dX10_back_49 rfl (lv_at hv 1 rfl) ?_
      obtain ⟨j_12, e_13, b_14, h⟩ := h
      refine xw_ild X hk hw xe_3 e_13 b_14 (by decide) dX10_back_50 ?_
      refine lv_iload_n X.1 X.2.1 dX10_back_51 rfl (lv_at hv 2 rfl) ?_
      refine lv_iadd X.1 X.2.1 dX10_back_52 ?_
      refine lv_aload_n X.1 X.2.1 dX10_back_53 rfl (lv_at hv 0 rfl) ?_
      refine xw_get X hk hw (i := 0) 20 xe_0 rfl tlX10 (by decide) rfl tw_539 dX10_back_54 ?_
      refine lv_bipush (v := 64) X.1 X.2.1 dX10_back_57 (by decide) ?_
      refine lv_aload_n X.1 X.2.1 dX10_back_59 rfl (lv_at hv 0 rfl) ?_
      refine xw_get X hk hw (i := 0) 18 xe_0 rfl tlX10 (by decide) rfl tw_537 dX10_back_60 ?_
      refine lv_imul X.1 X.2.1 dX10_back_63 ?_
      refine lv_iload_n X.1 X.2.1 dX10_back_64 rfl (lv_at hv 2 rfl) ?_
      refine lv_iadd X.1 X.2.1 dX10_back_65 ?_
      obtain ⟨j_15, e_16, b_17, h⟩ := h
      refine xw_lld X hk hw xe_20 e_16 b_17 (by decide) dX10_back_66 ?_
      obtain ⟨j_18, e_19, b_20, h⟩ := h
      refine xw_lst X hk hw hl xe_5 rfl e_19 b_20 (by decide) dX10_back_67 (fun H locs hw hl => ?_)
      obtain ⟨S_21, e_22⟩ : ∃ T : xs_T, T = sL S 5 j_18 ((xL S 20 j_15)) := ⟨_, rfl⟩
      rw [← e_22] at hw
      replace h := h S_21 e_22
      have hN : S_21.2.2.2.2 = S.2.2.2.2 := by rw [e_22]; rfl
      replace hNN := hN.trans hNN
      refine lv_iinc (v := (a2 + 1)) (lv' := [(2, .int ((a2 + 1))), (0, .ref (et (0))), (1, .int (a1))]) X.1 X.2.1 dX10_back_68 hv (k := 2) rfl rfl (by decide) rfl (fun ls hv => ?_)
      refine lv_goto (tgt := 31) X.1 X.2.1 dX10_back_71 (by decide) ?_
      exact ih (a1) ((a2 + 1)) S_21 _ _ _ h hNN hw hl (lv_sub hv [1, 2, 0] rfl)
set_option maxHeartbeats 4000000 in
set_option maxRecDepth 100000 in
theorem c_X10_back (l : Launch) (Z : xz_T) (et : Nat → Nat) (S : xs_T)  (K : Int32 → xs_T → Prop) (h : v_X10_back  S K) : Met l yX10_back (wq yX10_back cX10_back 3 (some .boolean)) { frames := 0, cells := 0, slots := 0, locals := 0 } (xPc Z et S [.ref (et (0))]) (xQi Z et S.2.2.2.2 K) 0 0 (fun q => Z.2.2.1 ≤ q) := by
  refine Met.ofW (cc := cX10_back) (maxL := 3) (ret := (some .boolean)) (by decide +kernel) rfl ?_
  intro p e s m args below meth c s₁ B hml hv0
  obtain ⟨rfl, hk, hw⟩ := hv0
  have X : CallFix p m c cX10_back 3 s _ (wq yX10_back cX10_back 3 (some .boolean)) RX10 := ⟨B.exec, B.bytes, hml, findClass_of_methodNamed B.named, atoms_spec (ws := (wq yX10_back cX10_back 3 (some .boolean))) B.pre⟩
  have hr := B.returns
  have hlocks := B.notSynchronized
  have hl : xl Z [] := fun _ h => by cases h
  have hNN : S.2.2.2.2 = S.2.2.2.2 := rfl
  have hv := lv_entry [.ref (et (0))] (n := 3) (Nat.le_of_ble_eq_true rfl)
  rw [lg_entry_eq]
  generalize (lg_sl [.ref (et (0))] ++ List.replicate (3 - (lg_sl [.ref (et (0))]).length) Slot.unset).toArray = ls at hv ⊢
  replace hv : lv_has ls 3 [(0, .ref (et (0)))] := hv
  unfold v_X10_back at h
  refine lv_aload_n X.1 X.2.1 dX10_back_0 rfl (lv_at hv 0 rfl) ?_
  refine xw_get X hk hw (i := 0) 18 xe_0 rfl tlX10 (by decide) rfl tw_537 dX10_back_1 ?_
  refine lv_if_ne (tgt := 9) X.1 X.2.1 dX10_back_4 (by decide) (fun c_1 => ?_) (fun c_1 => ?_)
  · skip
    replace h := h.1 c_1
    refine lv_aload_n X.1 X.2.1 dX10_back_9 rfl (lv_at hv 0 rfl) ?_
    refine lv_dup X.1 X.2.1 dX10_back_10 rfl ?_
    refine xw_get X hk hw (i := 0) 18 xe_0 rfl tlX10 (by decide) rfl tw_537 dX10_back_11 ?_
    refine lv_iconst (v := 1) X.1 X.2.1 dX10_back_14 (by decide) ?_
    refine lv_isub X.1 X.2.1 dX10_back_15 ?_
    refine xw_put X hk hw hl (i := 0) 18 xe_0 rfl rfl tlX10 tyX10 tyX10_ok nmX10 (by decide) tw_537 rfl rfl (Nat.le_of_ble_eq_true rfl) dX10_back_16 (fun H locs hw hl => ?_)
    obtain ⟨S_2, e_3⟩ : ∃ T : xs_T, T = sF S 0 18 (((xF S 0 18) - 1)) := ⟨_, rfl⟩
    rw [← e_3] at hw
    replace h := h S_2 e_3
    have hN : S_2.2.2.2.2 = S.2.2.2.2 := by rw [e_3]; rfl
    replace hNN := hN.trans hNN
    refine lv_aload_n X.1 X.2.1 dX10_back_19 rfl (lv_at hv 0 rfl) ?_
    refine xw_get X hk hw (i := 0) 19 xe_0 rfl tlX10 (by decide) rfl tw_538 dX10_back_20 ?_
    refine lv_aload_n X.1 X.2.1 dX10_back_23 rfl (lv_at hv 0 rfl) ?_
    refine xw_get X hk hw (i := 0) 18 xe_0 rfl tlX10 (by decide) rfl tw_537 dX10_back_24 ?_
    obtain ⟨j_4, e_5, b_6, h⟩ := h
    refine xw_ild X hk hw xe_19 e_5 b_6 (by decide) dX10_back_27 ?_
    refine lv_istore_n (lv' := [(1, .int ((xI S_2 19 j_4))), (0, .ref (et (0)))]) X.1 X.2.1 dX10_back_28 rfl hv (by decide) rfl (fun ls hv => ?_)
    refine lv_iconst (v := 0) X.1 X.2.1 dX10_back_29 (by decide) ?_
    refine lv_istore_n (lv' := [(2, .int (0)), (1, .int ((xI S_2 19 j_4))), (0, .ref (et (0)))]) X.1 X.2.1 dX10_back_30 rfl hv (by decide) rfl (fun ls hv => ?_)
    obtain ⟨n_7, h⟩ := h
    exact j_X10_back_31 X hk hr hlocks n_7 ((xI S_2 19 j_4)) (0) S_2 _ _ _ h hNN hw hl (lv_sub hv [2, 1, 0] rfl)
  · skip
    replace h := h.2 c_1
    refine lv_iconst (v := 0) X.1 X.2.1 dX10_back_7 (by decide) ?_
    exact xt_z X hr hlocks hNN hw hl (by decide) h dX10_back_8
def v_X10_first_2 (K : Int32 → xs_T → Prop) : Nat → Int32 → Int32 → xs_T → Prop
  | 0, _, _, _ => False
  | n + 1, a1, a2, S => ∃ j_2 : Nat, a2 = nI j_2 ∧ j_2 < 10 ∧ ∃ j_5 : Nat, a1 = nI j_5 ∧ j_5 < 10 ∧ ((¬ (xI S 9 j_2) = (xI S 9 j_5) → v_X10_first_2 K n (a1) ((a2 + 1)) S) ∧ ((xI S 9 j_2) = (xI S 9 j_5) → ∃ j_9 : Nat, a2 = nI j_9 ∧ j_9 < 10 ∧ ∃ j_12 : Nat, a1 = nI j_12 ∧ j_12 < 10 ∧ (((xI S 10 j_9) = (xI S 10 j_12) → K (a2) S) ∧ (¬ (xI S 10 j_9) = (xI S 10 j_12) → v_X10_first_2 K n (a1) ((a2 + 1)) S))))
def v_X10_first (x1 : Int32) (S : xs_T) (K : Int32 → xs_T → Prop) : Prop := ∃ n, v_X10_first_2 K n (x1) (0) S
set_option maxHeartbeats 4000000 in
set_option maxRecDepth 100000 in
theorem j_X10_first_2 {l : Launch} {p : Program} {e : Env} {s : State} {m : MethodId} {args : Array Value} {below : List Frame} {meth : Method} {c : Code} {Z : xz_T} {et : Nat → Nat} {Nn : Nat → Nat} {K : Int32 → xs_T → Prop} (X : CallFix p m c cX10_first 3 s args (wq yX10_first cX10_first 3 (some .int)) RX10) (hk : xk Z s) (hr : meth.sig.returnType = (some .int)) (hlocks : meth.locks = false) : ∀ (n : Nat) (a1 : Int32) (a2 : Int32) (S : xs_T) (H : Heap) (locs : List Loc) (ls : Array Slot), v_X10_first_2 K n a1 a2 S → S.2.2.2.2 = Nn → wd Z et S H → xl Z locs → lv_has ls 3 [(0, .ref (et (0))), (1, .int (a1)), (2, .int (a2))] → W p l e (headSpec (wq yX10_first cX10_first 3 (some .int)) { frames := 0, cells := 0, slots := 0, locals := 0 }).room s m args below meth c H locs 0 0 (MQ below (xQi Z et Nn K) args s 0 0 (fun q => Z.2.2.1 ≤ q)) (F0 m 2 ls []) := by
  intro n
  induction n with
  | zero =>
    intro a1 a2 S H locs ls h hNN hw hl hv
    exact False.elim h
  | succ n ih =>
    intro a1 a2 S H locs ls h hNN hw hl hv
    rw [v_X10_first_2] at h
    refine lv_aload_n X.1 X.2.1 dX10_first_2 rfl (lv_at hv 0 rfl) ?_
    refine xw_get X hk hw (i := 0) 9 xe_0 rfl tlX10 (by decide) rfl tw_528 dX10_first_3 ?_
    refine lv_iload_n X.1 X.2.1 dX10_first_6 rfl (lv_at hv 2 rfl) ?_
    obtain ⟨j_2, e_3, b_4, h⟩ := h
    refine xw_ild X hk hw xe_9 e_3 b_4 (by decide) dX10_first_7 ?_
    refine lv_aload_n X.1 X.2.1 dX10_first_8 rfl (lv_at hv 0 rfl) ?_
    refine xw_get X hk hw (i := 0) 9 xe_0 rfl tlX10 (by decide) rfl tw_528 dX10_first_9 ?_
    refine lv_iload_n X.1 X.2.1 dX10_first_12 rfl (lv_at hv 1 rfl) ?_
    obtain ⟨j_5, e_6, b_7, h⟩ := h
    refine xw_ild X hk hw xe_9 e_6 b_7 (by decide) dX10_first_13 ?_
    refine lv_icmp_ne (tgt := 32) X.1 X.2.1 dX10_first_14 (by decide) (fun c_8 => ?_) (fun c_8 => ?_)
    · skip
      replace h := h.1 c_8
      refine lv_iinc (v := (a2 + 1)) (lv' := [(2, .int ((a2 + 1))), (0, .ref (et (0))), (1, .int (a1))]) X.1 X.2.1 dX10_first_32 hv (k := 2) rfl rfl (by decide) rfl (fun ls hv => ?_)
      refine lv_goto (tgt := 2) X.1 X.2.1 dX10_first_35 (by decide) ?_
      exact ih (a1) ((a2 + 1)) S _ _ _ h hNN hw hl (lv_sub hv [1, 2, 0] rfl)
    · skip
      replace h := h.2 c_8
      refine lv_aload_n X.1 X.2.1 dX10_first_17 rfl (lv_at hv 0 rfl) ?_
      refine xw_get X hk hw (i := 0) 10 xe_0 rfl tlX10 (by decide) rfl tw_529 dX10_first_18 ?_
      refine lv_iload_n X.1 X.2.1 dX10_first_21 rfl (lv_at hv 2 rfl) ?_
      obtain ⟨j_9, e_10, b_11, h⟩ := h
      refine xw_ild X hk hw xe_10 e_10 b_11 (by decide) dX10_first_22 ?_
      refine lv_aload_n X.1 X.2.1 dX10_first_23 rfl (lv_at hv 0 rfl) ?_
      refine xw_get X hk hw (i := 0) 10 xe_0 rfl tlX10 (by decide) rfl tw_529 dX10_first_24 ?_
      refine lv_iload_n X.1 X.2.1 dX10_first_27 rfl (lv_at hv 1 rfl) ?_
      obtain ⟨j_12, e_13, b_14, h⟩ := h
      refine xw_ild X hk hw xe_10 e_13 b_14 (by decide) dX10_first_28 ?_
      refine lv_icmp_eq (tgt := 38) X.1 X.2.1 dX10_first_29 (by decide) (fun c_15 => ?_) (fun c_15 => ?_)
      · skip
        replace h := h.1 c_15
        refine lv_iload_n X.1 X.2.1 dX10_first_38 rfl (lv_at hv 2 rfl) ?_
        exact xt_i X hr hlocks hNN hw hl h dX10_first_39
      · skip
        replace h := h.2 c_15
        refine lv_iinc (v := (a2 + 1)) (lv' := [(2, .int ((a2 + 1))), (0, .ref (et (0))), (1, .int (a1))]) X.1 X.2.1 dX10_first_32 hv (k := 2) rfl rfl (by decide) rfl (fun ls hv => ?_)
        refine lv_goto (tgt := 2) X.1 X.2.1 dX10_first_35 (by decide) ?_
        exact ih (a1) ((a2 + 1)) S _ _ _ h hNN hw hl (lv_sub hv [1, 2, 0] rfl)
set_option maxHeartbeats 4000000 in
set_option maxRecDepth 100000 in
theorem c_X10_first (l : Launch) (Z : xz_T) (et : Nat → Nat) (S : xs_T) (x1 : Int32) (K : Int32 → xs_T → Prop) (h : v_X10_first x1 S K) : Met l yX10_first (wq yX10_first cX10_first 3 (some .int)) { frames := 0, cells := 0, slots := 0, locals := 0 } (xPc Z et S [.ref (et (0)), .int (x1)]) (xQi Z et S.2.2.2.2 K) 0 0 (fun q => Z.2.2.1 ≤ q) := by
  refine Met.ofW (cc := cX10_first) (maxL := 3) (ret := (some .int)) (by decide +kernel) rfl ?_
  intro p e s m args below meth c s₁ B hml hv0
  obtain ⟨rfl, hk, hw⟩ := hv0
  have X : CallFix p m c cX10_first 3 s _ (wq yX10_first cX10_first 3 (some .int)) RX10 := ⟨B.exec, B.bytes, hml, findClass_of_methodNamed B.named, atoms_spec (ws := (wq yX10_first cX10_first 3 (some .int))) B.pre⟩
  have hr := B.returns
  have hlocks := B.notSynchronized
  have hl : xl Z [] := fun _ h => by cases h
  have hNN : S.2.2.2.2 = S.2.2.2.2 := rfl
  have hv := lv_entry [.ref (et (0)), .int (x1)] (n := 3) (Nat.le_of_ble_eq_true rfl)
  rw [lg_entry_eq]
  generalize (lg_sl [.ref (et (0)), .int (x1)] ++ List.replicate (3 - (lg_sl [.ref (et (0)), .int (x1)]).length) Slot.unset).toArray = ls at hv ⊢
  replace hv : lv_has ls 3 [(0, .ref (et (0))), (1, .int (x1))] := hv
  unfold v_X10_first at h
  refine lv_iconst (v := 0) X.1 X.2.1 dX10_first_0 (by decide) ?_
  refine lv_istore_n (lv' := [(2, .int (0)), (0, .ref (et (0))), (1, .int (x1))]) X.1 X.2.1 dX10_first_1 rfl hv (by decide) rfl (fun ls hv => ?_)
  obtain ⟨n_1, h⟩ := h
  exact j_X10_first_2 X hk hr hlocks n_1 (x1) (0) S _ _ _ h hNN hw hl (lv_sub hv [1, 2, 0] rfl)
def v_X10_look (x1 : Int32) (x2 : Int32) (S : xs_T) (K : Int32 → xs_T → Prop) : Prop := v_X10_in (x1) (0) (9) S (fun (r_2 : Int32) (S_1 : xs_T) => ((¬ r_2 = 0 → (((x2 = 0) → ∃ j_4 : Nat, x1 = nI j_4 ∧ j_4 < 10 ∧ ((¬ (xI S_1 9 j_4) = 0 → ∃ j_8 : Nat, x1 = nI j_8 ∧ j_8 < 10 ∧ ((¬ (xI S_1 9 j_8) = 1 → ∃ j_12 : Nat, x1 = nI j_12 ∧ j_12 < 10 ∧ ((¬ (xI S_1 9 j_12) = 2 → ∃ j_16 : Nat, x1 = nI j_16 ∧ j_16 < 10 ∧ ∃ j_19 : Nat, (xI S_1 10 j_16) = nI j_19 ∧ j_19 < 401 ∧ K ((12 + (xI S_1 7 j_19))) S_1) ∧ ((xI S_1 9 j_12) = 2 → K (12) S_1))) ∧ ((xI S_1 9 j_8) = 1 → ∃ j_22 : Nat, x1 = nI j_22 ∧ j_22 < 10 ∧ ∃ j_25 : Nat, (xI S_1 10 j_22) = nI j_25 ∧ j_25 < 120 ∧ K ((xI S_1 1 j_25)) S_1))) ∧ ((xI S_1 9 j_4) = 0 → K ((-1)) S_1))) ∧ ((x2 = 1) → ∃ j_28 : Nat, x1 = nI j_28 ∧ j_28 < 10 ∧ ((¬ (xI S_1 9 j_28) = 1 → ∃ j_32 : Nat, x1 = nI j_32 ∧ j_32 < 10 ∧ ((¬ (xI S_1 9 j_32) = 3 → K ((-1)) S_1) ∧ ((xI S_1 9 j_32) = 3 → ∃ j_36 : Nat, x1 = nI j_36 ∧ j_36 < 10 ∧ K ((xI S_1 10 j_36)) S_1))) ∧ ((xI S_1 9 j_28) = 1 → ∃ j_39 : Nat, x1 = nI j_39 ∧ j_39 < 10 ∧ ∃ j_42 : Nat, (xI S_1 10 j_39) = nI j_42 ∧ j_42 < 120 ∧ K ((xI S_1 2 j_42)) S_1))) ∧ ((x2 = 2) → ∃ j_45 : Nat, x1 = nI j_45 ∧ j_45 < 10 ∧ K ((xI S_1 11 j_45)) S_1) ∧ ((x2 = 3) → ∃ j_48 : Nat, x1 = nI j_48 ∧ j_48 < 10 ∧ ((¬ (xI S_1 9 j_48) = 0 → v_X10_first (x1) S_1 (fun (r_53 : Int32) (S_52 : xs_T) => K (r_53) S_52)) ∧ ((xI S_1 9 j_48) = 0 → K ((-1)) S_1))) ∧ (¬ x2 = 0 → ¬ x2 = 1 → ¬ x2 = 2 → ¬ x2 = 3 → K ((-1)) S_1))) ∧ (r_2 = 0 → K ((-1)) S_1)))
set_option maxHeartbeats 4000000 in
set_option maxRecDepth 100000 in
theorem c_X10_look (l : Launch) (Z : xz_T) (et : Nat → Nat) (S : xs_T) (x1 : Int32) (x2 : Int32) (K : Int32 → xs_T → Prop) (h : v_X10_look x1 x2 S K) : Met l yX10_look (wq yX10_look cX10_look 3 (some .int)) { frames := 1, cells := 0, slots := 0, locals := 22 } (xPc Z et S [.ref (et (0)), .int (x1), .int (x2)]) (xQi Z et S.2.2.2.2 K) 0 0 (fun q => Z.2.2.1 ≤ q) := by
  refine Met.ofW (cc := cX10_look) (maxL := 3) (ret := (some .int)) (by decide +kernel) rfl ?_
  intro p e s m args below meth c s₁ B hml hv0
  obtain ⟨rfl, hk, hw⟩ := hv0
  have X : CallFix p m c cX10_look 3 s _ (wq yX10_look cX10_look 3 (some .int)) RX10 := ⟨B.exec, B.bytes, hml, findClass_of_methodNamed B.named, atoms_spec (ws := (wq yX10_look cX10_look 3 (some .int))) B.pre⟩
  have hr := B.returns
  have hlocks := B.notSynchronized
  have hl : xl Z [] := fun _ h => by cases h
  have hNN : S.2.2.2.2 = S.2.2.2.2 := rfl
  have hv := lv_entry [.ref (et (0)), .int (x1), .int (x2)] (n := 3) (Nat.le_of_ble_eq_true rfl)
  rw [lg_entry_eq]
  generalize (lg_sl [.ref (et (0)), .int (x1), .int (x2)] ++ List.replicate (3 - (lg_sl [.ref (et (0)), .int (x1), .int (x2)]).length) Slot.unset).toArray = ls at hv ⊢
  replace hv : lv_has ls 3 [(0, .ref (et (0))), (1, .int (x1)), (2, .int (x2))] := hv
  unfold v_X10_look at h
  refine lv_iload_n X.1 X.2.1 dX10_look_0 rfl (lv_at hv 1 rfl) ?_
  refine lv_iconst (v := 0) X.1 X.2.1 dX10_look_1 (by decide) ?_
  refine lv_bipush (v := 9) X.1 X.2.1 dX10_look_2 (by decide) ?_
  refine xc_i (xr_S (n := 3) X hk hw hv.1 (c_X10_in l Z et S (x1) (0) (9) _ h) (tb_S tw_613 tw_611 tw_612 tw_44) rfl rfl (by decide +kernel) ⟨Nat.le_of_ble_eq_true rfl, Nat.le_of_ble_eq_true rfl⟩ rfl (Nat.le_of_ble_eq_true rfl) dX10_look_4 ⟨Nat.le_of_ble_eq_true rfl, Nat.le_of_ble_eq_true rfl⟩) hl (fun r_2 S_1 H locs h hN hw hl => ?_)
  replace hNN := hN.trans hNN
  refine lv_if_ne (tgt := 12) X.1 X.2.1 dX10_look_7 (by decide) (fun c_3 => ?_) (fun c_3 => ?_)
  · skip
    replace h := h.1 c_3
    refine lv_iload_n X.1 X.2.1 dX10_look_12 rfl (lv_at hv 2 rfl) ?_
    have hsw := h
    by_cases k_0 : x2 = 0
    · have h := hsw.1 k_0
      refine lv_tableIn (off := 31) (tgt := 44) X.1 X.2.1 dX10_look_13 (by rw [k_0]; decide) (by rw [k_0]; decide) (by rw [k_0]; rfl) (by decide) ?_
      refine lv_aload_n X.1 X.2.1 dX10_look_44 rfl (lv_at hv 0 rfl) ?_
      refine xw_get X hk hw (i := 0) 9 xe_0 rfl tlX10 (by decide) rfl tw_528 dX10_look_45 ?_
      refine lv_iload_n X.1 X.2.1 dX10_look_48 rfl (lv_at hv 1 rfl) ?_
      obtain ⟨j_4, e_5, b_6, h⟩ := h
      refine xw_ild X hk hw xe_9 e_5 b_6 (by decide) dX10_look_49 ?_
      refine lv_if_ne (tgt := 57) X.1 X.2.1 dX10_look_50 (by decide) (fun c_7 => ?_) (fun c_7 => ?_)
      · skip
        replace h := h.1 c_7
        refine lv_aload_n X.1 X.2.1 dX10_look_57 rfl (lv_at hv 0 rfl) ?_
        refine xw_get X hk hw (i := 0) 9 xe_0 rfl tlX10 (by decide) rfl tw_528 dX10_look_58 ?_
        refine lv_iload_n X.1 X.2.1 dX10_look_61 rfl (lv_at hv 1 rfl) ?_
        obtain ⟨j_8, e_9, b_10, h⟩ := h
        refine xw_ild X hk hw xe_9 e_9 b_10 (by decide) dX10_look_62 ?_
        refine lv_iconst (v := 1) X.1 X.2.1 dX10_look_63 (by decide) ?_
        refine lv_icmp_ne (tgt := 81) X.1 X.2.1 dX10_look_64 (by decide) (fun c_11 => ?_) (fun c_11 => ?_)
        · skip
          replace h := h.1 c_11
          refine lv_aload_n X.1 X.2.1 dX10_look_81 rfl (lv_at hv 0 rfl) ?_
          refine xw_get X hk hw (i := 0) 9 xe_0 rfl tlX10 (by decide) rfl tw_528 dX10_look_82 ?_
          refine lv_iload_n X.1 X.2.1 dX10_look_85 rfl (lv_at hv 1 rfl) ?_
          obtain ⟨j_12, e_13, b_14, h⟩ := h
          refine xw_ild X hk hw xe_9 e_13 b_14 (by decide) dX10_look_86 ?_
          refine lv_iconst (v := 2) X.1 X.2.1 dX10_look_87 (by decide) ?_
          refine lv_icmp_ne (tgt := 96) X.1 X.2.1 dX10_look_88 (by decide) (fun c_15 => ?_) (fun c_15 => ?_)
          · skip
            replace h := h.1 c_15
            refine lv_bipush (v := 12) X.1 X.2.1 dX10_look_96 (by decide) ?_
            refine lv_aload_n X.1 X.2.1 dX10_look_98 rfl (lv_at hv 0 rfl) ?_
            refine xw_get X hk hw (i := 0) 7 xe_0 rfl tlX10 (by decide) rfl tw_526 dX10_look_99 ?_
            refine lv_aload_n X.1 X.2.1 dX10_look_102 rfl (lv_at hv 0 rfl) ?_
            refine xw_get X hk hw (i := 0) 10 xe_0 rfl tlX10 (by decide) rfl tw_529 dX10_look_103 ?_
            refine lv_iload_n X.1 X.2.1 dX10_look_106 rfl (lv_at hv 1 rfl) ?_
            obtain ⟨j_16, e_17, b_18, h⟩ := h
            refine xw_ild X hk hw xe_10 e_17 b_18 (by decide) dX10_look_107 ?_
            obtain ⟨j_19, e_20, b_21, h⟩ := h
            refine xw_ild X hk hw xe_7 e_20 b_21 (by decide) dX10_look_108 ?_
            refine lv_iadd X.1 X.2.1 dX10_look_109 ?_
            exact xt_i X hr hlocks hNN hw hl h dX10_look_110
          · skip
            replace h := h.2 c_15
            refine lv_bipush (v := 12) X.1 X.2.1 dX10_look_91 (by decide) ?_
            refine lv_goto (tgt := 110) X.1 X.2.1 dX10_look_93 (by decide) ?_
            exact xt_i X hr hlocks hNN hw hl h dX10_look_110
        · skip
          replace h := h.2 c_11
          refine lv_aload_n X.1 X.2.1 dX10_look_67 rfl (lv_at hv 0 rfl) ?_
          refine xw_get X hk hw (i := 0) 1 xe_0 rfl tlX10 (by decide) rfl tw_520 dX10_look_68 ?_
          refine lv_aload_n X.1 X.2.1 dX10_look_71 rfl (lv_at hv 0 rfl) ?_
          refine xw_get X hk hw (i := 0) 10 xe_0 rfl tlX10 (by decide) rfl tw_529 dX10_look_72 ?_
          refine lv_iload_n X.1 X.2.1 dX10_look_75 rfl (lv_at hv 1 rfl) ?_
          obtain ⟨j_22, e_23, b_24, h⟩ := h
          refine xw_ild X hk hw xe_10 e_23 b_24 (by decide) dX10_look_76 ?_
          obtain ⟨j_25, e_26, b_27, h⟩ := h
          refine xw_ild X hk hw xe_1 e_26 b_27 (by decide) dX10_look_77 ?_
          refine lv_goto (tgt := 110) X.1 X.2.1 dX10_look_78 (by decide) ?_
          exact xt_i X hr hlocks hNN hw hl h dX10_look_110
      · skip
        replace h := h.2 c_7
        refine lv_iconst (v := (-1)) X.1 X.2.1 dX10_look_53 (by decide) ?_
        refine lv_goto (tgt := 110) X.1 X.2.1 dX10_look_54 (by decide) ?_
        exact xt_i X hr hlocks hNN hw hl h dX10_look_110
    by_cases k_1 : x2 = 1
    · have h := hsw.2.1 k_1
      refine lv_tableIn (off := 98) (tgt := 111) X.1 X.2.1 dX10_look_13 (by rw [k_1]; decide) (by rw [k_1]; decide) (by rw [k_1]; rfl) (by decide) ?_
      refine lv_aload_n X.1 X.2.1 dX10_look_111 rfl (lv_at hv 0 rfl) ?_
      refine xw_get X hk hw (i := 0) 9 xe_0 rfl tlX10 (by decide) rfl tw_528 dX10_look_112 ?_
      refine lv_iload_n X.1 X.2.1 dX10_look_115 rfl (lv_at hv 1 rfl) ?_
      obtain ⟨j_28, e_29, b_30, h⟩ := h
      refine xw_ild X hk hw xe_9 e_29 b_30 (by decide) dX10_look_116 ?_
      refine lv_iconst (v := 1) X.1 X.2.1 dX10_look_117 (by decide) ?_
      refine lv_icmp_ne (tgt := 135) X.1 X.2.1 dX10_look_118 (by decide) (fun c_31 => ?_) (fun c_31 => ?_)
      · skip
        replace h := h.1 c_31
        refine lv_aload_n X.1 X.2.1 dX10_look_135 rfl (lv_at hv 0 rfl) ?_
        refine xw_get X hk hw (i := 0) 9 xe_0 rfl tlX10 (by decide) rfl tw_528 dX10_look_136 ?_
        refine lv_iload_n X.1 X.2.1 dX10_look_139 rfl (lv_at hv 1 rfl) ?_
        obtain ⟨j_32, e_33, b_34, h⟩ := h
        refine xw_ild X hk hw xe_9 e_33 b_34 (by decide) dX10_look_140 ?_
        refine lv_iconst (v := 3) X.1 X.2.1 dX10_look_141 (by decide) ?_
        refine lv_icmp_ne (tgt := 154) X.1 X.2.1 dX10_look_142 (by decide) (fun c_35 => ?_) (fun c_35 => ?_)
        · skip
          replace h := h.1 c_35
          refine lv_iconst (v := (-1)) X.1 X.2.1 dX10_look_154 (by decide) ?_
          exact xt_i X hr hlocks hNN hw hl h dX10_look_155
        · skip
          replace h := h.2 c_35
          refine lv_aload_n X.1 X.2.1 dX10_look_145 rfl (lv_at hv 0 rfl) ?_
          refine xw_get X hk hw (i := 0) 10 xe_0 rfl tlX10 (by decide) rfl tw_529 dX10_look_146 ?_
          refine lv_iload_n X.1 X.2.1 dX10_look_149 rfl (lv_at hv 1 rfl) ?_
          obtain ⟨j_36, e_37, b_38, h⟩ := h
          refine xw_ild X hk hw xe_10 e_37 b_38 (by decide) dX10_look_150 ?_
          refine lv_goto (tgt := 155) X.1 X.2.1 dX10_look_151 (by decide) ?_
          exact xt_i X hr hlocks hNN hw hl h dX10_look_155
      · skip
        replace h := h.2 c_31
        refine lv_aload_n X.1 X.2.1 dX10_look_121 rfl (lv_at hv 0 rfl) ?_
        refine xw_get X hk hw (i := 0) 2 xe_0 rfl tlX10 (by decide) rfl tw_521 dX10_look_122 ?_
        refine lv_aload_n X.1 X.2.1 dX10_look_125 rfl (lv_at hv 0 rfl) ?_
        refine xw_get X hk hw (i := 0) 10 xe_0 rfl tlX10 (by decide) rfl tw_529 dX10_look_126 ?_
        refine lv_iload_n X.1 X.2.1 dX10_look_129 rfl (lv_at hv 1 rfl) ?_
        obtain ⟨j_39, e_40, b_41, h⟩ := h
        refine xw_ild X hk hw xe_10 e_40 b_41 (by decide) dX10_look_130 ?_
        obtain ⟨j_42, e_43, b_44, h⟩ := h
        refine xw_ild X hk hw xe_2 e_43 b_44 (by decide) dX10_look_131 ?_
        refine lv_goto (tgt := 155) X.1 X.2.1 dX10_look_132 (by decide) ?_
        exact xt_i X hr hlocks hNN hw hl h dX10_look_155
    by_cases k_2 : x2 = 2
    · have h := hsw.2.2.1 k_2
      refine lv_tableIn (off := 143) (tgt := 156) X.1 X.2.1 dX10_look_13 (by rw [k_2]; decide) (by rw [k_2]; decide) (by rw [k_2]; rfl) (by decide) ?_
      refine lv_aload_n X.1 X.2.1 dX10_look_156 rfl (lv_at hv 0 rfl) ?_
      refine xw_get X hk hw (i := 0) 11 xe_0 rfl tlX10 (by decide) rfl tw_530 dX10_look_157 ?_
      refine lv_iload_n X.1 X.2.1 dX10_look_160 rfl (lv_at hv 1 rfl) ?_
      obtain ⟨j_45, e_46, b_47, h⟩ := h
      refine xw_ild X hk hw xe_11 e_46 b_47 (by decide) dX10_look_161 ?_
      exact xt_i X hr hlocks hNN hw hl h dX10_look_162
    by_cases k_3 : x2 = 3
    · have h := hsw.2.2.2.1 k_3
      refine lv_tableIn (off := 150) (tgt := 163) X.1 X.2.1 dX10_look_13 (by rw [k_3]; decide) (by rw [k_3]; decide) (by rw [k_3]; rfl) (by decide) ?_
      refine lv_aload_n X.1 X.2.1 dX10_look_163 rfl (lv_at hv 0 rfl) ?_
      refine xw_get X hk hw (i := 0) 9 xe_0 rfl tlX10 (by decide) rfl tw_528 dX10_look_164 ?_
      refine lv_iload_n X.1 X.2.1 dX10_look_167 rfl (lv_at hv 1 rfl) ?_
      obtain ⟨j_48, e_49, b_50, h⟩ := h
      refine xw_ild X hk hw xe_9 e_49 b_50 (by decide) dX10_look_168 ?_
      refine lv_if_ne (tgt := 176) X.1 X.2.1 dX10_look_169 (by decide) (fun c_51 => ?_) (fun c_51 => ?_)
      · skip
        replace h := h.1 c_51
        refine lv_aload_n X.1 X.2.1 dX10_look_176 rfl (lv_at hv 0 rfl) ?_
        refine lv_iload_n X.1 X.2.1 dX10_look_177 rfl (lv_at hv 1 rfl) ?_
        refine xc_i (xr_V (n := 1) (As := [.int (x1)]) (i := 0) X hk hw hv.1 (c_X10_first l Z et S_1 (x1) _ h) (tb_V tw_741 tw_738 tw_740 tw_37 tw_44) xe_0 rfl rfl rfl rfl (by decide +kernel) ⟨Nat.le_of_ble_eq_true rfl, Nat.le_of_ble_eq_true rfl⟩ rfl (Nat.le_of_ble_eq_true rfl) dX10_look_178 ⟨Nat.le_of_ble_eq_true rfl, Nat.le_of_ble_eq_true rfl⟩) hl (fun r_53 S_52 H locs h hN hw hl => ?_)
        replace hNN := hN.trans hNN
        exact xt_i X hr hlocks hNN hw hl h dX10_look_181
      · skip
        replace h := h.2 c_51
        refine lv_iconst (v := (-1)) X.1 X.2.1 dX10_look_172 (by decide) ?_
        refine lv_goto (tgt := 181) X.1 X.2.1 dX10_look_173 (by decide) ?_
        exact xt_i X hr hlocks hNN hw hl h dX10_look_181
    have h := hsw.2.2.2.2 k_0 k_1 k_2 k_3
    have n_0 := lv_neT k_0 (a := 0) (by decide)
    have n_1 := lv_neT k_1 (a := 1) (by decide)
    have n_2 := lv_neT k_2 (a := 2) (by decide)
    have n_3 := lv_neT k_3 (a := 3) (by decide)
    refine lv_tableOut (tgt := 182) X.1 X.2.1 dX10_look_13 (by omega) (by decide) ?_
    refine lv_iconst (v := (-1)) X.1 X.2.1 dX10_look_182 (by decide) ?_
    exact xt_i X hr hlocks hNN hw hl h dX10_look_183
  · skip
    replace h := h.2 c_3
    refine lv_iconst (v := (-1)) X.1 X.2.1 dX10_look_10 (by decide) ?_
    exact xt_i X hr hlocks hNN hw hl h dX10_look_11
def v_X10_cell_19 (K : Int64 → xs_T → Prop) (a2 : Int32) (t0 : Int32) (S : xs_T) : Prop := ((t0 < 0 → K (0) S) ∧ (¬ t0 < 0 → ∃ j_7 : Nat, t0 = nI j_7 ∧ j_7 < 120 ∧ v_X10_in (a2) (0) (((xI S 2 j_7) - 1)) S (fun (r_11 : Int32) (S_10 : xs_T) => ((r_11 = 0 → K (0) S_10) ∧ (¬ r_11 = 0 → ∃ j_13 : Nat, t0 = nI j_13 ∧ j_13 < 120 ∧ ∃ j_16 : Nat, ((xI S_10 3 j_13) + a2) = nI j_16 ∧ j_16 < 3000 ∧ K ((xL S_10 5 j_16)) S_10)))))
def v_X10_cell (x1 : Int32) (x2 : Int32) (S : xs_T) (K : Int64 → xs_T → Prop) : Prop := v_X10_in (x1) (0) (9) S (fun (r_2 : Int32) (S_1 : xs_T) => ((r_2 = 0 → v_X10_cell_19 K (x2) ((-1)) S_1) ∧ (¬ r_2 = 0 → v_X10_rowOn (x1) S_1 (fun (r_5 : Int32) (S_4 : xs_T) => v_X10_cell_19 K (x2) (r_5) S_4))))
set_option maxHeartbeats 4000000 in
set_option maxRecDepth 100000 in
theorem j_X10_cell_19 {l : Launch} {p : Program} {e : Env} {s : State} {m : MethodId} {args : Array Value} {below : List Frame} {meth : Method} {c : Code} {Z : xz_T} {et : Nat → Nat} {Nn : Nat → Nat} {K : Int64 → xs_T → Prop} (X : CallFix p m c cX10_cell 4 s args (wq yX10_cell cX10_cell 4 (some .long)) RX10) (hk : xk Z s) (hr : meth.sig.returnType = (some .long)) (hlocks : meth.locks = false) : ∀ (a2 : Int32) (t0 : Int32) (S : xs_T) (H : Heap) (locs : List Loc) (ls : Array Slot), v_X10_cell_19 K a2 t0 S → S.2.2.2.2 = Nn → wd Z et S H → xl Z locs → lv_has ls 4 [(0, .ref (et (0))), (2, .int (a2))] → W p l e (headSpec (wq yX10_cell cX10_cell 4 (some .long)) { frames := 1, cells := 0, slots := 0, locals := 22 }).room s m args below meth c H locs 0 0 (MQ below (xQl Z et Nn K) args s 0 0 (fun q => Z.2.2.1 ≤ q)) (F0 m 19 ls [.int (t0)]) := by
  intro a2 t0 S H locs ls h hNN hw hl hv
  unfold v_X10_cell_19 at h
  refine lv_istore_n (lv' := [(3, .int (t0)), (0, .ref (et (0))), (2, .int (a2))]) X.1 X.2.1 dX10_cell_19 rfl hv (by decide) rfl (fun ls hv => ?_)
  refine lv_iload_n X.1 X.2.1 dX10_cell_20 rfl (lv_at hv 0 rfl) ?_
  refine lv_if_lt (tgt := 56) X.1 X.2.1 dX10_cell_21 (by decide) (fun c_6 => ?_) (fun c_6 => ?_)
  · skip
    replace h := h.1 c_6
    refine lv_lconst (v := 0) X.1 X.2.1 dX10_cell_56 rfl ?_
    exact xt_l X hr hlocks hNN hw hl h dX10_cell_57
  · skip
    replace h := h.2 c_6
    refine lv_iload_n X.1 X.2.1 dX10_cell_24 rfl (lv_at hv 2 rfl) ?_
    refine lv_iconst (v := 0) X.1 X.2.1 dX10_cell_25 (by decide) ?_
    refine lv_aload_n X.1 X.2.1 dX10_cell_26 rfl (lv_at hv 1 rfl) ?_
    refine xw_get X hk hw (i := 0) 2 xe_0 rfl tlX10 (by decide) rfl tw_521 dX10_cell_27 ?_
    refine lv_iload_n X.1 X.2.1 dX10_cell_30 rfl (lv_at hv 0 rfl) ?_
    obtain ⟨j_7, e_8, b_9, h⟩ := h
    refine xw_ild X hk hw xe_2 e_8 b_9 (by decide) dX10_cell_31 ?_
    refine lv_iconst (v := 1) X.1 X.2.1 dX10_cell_32 (by decide) ?_
    refine lv_isub X.1 X.2.1 dX10_cell_33 ?_
    refine xc_i (xr_S (n := 3) X hk hw hv.1 (c_X10_in l Z et S (a2) (0) (((xI S 2 j_7) - 1)) _ h) (tb_S tw_613 tw_611 tw_612 tw_44) rfl rfl (by decide +kernel) ⟨Nat.le_of_ble_eq_true rfl, Nat.le_of_ble_eq_true rfl⟩ rfl (Nat.le_of_ble_eq_true rfl) dX10_cell_34 ⟨Nat.le_of_ble_eq_true rfl, Nat.le_of_ble_eq_true rfl⟩) hl (fun r_11 S_10 H locs h hN hw hl => ?_)
    replace hNN := hN.trans hNN
    refine lv_if_eq (tgt := 56) X.1 X.2.1 dX10_cell_37 (by decide) (fun c_12 => ?_) (fun c_12 => ?_)
    · skip
      replace h := h.1 c_12
      refine lv_lconst (v := 0) X.1 X.2.1 dX10_cell_56 rfl ?_
      exact xt_l X hr hlocks hNN hw hl h dX10_cell_57
    · skip
      replace h := h.2 c_12
      refine lv_aload_n X.1 X.2.1 dX10_cell_40 rfl (lv_at hv 1 rfl) ?_
      refine xw_get X hk hw (i := 0) 5 xe_0 rfl tlX10 (by decide) rfl tw_524 dX10_cell_41 ?_
      refine lv_aload_n X.1 X.2.1 dX10_cell_44 rfl (lv_at hv 1 rfl) ?_
      refine xw_get X hk hw (i := 0) 3 xe_0 rfl tlX10 (by decide) rfl tw_522 dX10_cell_45 ?_
      refine lv_iload_n X.1 X.2.1 dX10_cell_48 rfl (lv_at hv 0 rfl) ?_
      obtain ⟨j_13, e_14, b_15, h⟩ := h
      refine xw_ild X hk hw xe_3 e_14 b_15 (by decide) dX10_cell_49 ?_
      refine lv_iload_n X.1 X.2.1 dX10_cell_50 rfl (lv_at hv 2 rfl) ?_
      refine lv_iadd X.1 X.2.1 dX10_cell_51 ?_
      obtain ⟨j_16, e_17, b_18, h⟩ := h
      refine xw_lld X hk hw xe_5 e_17 b_18 (by decide) dX10_cell_52 ?_
      refine lv_goto (tgt := 57) X.1 X.2.1 dX10_cell_53 (by decide) ?_
      exact xt_l X hr hlocks hNN hw hl h dX10_cell_57
set_option maxHeartbeats 4000000 in
set_option maxRecDepth 100000 in
theorem c_X10_cell (l : Launch) (Z : xz_T) (et : Nat → Nat) (S : xs_T) (x1 : Int32) (x2 : Int32) (K : Int64 → xs_T → Prop) (h : v_X10_cell x1 x2 S K) : Met l yX10_cell (wq yX10_cell cX10_cell 4 (some .long)) { frames := 1, cells := 0, slots := 0, locals := 22 } (xPc Z et S [.ref (et (0)), .int (x1), .int (x2)]) (xQl Z et S.2.2.2.2 K) 0 0 (fun q => Z.2.2.1 ≤ q) := by
  refine Met.ofW (cc := cX10_cell) (maxL := 4) (ret := (some .long)) (by decide +kernel) rfl ?_
  intro p e s m args below meth c s₁ B hml hv0
  obtain ⟨rfl, hk, hw⟩ := hv0
  have X : CallFix p m c cX10_cell 4 s _ (wq yX10_cell cX10_cell 4 (some .long)) RX10 := ⟨B.exec, B.bytes, hml, findClass_of_methodNamed B.named, atoms_spec (ws := (wq yX10_cell cX10_cell 4 (some .long))) B.pre⟩
  have hr := B.returns
  have hlocks := B.notSynchronized
  have hl : xl Z [] := fun _ h => by cases h
  have hNN : S.2.2.2.2 = S.2.2.2.2 := rfl
  have hv := lv_entry [.ref (et (0)), .int (x1), .int (x2)] (n := 4) (Nat.le_of_ble_eq_true rfl)
  rw [lg_entry_eq]
  generalize (lg_sl [.ref (et (0)), .int (x1), .int (x2)] ++ List.replicate (4 - (lg_sl [.ref (et (0)), .int (x1), .int (x2)]).length) Slot.unset).toArray = ls at hv ⊢
  replace hv : lv_has ls 4 [(0, .ref (et (0))), (1, .int (x1)), (2, .int (x2))] := hv
  unfold v_X10_cell at h
  refine lv_iload_n X.1 X.2.1 dX10_cell_0 rfl (lv_at hv 1 rfl) ?_
  refine lv_iconst (v := 0) X.1 X.2.1 dX10_cell_1 (by decide) ?_
  refine lv_bipush (v := 9) X.1 X.2.1 dX10_cell_2 (by decide) ?_
  refine xc_i (xr_S (n := 3) X hk hw hv.1 (c_X10_in l Z et S (x1) (0) (9) _ h) (tb_S tw_613 tw_611 tw_612 tw_44) rfl rfl (by decide +kernel) ⟨Nat.le_of_ble_eq_true rfl, Nat.le_of_ble_eq_true rfl⟩ rfl (Nat.le_of_ble_eq_true rfl) dX10_cell_4 ⟨Nat.le_of_ble_eq_true rfl, Nat.le_of_ble_eq_true rfl⟩) hl (fun r_2 S_1 H locs h hN hw hl => ?_)
  replace hNN := hN.trans hNN
  refine lv_if_eq (tgt := 18) X.1 X.2.1 dX10_cell_7 (by decide) (fun c_3 => ?_) (fun c_3 => ?_)
  · skip
    replace h := h.1 c_3
    refine lv_iconst (v := (-1)) X.1 X.2.1 dX10_cell_18 (by decide) ?_
    exact j_X10_cell_19 X hk hr hlocks (x2) ((-1)) S_1 _ _ _ h hNN hw hl (lv_sub hv [0, 2] rfl)
  · skip
    replace h := h.2 c_3
    refine lv_aload_n X.1 X.2.1 dX10_cell_10 rfl (lv_at hv 0 rfl) ?_
    refine lv_iload_n X.1 X.2.1 dX10_cell_11 rfl (lv_at hv 1 rfl) ?_
    refine xc_i (xr_V (n := 1) (As := [.int (x1)]) (i := 0) X hk hw hv.1 (c_X10_rowOn l Z et S_1 (x1) _ h) (tb_V tw_629 tw_626 tw_628 tw_18 tw_44) xe_0 rfl rfl rfl rfl (by decide +kernel) ⟨Nat.le_of_ble_eq_true rfl, Nat.le_of_ble_eq_true rfl⟩ rfl (Nat.le_of_ble_eq_true rfl) dX10_cell_12 ⟨Nat.le_of_ble_eq_true rfl, Nat.le_of_ble_eq_true rfl⟩) hl (fun r_5 S_4 H locs h hN hw hl => ?_)
    replace hNN := hN.trans hNN
    refine lv_goto (tgt := 19) X.1 X.2.1 dX10_cell_15 (by decide) ?_
    exact j_X10_cell_19 X hk hr hlocks (x2) (r_5) S_4 _ _ _ h hNN hw hl (lv_sub hv [0, 2] rfl)
def v_X10_sort (x1 : Int32) (S : xs_T) (K : Int32 → xs_T → Prop) : Prop := v_X10_in (x1) (1) ((xF S 0 6)) S (fun (r_2 : Int32) (S_1 : xs_T) => ((r_2 = 0 → K ((-1)) S_1) ∧ (¬ r_2 = 0 → ∃ j_4 : Nat, x1 = nI j_4 ∧ j_4 < 401 ∧ K ((xI S_1 7 j_4)) S_1)))
set_option maxHeartbeats 4000000 in
set_option maxRecDepth 100000 in
theorem c_X10_sort (l : Launch) (Z : xz_T) (et : Nat → Nat) (S : xs_T) (x1 : Int32) (K : Int32 → xs_T → Prop) (h : v_X10_sort x1 S K) : Met l yX10_sort (wq yX10_sort cX10_sort 2 (some .int)) { frames := 1, cells := 0, slots := 0, locals := 22 } (xPc Z et S [.ref (et (0)), .int (x1)]) (xQi Z et S.2.2.2.2 K) 0 0 (fun q => Z.2.2.1 ≤ q) := by
  refine Met.ofW (cc := cX10_sort) (maxL := 2) (ret := (some .int)) (by decide +kernel) rfl ?_
  intro p e s m args below meth c s₁ B hml hv0
  obtain ⟨rfl, hk, hw⟩ := hv0
  have X : CallFix p m c cX10_sort 2 s _ (wq yX10_sort cX10_sort 2 (some .int)) RX10 := ⟨B.exec, B.bytes, hml, findClass_of_methodNamed B.named, atoms_spec (ws := (wq yX10_sort cX10_sort 2 (some .int))) B.pre⟩
  have hr := B.returns
  have hlocks := B.notSynchronized
  have hl : xl Z [] := fun _ h => by cases h
  have hNN : S.2.2.2.2 = S.2.2.2.2 := rfl
  have hv := lv_entry [.ref (et (0)), .int (x1)] (n := 2) (Nat.le_of_ble_eq_true rfl)
  rw [lg_entry_eq]
  generalize (lg_sl [.ref (et (0)), .int (x1)] ++ List.replicate (2 - (lg_sl [.ref (et (0)), .int (x1)]).length) Slot.unset).toArray = ls at hv ⊢
  replace hv : lv_has ls 2 [(0, .ref (et (0))), (1, .int (x1))] := hv
  unfold v_X10_sort at h
  refine lv_iload_n X.1 X.2.1 dX10_sort_0 rfl (lv_at hv 1 rfl) ?_
  refine lv_iconst (v := 1) X.1 X.2.1 dX10_sort_1 (by decide) ?_
  refine lv_aload_n X.1 X.2.1 dX10_sort_2 rfl (lv_at hv 0 rfl) ?_
  refine xw_get X hk hw (i := 0) 6 xe_0 rfl tlX10 (by decide) rfl tw_525 dX10_sort_3 ?_
  refine xc_i (xr_S (n := 3) X hk hw hv.1 (c_X10_in l Z et S (x1) (1) ((xF S 0 6)) _ h) (tb_S tw_613 tw_611 tw_612 tw_44) rfl rfl (by decide +kernel) ⟨Nat.le_of_ble_eq_true rfl, Nat.le_of_ble_eq_true rfl⟩ rfl (Nat.le_of_ble_eq_true rfl) dX10_sort_6 ⟨Nat.le_of_ble_eq_true rfl, Nat.le_of_ble_eq_true rfl⟩) hl (fun r_2 S_1 H locs h hN hw hl => ?_)
  replace hNN := hN.trans hNN
  refine lv_if_eq (tgt := 21) X.1 X.2.1 dX10_sort_9 (by decide) (fun c_3 => ?_) (fun c_3 => ?_)
  · skip
    replace h := h.1 c_3
    refine lv_iconst (v := (-1)) X.1 X.2.1 dX10_sort_21 (by decide) ?_
    exact xt_i X hr hlocks hNN hw hl h dX10_sort_22
  · skip
    replace h := h.2 c_3
    refine lv_aload_n X.1 X.2.1 dX10_sort_12 rfl (lv_at hv 0 rfl) ?_
    refine xw_get X hk hw (i := 0) 7 xe_0 rfl tlX10 (by decide) rfl tw_526 dX10_sort_13 ?_
    refine lv_iload_n X.1 X.2.1 dX10_sort_16 rfl (lv_at hv 1 rfl) ?_
    obtain ⟨j_4, e_5, b_6, h⟩ := h
    refine xw_ild X hk hw xe_7 e_5 b_6 (by decide) dX10_sort_17 ?_
    refine lv_goto (tgt := 22) X.1 X.2.1 dX10_sort_18 (by decide) ?_
    exact xt_i X hr hlocks hNN hw hl h dX10_sort_22
def v_X10_count (x1 : Int32) (S : xs_T) (K : Int32 → xs_T → Prop) : Prop := (((x1 = 0) → K ((xF S 0 12)) S) ∧ ((x1 = 1) → K ((xF S 0 23)) S) ∧ ((x1 = 2) → K ((xF S 0 0)) S) ∧ ((x1 = 3) → K ((xF S 0 4)) S) ∧ ((x1 = 4) → K ((xF S 0 6)) S) ∧ ((x1 = 5) → K ((xF S 0 18)) S) ∧ ((x1 = 6) → K ((xF S 0 24)) S) ∧ ((x1 = 7) → K ((xF S 0 25)) S) ∧ ((x1 = 8) → K ((xF S 0 26)) S) ∧ ((x1 = 9) → K ((xF S 0 27)) S) ∧ (¬ x1 = 0 → ¬ x1 = 1 → ¬ x1 = 2 → ¬ x1 = 3 → ¬ x1 = 4 → ¬ x1 = 5 → ¬ x1 = 6 → ¬ x1 = 7 → ¬ x1 = 8 → ¬ x1 = 9 → K ((-1)) S))
set_option maxHeartbeats 4000000 in
set_option maxRecDepth 100000 in
theorem c_X10_count (l : Launch) (Z : xz_T) (et : Nat → Nat) (S : xs_T) (x1 : Int32) (K : Int32 → xs_T → Prop) (h : v_X10_count x1 S K) : Met l yX10_count (wq yX10_count cX10_count 2 (some .int)) { frames := 0, cells := 0, slots := 0, locals := 0 } (xPc Z et S [.ref (et (0)), .int (x1)]) (xQi Z et S.2.2.2.2 K) 0 0 (fun q => Z.2.2.1 ≤ q) := by
  refine Met.ofW (cc := cX10_count) (maxL := 2) (ret := (some .int)) (by decide +kernel) rfl ?_
  intro p e s m args below meth c s₁ B hml hv0
  obtain ⟨rfl, hk, hw⟩ := hv0
  have X : CallFix p m c cX10_count 2 s _ (wq yX10_count cX10_count 2 (some .int)) RX10 := ⟨B.exec, B.bytes, hml, findClass_of_methodNamed B.named, atoms_spec (ws := (wq yX10_count cX10_count 2 (some .int))) B.pre⟩
  have hr := B.returns
  have hlocks := B.notSynchronized
  have hl : xl Z [] := fun _ h => by cases h
  have hNN : S.2.2.2.2 = S.2.2.2.2 := rfl
  have hv := lv_entry [.ref (et (0)), .int (x1)] (n := 2) (Nat.le_of_ble_eq_true rfl)
  rw [lg_entry_eq]
  generalize (lg_sl [.ref (et (0)), .int (x1)] ++ List.replicate (2 - (lg_sl [.ref (et (0)), .int (x1)]).length) Slot.unset).toArray = ls at hv ⊢
  replace hv : lv_has ls 2 [(0, .ref (et (0))), (1, .int (x1))] := hv
  unfold v_X10_count at h
  refine lv_iload_n X.1 X.2.1 dX10_count_0 rfl (lv_at hv 1 rfl) ?_
  have hsw := h
  by_cases k_0 : x1 = 0
  · have h := hsw.1 k_0
    refine lv_tableIn (off := 55) (tgt := 56) X.1 X.2.1 dX10_count_1 (by rw [k_0]; decide) (by rw [k_0]; decide) (by rw [k_0]; rfl) (by decide) ?_
    refine lv_aload_n X.1 X.2.1 dX10_count_56 rfl (lv_at hv 0 rfl) ?_
    refine xw_get X hk hw (i := 0) 12 xe_0 rfl tlX10 (by decide) rfl tw_531 dX10_count_57 ?_
    exact xt_i X hr hlocks hNN hw hl h dX10_count_60
  by_cases k_1 : x1 = 1
  · have h := hsw.2.1 k_1
    refine lv_tableIn (off := 60) (tgt := 61) X.1 X.2.1 dX10_count_1 (by rw [k_1]; decide) (by rw [k_1]; decide) (by rw [k_1]; rfl) (by decide) ?_
    refine lv_aload_n X.1 X.2.1 dX10_count_61 rfl (lv_at hv 0 rfl) ?_
    refine xw_get X hk hw (i := 0) 23 xe_0 rfl tlX10 (by decide) rfl tw_542 dX10_count_62 ?_
    exact xt_i X hr hlocks hNN hw hl h dX10_count_65
  by_cases k_2 : x1 = 2
  · have h := hsw.2.2.1 k_2
    refine lv_tableIn (off := 65) (tgt := 66) X.1 X.2.1 dX10_count_1 (by rw [k_2]; decide) (by rw [k_2]; decide) (by rw [k_2]; rfl) (by decide) ?_
    refine lv_aload_n X.1 X.2.1 dX10_count_66 rfl (lv_at hv 0 rfl) ?_
    refine xw_get X hk hw (i := 0) 0 xe_0 rfl tlX10 (by decide) rfl tw_519 dX10_count_67 ?_
    exact xt_i X hr hlocks hNN hw hl h dX10_count_70
  by_cases k_3 : x1 = 3
  · have h := hsw.2.2.2.1 k_3
    refine lv_tableIn (off := 70) (tgt := 71) X.1 X.2.1 dX10_count_1 (by rw [k_3]; decide) (by rw [k_3]; decide) (by rw [k_3]; rfl) (by decide) ?_
    refine lv_aload_n X.1 X.2.1 dX10_count_71 rfl (lv_at hv 0 rfl) ?_
    refine xw_get X hk hw (i := 0) 4 xe_0 rfl tlX10 (by decide) rfl tw_523 dX10_count_72 ?_
    exact xt_i X hr hlocks hNN hw hl h dX10_count_75
  by_cases k_4 : x1 = 4
  · have h := hsw.2.2.2.2.1 k_4
    refine lv_tableIn (off := 75) (tgt := 76) X.1 X.2.1 dX10_count_1 (by rw [k_4]; decide) (by rw [k_4]; decide) (by rw [k_4]; rfl) (by decide) ?_
    refine lv_aload_n X.1 X.2.1 dX10_count_76 rfl (lv_at hv 0 rfl) ?_
    refine xw_get X hk hw (i := 0) 6 xe_0 rfl tlX10 (by decide) rfl tw_525 dX10_count_77 ?_
    exact xt_i X hr hlocks hNN hw hl h dX10_count_80
  by_cases k_5 : x1 = 5
  · have h := hsw.2.2.2.2.2.1 k_5
    refine lv_tableIn (off := 80) (tgt := 81) X.1 X.2.1 dX10_count_1 (by rw [k_5]; decide) (by rw [k_5]; decide) (by rw [k_5]; rfl) (by decide) ?_
    refine lv_aload_n X.1 X.2.1 dX10_count_81 rfl (lv_at hv 0 rfl) ?_
    refine xw_get X hk hw (i := 0) 18 xe_0 rfl tlX10 (by decide) rfl tw_537 dX10_count_82 ?_
    exact xt_i X hr hlocks hNN hw hl h dX10_count_85
  by_cases k_6 : x1 = 6
  · have h := hsw.2.2.2.2.2.2.1 k_6
    refine lv_tableIn (off := 85) (tgt := 86) X.1 X.2.1 dX10_count_1 (by rw [k_6]; decide) (by rw [k_6]; decide) (by rw [k_6]; rfl) (by decide) ?_
    refine lv_aload_n X.1 X.2.1 dX10_count_86 rfl (lv_at hv 0 rfl) ?_
    refine xw_get X hk hw (i := 0) 24 xe_0 rfl tlX10 (by decide) rfl tw_543 dX10_count_87 ?_
    exact xt_i X hr hlocks hNN hw hl h dX10_count_90
  by_cases k_7 : x1 = 7
  · have h := hsw.2.2.2.2.2.2.2.1 k_7
    refine lv_tableIn (off := 90) (tgt := 91) X.1 X.2.1 dX10_count_1 (by rw [k_7]; decide) (by rw [k_7]; decide) (by rw [k_7]; rfl) (by decide) ?_
    refine lv_aload_n X.1 X.2.1 dX10_count_91 rfl (lv_at hv 0 rfl) ?_
    refine xw_get X hk hw (i := 0) 25 xe_0 rfl tlX10 (by decide) rfl tw_544 dX10_count_92 ?_
    exact xt_i X hr hlocks hNN hw hl h dX10_count_95
  by_cases k_8 : x1 = 8
  · have h := hsw.2.2.2.2.2.2.2.2.1 k_8
    refine lv_tableIn (off := 95) (tgt := 96) X.1 X.2.1 dX10_count_1 (by rw [k_8]; decide) (by rw [k_8]; decide) (by rw [k_8]; rfl) (by decide) ?_
    refine lv_aload_n X.1 X.2.1 dX10_count_96 rfl (lv_at hv 0 rfl) ?_
    refine xw_get X hk hw (i := 0) 26 xe_0 rfl tlX10 (by decide) rfl tw_545 dX10_count_97 ?_
    exact xt_i X hr hlocks hNN hw hl h dX10_count_100
  by_cases k_9 : x1 = 9
  · have h := hsw.2.2.2.2.2.2.2.2.2.1 k_9
    refine lv_tableIn (off := 100) (tgt := 101) X.1 X.2.1 dX10_count_1 (by rw [k_9]; decide) (by rw [k_9]; decide) (by rw [k_9]; rfl) (by decide) ?_
    refine lv_aload_n X.1 X.2.1 dX10_count_101 rfl (lv_at hv 0 rfl) ?_
    refine xw_get X hk hw (i := 0) 27 xe_0 rfl tlX10 (by decide) rfl tw_546 dX10_count_102 ?_
    exact xt_i X hr hlocks hNN hw hl h dX10_count_105
  have h := hsw.2.2.2.2.2.2.2.2.2.2 k_0 k_1 k_2 k_3 k_4 k_5 k_6 k_7 k_8 k_9
  have n_0 := lv_neT k_0 (a := 0) (by decide)
  have n_1 := lv_neT k_1 (a := 1) (by decide)
  have n_2 := lv_neT k_2 (a := 2) (by decide)
  have n_3 := lv_neT k_3 (a := 3) (by decide)
  have n_4 := lv_neT k_4 (a := 4) (by decide)
  have n_5 := lv_neT k_5 (a := 5) (by decide)
  have n_6 := lv_neT k_6 (a := 6) (by decide)
  have n_7 := lv_neT k_7 (a := 7) (by decide)
  have n_8 := lv_neT k_8 (a := 8) (by decide)
  have n_9 := lv_neT k_9 (a := 9) (by decide)
  refine lv_tableOut (tgt := 106) X.1 X.2.1 dX10_count_1 (by omega) (by decide) ?_
  refine lv_iconst (v := (-1)) X.1 X.2.1 dX10_count_106 (by decide) ?_
  exact xt_i X hr hlocks hNN hw hl h dX10_count_107
