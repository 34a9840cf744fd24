def v_X5_hasPlaces (u0 : Nat) (x1 : Int32) (x2 : Int32) (S : xs_T) (K : Int32 → xs_T → Prop) : Prop := ((x1 < 0 → K (0) S) ∧ (¬ x1 < 0 → ((x2 < 0 → K (0) S) ∧ (¬ x2 < 0 → oR S u0 ∧ ((((nI (xN S (u0 + 120)))).toInt64 < ((x1).toInt64 + (x2).toInt64) → K (0) S) ∧ (¬ ((nI (xN S (u0 + 120)))).toInt64 < ((x1).toInt64 + (x2).toInt64) → K (1) S))))))
set_option maxHeartbeats 4000000 in
set_option maxRecDepth 100000 in
theorem c_X5_hasPlaces (l : Launch) (Z : xz_T) (et : Nat → Nat) (S : xs_T) (u0 : Nat) (x1 : Int32) (x2 : Int32) (K : Int32 → xs_T → Prop) (h : v_X5_hasPlaces u0 x1 x2 S K) : Met l yX5_hasPlaces (wq yX5_hasPlaces cX5_hasPlaces 3 (some .boolean)) { frames := 0, cells := 0, slots := 0, locals := 0 } (xPc Z et S [.ref (et (u0)), .int (x1), .int (x2)]) (xQi Z et S.2.2.2.2 K) 0 0 (fun q => Z.2.2.1 ≤ q) := by
  refine Met.ofW (cc := cX5_hasPlaces) (maxL := 3) (ret := (some .boolean)) (by decide +kernel) rfl ?_
  intro p e s m args below meth c s₁ B hml hv0
  obtain ⟨rfl, hk, hw⟩ := hv0
  have X : CallFix p m c cX5_hasPlaces 3 s _ (wq yX5_hasPlaces cX5_hasPlaces 3 (some .boolean)) RX5 := ⟨B.exec, B.bytes, hml, findClass_of_methodNamed B.named, atoms_spec (ws := (wq yX5_hasPlaces cX5_hasPlaces 3 (some .boolean))) B.pre⟩
  have hr := B.returns
  have hlocks := B.notSynchronized
  have hl : xl Z [] := fun _ h => by cases h
  have hNN : S.2.2.2.2 = S.2.2.2.2 := rfl
  have hv := lv_entry [.ref (et (u0)), .int (x1), .int (x2)] (n := 3) (Nat.le_of_ble_eq_true rfl)
  rw [lg_entry_eq]
  generalize (lg_sl [.ref (et (u0)), .int (x1), .int (x2)] ++ List.replicate (3 - (lg_sl [.ref (et (u0)), .int (x1), .int (x2)]).length) Slot.unset).toArray = ls at hv ⊢
  replace hv : lv_has ls 3 [(0, .ref (et (u0))), (1, .int (x1)), (2, .int (x2))] := hv
  unfold v_X5_hasPlaces at h
  refine lv_iload_n X.1 X.2.1 dX5_hasPlaces_0 rfl (lv_at hv 1 rfl) ?_
  refine lv_if_lt (tgt := 27) X.1 X.2.1 dX5_hasPlaces_1 (by decide) (fun c_1 => ?_) (fun c_1 => ?_)
  · skip
    replace h := h.1 c_1
    refine lv_iconst (v := 0) X.1 X.2.1 dX5_hasPlaces_27 (by decide) ?_
    exact xt_z X hr hlocks hNN hw hl (by decide) h dX5_hasPlaces_28
  · skip
    replace h := h.2 c_1
    refine lv_iload_n X.1 X.2.1 dX5_hasPlaces_4 rfl (lv_at hv 2 rfl) ?_
    refine lv_if_lt (tgt := 27) X.1 X.2.1 dX5_hasPlaces_5 (by decide) (fun c_2 => ?_) (fun c_2 => ?_)
    · skip
      replace h := h.1 c_2
      refine lv_iconst (v := 0) X.1 X.2.1 dX5_hasPlaces_27 (by decide) ?_
      exact xt_z X hr hlocks hNN hw hl (by decide) h dX5_hasPlaces_28
    · skip
      replace h := h.2 c_2
      refine lv_iload_n X.1 X.2.1 dX5_hasPlaces_8 rfl (lv_at hv 1 rfl) ?_
      refine lv_i2l (v := (x1).toInt64) X.1 X.2.1 dX5_hasPlaces_9 rfl ?_
      refine lv_iload_n X.1 X.2.1 dX5_hasPlaces_10 rfl (lv_at hv 2 rfl) ?_
      refine lv_i2l (v := (x2).toInt64) X.1 X.2.1 dX5_hasPlaces_11 rfl ?_
      refine lv_ladd X.1 X.2.1 dX5_hasPlaces_12 ?_
      refine lv_aload_n X.1 X.2.1 dX5_hasPlaces_13 rfl (lv_at hv 0 rfl) ?_
      obtain ⟨o_3, h⟩ := h
      refine xw_get X hk hw (i := u0) 1 (xE_row o_3) rfl tlX5 (by decide) rfl tw_331 dX5_hasPlaces_14 ?_
      refine xw_len X hk hw (xE_arr o_3) dX5_hasPlaces_17 ?_
      refine lv_i2l (v := ((nI (xN S (u0 + 120)))).toInt64) X.1 X.2.1 dX5_hasPlaces_18 rfl ?_
      refine W.lcmp X.1 X.2.1 dX5_hasPlaces_19 ?_
      refine lv_if_gt (tgt := 27) X.1 X.2.1 dX5_hasPlaces_20 (by decide) (fun c_4 => ?_) (fun c_4 => ?_)
      · skip
        replace c_4 := (lg_cmp_gt _ _).mp c_4
        replace h := h.1 c_4
        refine lv_iconst (v := 0) X.1 X.2.1 dX5_hasPlaces_27 (by decide) ?_
        exact xt_z X hr hlocks hNN hw hl (by decide) h dX5_hasPlaces_28
      · skip
        replace c_4 := fun q => c_4 ((lg_cmp_gt _ _).mpr q)
        replace h := h.2 c_4
        refine lv_iconst (v := 1) X.1 X.2.1 dX5_hasPlaces_23 (by decide) ?_
        refine lv_goto (tgt := 28) X.1 X.2.1 dX5_hasPlaces_24 (by decide) ?_
        exact xt_z X hr hlocks hNN hw hl (by decide) h dX5_hasPlaces_28
def v_X0_refusalOfPlaces (x1 : Int32) (x2 : Int32) (S : xs_T) (K : Int32 → xs_T → Prop) : Prop := ∃ j_1 : Nat, x1 = nI j_1 ∧ j_1 < 10 ∧ ((xQ S 37 j_1 = none → K (1) S) ∧ (∀ u_5 : Nat, xQ S 37 j_1 = some u_5 → ∃ j_6 : Nat, x1 = nI j_6 ∧ j_6 < 10 ∧ oT S (xQ S 37 j_6) ∧ ((∀ u_10 : Nat, xQ S 37 j_6 = some u_10 → oR S u_10 → ∃ j_13 : Nat, x1 = nI j_13 ∧ j_13 < 10 ∧ v_X5_hasPlaces (u_10) ((xI S 38 j_13)) (x2) S (fun (r_17 : Int32) (S_16 : xs_T) => ((r_17 = 0 → K (3) S_16) ∧ (¬ r_17 = 0 → K (0) S_16)))) ∧ (¬ iR S (xQ S 37 j_6) → K (2) S))))
set_option maxHeartbeats 4000000 in
set_option maxRecDepth 100000 in
theorem c_X0_refusalOfPlaces (l : Launch) (Z : xz_T) (et : Nat → Nat) (S : xs_T) (x1 : Int32) (x2 : Int32) (K : Int32 → xs_T → Prop) (h : v_X0_refusalOfPlaces x1 x2 S K) : Met l yX0_refusalOfPlaces (wq yX0_refusalOfPlaces cX0_refusalOfPlaces 5 (some .int)) { frames := 1, cells := 0, slots := 0, locals := 22 } (xPc Z et S [.ref (et (33)), .int (x1), .int (x2)]) (xQi Z et S.2.2.2.2 K) 0 0 (fun q => Z.2.2.1 ≤ q) := by
  refine Met.ofW (cc := cX0_refusalOfPlaces) (maxL := 5) (ret := (some .int)) (by decide +kernel) rfl ?_
  intro p e s m args below meth c s₁ B hml hv0
  obtain ⟨rfl, hk, hw⟩ := hv0
  have X : CallFix p m c cX0_refusalOfPlaces 5 s _ (wq yX0_refusalOfPlaces cX0_refusalOfPlaces 5 (some .int)) RX0 := ⟨B.exec, B.bytes, hml, findClass_of_methodNamed B.named, atoms_spec (ws := (wq yX0_refusalOfPlaces cX0_refusalOfPlaces 5 (some .int))) B.pre⟩
  have hr := B.returns
  have hlocks := B.notSynchronized
  have hl : xl Z [] := fun _ h => by cases h
  have hNN : S.2.2.2.2 = S.2.2.2.2 := rfl
  have hv := lv_entry [.ref (et (33)), .int (x1), .int (x2)] (n := 5) (Nat.le_of_ble_eq_true rfl)
  rw [lg_entry_eq]
  generalize (lg_sl [.ref (et (33)), .int (x1), .int (x2)] ++ List.replicate (5 - (lg_sl [.ref (et (33)), .int (x1), .int (x2)]).length) Slot.unset).toArray = ls at hv ⊢
  replace hv : lv_has ls 5 [(0, .ref (et (33))), (1, .int (x1)), (2, .int (x2))] := hv
  unfold v_X0_refusalOfPlaces at h
  refine lv_aload_n X.1 X.2.1 dX0_refusalOfPlaces_0 rfl (lv_at hv 0 rfl) ?_
  refine xw_get X hk hw (i := 33) 0 xe_33 rfl tlX0 (by decide) rfl tw_96 dX0_refusalOfPlaces_1 ?_
  refine lv_iload_n X.1 X.2.1 dX0_refusalOfPlaces_4 rfl (lv_at hv 1 rfl) ?_
  obtain ⟨j_1, e_2, b_3, h⟩ := h
  refine xw_qld X hk hw xe_37 (C := RX7) rfl e_2 b_3 (by decide) dX0_refusalOfPlaces_5 ?_
  refine xv_ifnonnull (tgt := 11) X.1 X.2.1 dX0_refusalOfPlaces_6 (by decide) (fun u_5 c_4 => ?_) (fun c_4 => ?_)
  · skip
    replace h := h.2 u_5 c_4
    refine lv_aload_n X.1 X.2.1 dX0_refusalOfPlaces_11 rfl (lv_at hv 0 rfl) ?_
    refine xw_get X hk hw (i := 33) 0 xe_33 rfl tlX0 (by decide) rfl tw_96 dX0_refusalOfPlaces_12 ?_
    refine lv_iload_n X.1 X.2.1 dX0_refusalOfPlaces_15 rfl (lv_at hv 1 rfl) ?_
    obtain ⟨j_6, e_7, b_8, h⟩ := h
    refine xw_qld X hk hw xe_37 (C := RX7) rfl e_7 b_8 (by decide) dX0_refusalOfPlaces_16 ?_
    refine xv_astore (lv' := [(4, va_rf (Option.map et (xQ S 37 j_6))), (0, .ref (et (33))), (1, .int (x1)), (2, .int (x2))]) X.1 X.2.1 dX0_refusalOfPlaces_17 hv (by decide) rfl (fun ls hv => ?_)
    refine xv_aload X.1 X.2.1 dX0_refusalOfPlaces_19 (lv_at hv 0 rfl) ?_
    obtain ⟨o_9, h⟩ := h
    refine xw_instR X hk hw o_9 tw_241 dX0_refusalOfPlaces_21 (fun u_10 c_11 o_12 => ?_) (fun c_11 => ?_)
    · skip
      replace h := h.1 u_10 c_11 o_12
      rw [c_11] at hv
      replace hv : lv_has ls 5 [(4, .ref (et (u_10))), (0, .ref (et (33))), (1, .int (x1)), (2, .int (x2))] := hv
      refine lv_if_eq (tgt := 36) X.1 X.2.1 dX0_refusalOfPlaces_24 (by decide) (fun c => absurd c (by decide)) (fun _ => ?_)
      refine lv_aload X.1 X.2.1 dX0_refusalOfPlaces_27 (lv_at hv 0 rfl) ?_
      refine xw_castR X hk hw o_12 tw_241 dX0_refusalOfPlaces_29 ?_
      refine lv_astore_n (lv' := [(3, .ref (et (u_10))), (4, .ref (et (u_10))), (0, .ref (et (33))), (1, .int (x1)), (2, .int (x2))]) X.1 X.2.1 dX0_refusalOfPlaces_32 rfl hv (by decide) rfl (fun ls hv => ?_)
      refine lv_goto (tgt := 38) X.1 X.2.1 dX0_refusalOfPlaces_33 (by decide) ?_
      refine lv_aload_n X.1 X.2.1 dX0_refusalOfPlaces_38 rfl (lv_at hv 0 rfl) ?_
      refine lv_aload_n X.1 X.2.1 dX0_refusalOfPlaces_39 rfl (lv_at hv 2 rfl) ?_
      refine xw_get X hk hw (i := 33) 1 xe_33 rfl tlX0 (by decide) rfl tw_98 dX0_refusalOfPlaces_40 ?_
      refine lv_iload_n X.1 X.2.1 dX0_refusalOfPlaces_43 rfl (lv_at hv 3 rfl) ?_
      obtain ⟨j_13, e_14, b_15, h⟩ := h
      refine xw_ild X hk hw xe_38 e_14 b_15 (by decide) dX0_refusalOfPlaces_44 ?_
      refine lv_iload_n X.1 X.2.1 dX0_refusalOfPlaces_45 rfl (lv_at hv 4 rfl) ?_
      refine xc_i (xr_V (n := 2) (As := [.int ((xI S 38 j_13)), .int (x2)]) (i := u_10) X hk hw hv.1 (c_X5_hasPlaces l Z et S (u_10) ((xI S 38 j_13)) (x2) _ h) (tb_V tw_253 tw_250 tw_251 tw_252 tw_48) (xE_row o_12) rfl rfl rfl rfl (by decide +kernel) ⟨Nat.le_of_ble_eq_true rfl, Nat.le_of_ble_eq_true rfl⟩ rfl (Nat.le_of_ble_eq_true rfl) dX0_refusalOfPlaces_46 ⟨Nat.le_of_ble_eq_true rfl, Nat.le_of_ble_eq_true rfl⟩) hl (fun r_17 S_16 H locs h hN hw hl => ?_)
      have o_18 := oT_N hN o_9
      have o_19 := oR_N hN o_12
      replace hNN := hN.trans hNN
      refine lv_if_eq (tgt := 56) X.1 X.2.1 dX0_refusalOfPlaces_49 (by decide) (fun c_20 => ?_) (fun c_20 => ?_)
      · skip
        replace h := h.1 c_20
        refine lv_iconst (v := 3) X.1 X.2.1 dX0_refusalOfPlaces_56 (by decide) ?_
        exact xt_i X hr hlocks hNN hw hl h dX0_refusalOfPlaces_57
      · skip
        replace h := h.2 c_20
        refine lv_iconst (v := 0) X.1 X.2.1 dX0_refusalOfPlaces_52 (by decide) ?_
        refine lv_goto (tgt := 57) X.1 X.2.1 dX0_refusalOfPlaces_53 (by decide) ?_
        exact xt_i X hr hlocks hNN hw hl h dX0_refusalOfPlaces_57
    · skip
      replace h := h.2 c_11
      refine lv_if_eq (tgt := 36) X.1 X.2.1 dX0_refusalOfPlaces_24 (by decide) (fun _ => ?_) (fun c => absurd c (by decide))
      refine lv_iconst (v := 2) X.1 X.2.1 dX0_refusalOfPlaces_36 (by decide) ?_
      exact xt_i X hr hlocks hNN hw hl h dX0_refusalOfPlaces_37
  · skip
    replace h := h.1 c_4
    refine lv_iconst (v := 1) X.1 X.2.1 dX0_refusalOfPlaces_9 (by decide) ?_
    exact xt_i X hr hlocks hNN hw hl h dX0_refusalOfPlaces_10
def v_X5_empty_2 (K : xs_T → Prop) : Nat → Nat → Int32 → Int32 → xs_T → Prop
  | 0, _, _, _, _ => False
  | n + 1, u0, a2, a3, S => ((a2 ≤ a3 → K S) ∧ (¬ a2 ≤ a3 → oR S u0 ∧ ∃ j_4 : Nat, a3 = nI j_4 ∧ j_4 < xN S (u0 + 120) ∧ ∀ S_7 : xs_T, S_7 = sL S (u0 + 120) j_4 (0) → v_X5_empty_2 K n (u0) (a2) ((a3 + 1)) S_7))
def v_X5_empty (u0 : Nat) (x1 : Int32) (x2 : Int32) (S : xs_T) (K : xs_T → Prop) : Prop := ∃ n, v_X5_empty_2 K n (u0) (x2) (x1) S
set_option maxHeartbeats 4000000 in
set_option maxRecDepth 100000 in
theorem j_X5_empty_2 {l : Launch} {p : Program} {e : Env} {s : State} {m : MethodId} {args : Array Value} {below : List Frame} {meth : Method} {c : Code} {Z : xz_T} {et : Nat → Nat} {Nn : Nat → Nat} {K : xs_T → Prop} (X : CallFix p m c cX5_empty 4 s args (wq yX5_empty cX5_empty 4 none) RX5) (hk : xk Z s) (hr : meth.sig.returnType = none) (hlocks : meth.locks = false) : ∀ (n : Nat) (u0 : Nat) (a2 : Int32) (a3 : Int32) (S : xs_T) (H : Heap) (locs : List Loc) (ls : Array Slot), v_X5_empty_2 K n u0 a2 a3 S → S.2.2.2.2 = Nn → wd Z et S H → xl Z locs → lv_has ls 4 [(0, .ref (et (u0))), (2, .int (a2)), (3, .int (a3))] → W p l e (headSpec (wq yX5_empty cX5_empty 4 none) { frames := 0, cells := 0, slots := 0, locals := 0 }).room s m args below meth c H locs 0 0 (MQ below (xQv Z et Nn K) args s 0 0 (fun q => Z.2.2.1 ≤ q)) (F0 m 2 ls []) := by
  intro n
  induction n with
  | zero =>
    intro u0 a2 a3 S H locs ls h hNN hw hl hv
    exact False.elim h
  | succ n ih =>
    intro u0 a2 a3 S H locs ls h hNN hw hl hv
    rw [v_X5_empty_2] at h
    refine lv_iload_n X.1 X.2.1 dX5_empty_2 rfl (lv_at hv 2 rfl) ?_
    refine lv_iload_n X.1 X.2.1 dX5_empty_3 rfl (lv_at hv 1 rfl) ?_
    refine lv_icmp_ge (tgt := 20) X.1 X.2.1 dX5_empty_4 (by decide) (fun c_2 => ?_) (fun c_2 => ?_)
    · skip
      replace h := h.1 c_2
      exact xt_v X hr hlocks hNN hw hl h dX5_empty_20
    · skip
      replace h := h.2 c_2
      refine lv_aload_n X.1 X.2.1 dX5_empty_7 rfl (lv_at hv 0 rfl) ?_
      obtain ⟨o_3, h⟩ := h
      refine xw_get X hk hw (i := u0) 1 (xE_row o_3) rfl tlX5 (by decide) rfl tw_331 dX5_empty_8 ?_
      refine lv_iload_n X.1 X.2.1 dX5_empty_11 rfl (lv_at hv 2 rfl) ?_
      refine lv_lconst (v := 0) X.1 X.2.1 dX5_empty_12 rfl ?_
      obtain ⟨j_4, e_5, b_6, h⟩ := h
      refine xw_lst X hk hw hl (xE_arr o_3) (xE_arr (S := sL S (u0 + 120) j_4 (0)) o_3) e_5 b_6 (oR_lt o_3) dX5_empty_13 (fun H locs hw hl => ?_)
      obtain ⟨S_7, e_8⟩ : ∃ T : xs_T, T = sL S (u0 + 120) j_4 (0) := ⟨_, rfl⟩
      rw [← e_8] at hw
      replace h := h S_7 e_8
      have hN : S_7.2.2.2.2 = S.2.2.2.2 := by rw [e_8]; rfl
      have o_9 := oR_N hN o_3
      replace hNN := hN.trans hNN
      refine lv_iinc (v := (a3 + 1)) (lv' := [(3, .int ((a3 + 1))), (0, .ref (et (u0))), (2, .int (a2))]) X.1 X.2.1 dX5_empty_14 hv (k := 2) rfl rfl (by decide) rfl (fun ls hv => ?_)
      refine lv_goto (tgt := 2) X.1 X.2.1 dX5_empty_17 (by decide) ?_
      exact ih (u0) (a2) ((a3 + 1)) S_7 _ _ _ h hNN hw hl (lv_sub hv [1, 2, 0] rfl)
set_option maxHeartbeats 4000000 in
set_option maxRecDepth 100000 in
theorem c_X5_empty (l : Launch) (Z : xz_T) (et : Nat → Nat) (S : xs_T) (u0 : Nat) (x1 : Int32) (x2 : Int32) (K : xs_T → Prop) (h : v_X5_empty u0 x1 x2 S K) : Met l yX5_empty (wq yX5_empty cX5_empty 4 none) { frames := 0, cells := 0, slots := 0, locals := 0 } (xPc Z et S [.ref (et (u0)), .int (x1), .int (x2)]) (xQv Z et S.2.2.2.2 K) 0 0 (fun q => Z.2.2.1 ≤ q) := by
  refine Met.ofW (cc := cX5_empty) (maxL := 4) (ret := none) (by decide +kernel) rfl ?_
  intro p e s m args below meth c s₁ B hml hv0
  obtain ⟨rfl, hk, hw⟩ := hv0
  have X : CallFix p m c cX5_empty 4 s _ (wq yX5_empty cX5_empty 4 none) RX5 := ⟨B.exec, B.bytes, hml, findClass_of_methodNamed B.named, atoms_spec (ws := (wq yX5_empty cX5_empty 4 none)) B.pre⟩
  have hr := B.returns
  have hlocks := B.notSynchronized
  have hl : xl Z [] := fun _ h => by cases h
  have hNN : S.2.2.2.2 = S.2.2.2.2 := rfl
  have hv := lv_entry [.ref (et (u0)), .int (x1), .int (x2)] (n := 4) (Nat.le_of_ble_eq_true rfl)
  rw [lg_entry_eq]
  generalize (lg_sl [.ref (et (u0)), .int (x1), .int (x2)] ++ List.replicate (4 - (lg_sl [.ref (et (u0)), .int (x1), .int (x2)]).length) Slot.unset).toArray = ls at hv ⊢
  replace hv : lv_has ls 4 [(0, .ref (et (u0))), (1, .int (x1)), (2, .int (x2))] := hv
  unfold v_X5_empty at h
  refine lv_iload_n X.1 X.2.1 dX5_empty_0 rfl (lv_at hv 1 rfl) ?_
  refine lv_istore_n (lv' := [(3, .int (x1)), (0, .ref (et (u0))), (1, .int (x1)), (2, .int (x2))]) X.1 X.2.1 dX5_empty_1 rfl hv (by decide) rfl (fun ls hv => ?_)
  obtain ⟨n_1, h⟩ := h
  exact j_X5_empty_2 X hk hr hlocks n_1 (u0) (x2) (x1) S _ _ _ h hNN hw hl (lv_sub hv [1, 3, 0] rfl)
def v_X5_open (u0 : Nat) (x1 : Int32) (x2 : Int32) (S : xs_T) (K : xs_T → Prop) : Prop := oR S u0 ∧ ∃ j_2 j_3 j_4 : Nat, x1 = nI j_2 ∧ (x1 + x2) = nI j_3 ∧ (((nI (xN S (u0 + 120))) - x1) - x2) = nI j_4 ∧ j_2 + j_4 ≤ xN S (u0 + 120) ∧ j_3 + j_4 ≤ xN S (u0 + 120) ∧ ∀ S_10 : xs_T, S_10 = tL S (u0 + 120) (va_cpy (xL S (u0 + 120)) (xL S (u0 + 120)) j_2 j_3 j_4) → v_X5_empty (u0) (x1) ((x1 + x2)) S_10 (fun (S_13 : xs_T) => K S_13)
set_option maxHeartbeats 4000000 in
set_option maxRecDepth 100000 in
theorem c_X5_open (l : Launch) (Z : xz_T) (et : Nat → Nat) (S : xs_T) (u0 : Nat) (x1 : Int32) (x2 : Int32) (K : xs_T → Prop) (h : v_X5_open u0 x1 x2 S K) : Met l yX5_open (wq yX5_open cX5_open 3 none) { frames := 1, cells := 0, slots := 0, locals := 30 } (xPc Z et S [.ref (et (u0)), .int (x1), .int (x2)]) (xQv Z et S.2.2.2.2 K) 0 0 (fun q => Z.2.2.1 ≤ q) := by
  refine Met.ofW (cc := cX5_open) (maxL := 3) (ret := none) (by decide +kernel) rfl ?_
  intro p e s m args below meth c s₁ B hml hv0
  obtain ⟨rfl, hk, hw⟩ := hv0
  have X : CallFix p m c cX5_open 3 s _ (wq yX5_open cX5_open 3 none) RX5 := ⟨B.exec, B.bytes, hml, findClass_of_methodNamed B.named, atoms_spec (ws := (wq yX5_open cX5_open 3 none)) B.pre⟩
  have hr := B.returns
  have hlocks := B.notSynchronized
  have hl : xl Z [] := fun _ h => by cases h
  have hNN : S.2.2.2.2 = S.2.2.2.2 := rfl
  have hv := lv_entry [.ref (et (u0)), .int (x1), .int (x2)] (n := 3) (Nat.le_of_ble_eq_true rfl)
  rw [lg_entry_eq]
  generalize (lg_sl [.ref (et (u0)), .int (x1), .int (x2)] ++ List.replicate (3 - (lg_sl [.ref (et (u0)), .int (x1), .int (x2)]).length) Slot.unset).toArray = ls at hv ⊢
  replace hv : lv_has ls 3 [(0, .ref (et (u0))), (1, .int (x1)), (2, .int (x2))] := hv
  unfold v_X5_open at h
  refine lv_aload_n X.1 X.2.1 dX5_open_0 rfl (lv_at hv 0 rfl) ?_
  obtain ⟨o_1, h⟩ := h
  refine xw_get X hk hw (i := u0) 1 (xE_row o_1) rfl tlX5 (by decide) rfl tw_331 dX5_open_1 ?_
  refine lv_iload_n X.1 X.2.1 dX5_open_4 rfl (lv_at hv 1 rfl) ?_
  refine lv_aload_n X.1 X.2.1 dX5_open_5 rfl (lv_at hv 0 rfl) ?_
  refine xw_get X hk hw (i := u0) 1 (xE_row o_1) rfl tlX5 (by decide) rfl tw_331 dX5_open_6 ?_
  refine lv_iload_n X.1 X.2.1 dX5_open_9 rfl (lv_at hv 1 rfl) ?_
  refine lv_iload_n X.1 X.2.1 dX5_open_10 rfl (lv_at hv 2 rfl) ?_
  refine lv_iadd X.1 X.2.1 dX5_open_11 ?_
  refine lv_aload_n X.1 X.2.1 dX5_open_12 rfl (lv_at hv 0 rfl) ?_
  refine xw_get X hk hw (i := u0) 1 (xE_row o_1) rfl tlX5 (by decide) rfl tw_331 dX5_open_13 ?_
  refine xw_len X hk hw (xE_arr o_1) dX5_open_16 ?_
  refine lv_iload_n X.1 X.2.1 dX5_open_17 rfl (lv_at hv 1 rfl) ?_
  refine lv_isub X.1 X.2.1 dX5_open_18 ?_
  refine lv_iload_n X.1 X.2.1 dX5_open_19 rfl (lv_at hv 2 rfl) ?_
  refine lv_isub X.1 X.2.1 dX5_open_20 ?_
  obtain ⟨j_2, j_3, j_4, e_5, e_6, e_7, e_8, e_9, h⟩ := h
  refine xw_cpy X hk hw hl hv.1 (xE_arr o_1) (xE_arr o_1) (fun f => xE_arr (S := tL S (u0 + 120) f) o_1) e_5 e_6 e_7 e_8 e_9 (oR_lt o_1) (oR_lt o_1) tw_230 (Nat.le_of_ble_eq_true rfl) (Nat.le_of_ble_eq_true rfl) dX5_open_21 (fun H locs hw hl => ?_)
  obtain ⟨S_10, e_11⟩ : ∃ T : xs_T, T = tL S (u0 + 120) (va_cpy (xL S (u0 + 120)) (xL S (u0 + 120)) j_2 j_3 j_4) := ⟨_, rfl⟩
  rw [← e_11] at hw
  replace h := h S_10 e_11
  have hN : S_10.2.2.2.2 = S.2.2.2.2 := by rw [e_11]; rfl
  have o_12 := oR_N hN o_1
  replace hNN := hN.trans hNN
  refine lv_aload_n X.1 X.2.1 dX5_open_24 rfl (lv_at hv 0 rfl) ?_
  refine lv_iload_n X.1 X.2.1 dX5_open_25 rfl (lv_at hv 1 rfl) ?_
  refine lv_iload_n X.1 X.2.1 dX5_open_26 rfl (lv_at hv 1 rfl) ?_
  refine lv_iload_n X.1 X.2.1 dX5_open_27 rfl (lv_at hv 2 rfl) ?_
  refine lv_iadd X.1 X.2.1 dX5_open_28 ?_
  refine xc_v (xr_V (n := 2) (As := [.int (x1), .int ((x1 + x2))]) (i := u0) X hk hw hv.1 (c_X5_empty l Z et S_10 (u0) (x1) ((x1 + x2)) _ h) (tb_V tw_300 tw_296 tw_298 tw_7 tw_48) (xE_row o_12) rfl rfl rfl rfl (by decide +kernel) ⟨Nat.le_of_ble_eq_true rfl, Nat.le_of_ble_eq_true rfl⟩ rfl (Nat.le_of_ble_eq_true rfl) dX5_open_29 ⟨Nat.le_of_ble_eq_true rfl, Nat.le_of_ble_eq_true rfl⟩) hl (fun S_13 H locs h hN hw hl => ?_)
  have o_15 := oR_N hN o_12
  replace hNN := hN.trans hNN
  exact xt_v X hr hlocks hNN hw hl h dX5_open_32
def v_X0_open (x1 : Int32) (x2 : Int32) (S : xs_T) (K : Int32 → xs_T → Prop) : Prop := v_X0_refusalOfPlaces (x1) (x2) S (fun (r_2 : Int32) (S_1 : xs_T) => ((¬ r_2 = 0 → K (r_2) S_1) ∧ (r_2 = 0 → ∃ j_4 : Nat, x1 = nI j_4 ∧ j_4 < 10 ∧ oT S_1 (xQ S_1 37 j_4) ∧ ((∀ u_8 : Nat, xQ S_1 37 j_4 = some u_8 → oR S_1 u_8 → ∃ j_11 : Nat, x1 = nI j_11 ∧ j_11 < 10 ∧ v_X5_open (u_8) ((xI S_1 38 j_11)) (x2) S_1 (fun (S_14 : xs_T) => K (r_2) S_14)) ∧ (¬ iR S_1 (xQ S_1 37 j_4) → K (r_2) S_1)))))
set_option maxHeartbeats 4000000 in
set_option maxRecDepth 100000 in
theorem c_X0_open (l : Launch) (Z : xz_T) (et : Nat → Nat) (S : xs_T) (x1 : Int32) (x2 : Int32) (K : Int32 → xs_T → Prop) (h : v_X0_open x1 x2 S K) : Met l yX0_open (wq yX0_open cX0_open 6 (some .int)) { frames := 2, cells := 0, slots := 0, locals := 52 } (xPc Z et S [.ref (et (33)), .int (x1), .int (x2)]) (xQi Z et S.2.2.2.2 K) 0 0 (fun q => Z.2.2.1 ≤ q) := by
  refine Met.ofW (cc := cX0_open) (maxL := 6) (ret := (some .int)) (by decide +kernel) rfl ?_
  intro p e s m args below meth c s₁ B hml hv0
  obtain ⟨rfl, hk, hw⟩ := hv0
  have X : CallFix p m c cX0_open 6 s _ (wq yX0_open cX0_open 6 (some .int)) RX0 := ⟨B.exec, B.bytes, hml, findClass_of_methodNamed B.named, atoms_spec (ws := (wq yX0_open cX0_open 6 (some .int))) B.pre⟩
  have hr := B.returns
  have hlocks := B.notSynchronized
  have hl : xl Z [] := fun _ h => by cases h
  have hNN : S.2.2.2.2 = S.2.2.2.2 := rfl
  have hv := lv_entry [.ref (et (33)), .int (x1), .int (x2)] (n := 6) (Nat.le_of_ble_eq_true rfl)
  rw [lg_entry_eq]
  generalize (lg_sl [.ref (et (33)), .int (x1), .int (x2)] ++ List.replicate (6 - (lg_sl [.ref (et (33)), .int (x1), .int (x2)]).length) Slot.unset).toArray = ls at hv ⊢
  replace hv : lv_has ls 6 [(0, .ref (et (33))), (1, .int (x1)), (2, .int (x2))] := hv
  unfold v_X0_open at h
  refine lv_aload_n X.1 X.2.1 dX0_open_0 rfl (lv_at hv 0 rfl) ?_
  refine lv_iload_n X.1 X.2.1 dX0_open_1 rfl (lv_at hv 1 rfl) ?_
  refine lv_iload_n X.1 X.2.1 dX0_open_2 rfl (lv_at hv 2 rfl) ?_
  refine xc_i (xr_V (n := 2) (As := [.int (x1), .int (x2)]) (i := 33) X hk hw hv.1 (c_X0_refusalOfPlaces l Z et S (x1) (x2) _ h) (tb_V tw_291 tw_288 tw_290 tw_6 tw_40) xe_33 rfl rfl rfl rfl (by decide +kernel) ⟨Nat.le_of_ble_eq_true rfl, Nat.le_of_ble_eq_true rfl⟩ rfl (Nat.le_of_ble_eq_true rfl) dX0_open_3 ⟨Nat.le_of_ble_eq_true rfl, Nat.le_of_ble_eq_true rfl⟩) hl (fun r_2 S_1 H locs h hN hw hl => ?_)
  replace hNN := hN.trans hNN
  refine lv_istore_n (lv' := [(3, .int (r_2)), (0, .ref (et (33))), (1, .int (x1)), (2, .int (x2))]) X.1 X.2.1 dX0_open_6 rfl hv (by decide) rfl (fun ls hv => ?_)
  refine lv_iload_n X.1 X.2.1 dX0_open_7 rfl (lv_at hv 0 rfl) ?_
  refine lv_if_ne (tgt := 46) X.1 X.2.1 dX0_open_8 (by decide) (fun c_3 => ?_) (fun c_3 => ?_)
  · skip
    replace h := h.1 c_3
    refine lv_iload_n X.1 X.2.1 dX0_open_46 rfl (lv_at hv 0 rfl) ?_
    exact xt_i X hr hlocks hNN hw hl h dX0_open_47
  · skip
    replace h := h.2 c_3
    refine lv_aload_n X.1 X.2.1 dX0_open_11 rfl (lv_at hv 1 rfl) ?_
    refine xw_get X hk hw (i := 33) 0 xe_33 rfl tlX0 (by decide) rfl tw_96 dX0_open_12 ?_
    refine lv_iload_n X.1 X.2.1 dX0_open_15 rfl (lv_at hv 2 rfl) ?_
    obtain ⟨j_4, e_5, b_6, h⟩ := h
    refine xw_qld X hk hw xe_37 (C := RX7) rfl e_5 b_6 (by decide) dX0_open_16 ?_
    refine xv_astore (lv' := [(5, va_rf (Option.map et (xQ S_1 37 j_4))), (3, .int (r_2)), (0, .ref (et (33))), (1, .int (x1)), (2, .int (x2))]) X.1 X.2.1 dX0_open_17 hv (by decide) rfl (fun ls hv => ?_)
    refine xv_aload X.1 X.2.1 dX0_open_19 (lv_at hv 0 rfl) ?_
    obtain ⟨o_7, h⟩ := h
    refine xw_instR X hk hw o_7 tw_241 dX0_open_21 (fun u_8 c_9 o_10 => ?_) (fun c_9 => ?_)
    · skip
      replace h := h.1 u_8 c_9 o_10
      rw [c_9] at hv
      replace hv : lv_has ls 6 [(5, .ref (et (u_8))), (3, .int (r_2)), (0, .ref (et (33))), (1, .int (x1)), (2, .int (x2))] := hv
      refine lv_if_eq (tgt := 46) X.1 X.2.1 dX0_open_24 (by decide) (fun c => absurd c (by decide)) (fun _ => ?_)
      refine lv_aload X.1 X.2.1 dX0_open_27 (lv_at hv 0 rfl) ?_
      refine xw_castR X hk hw o_10 tw_241 dX0_open_29 ?_
      refine lv_astore (lv' := [(4, .ref (et (u_8))), (5, .ref (et (u_8))), (3, .int (r_2)), (0, .ref (et (33))), (1, .int (x1)), (2, .int (x2))]) X.1 X.2.1 dX0_open_32 hv (by decide) rfl (fun ls hv => ?_)
      refine lv_aload X.1 X.2.1 dX0_open_34 (lv_at hv 0 rfl) ?_
      refine lv_aload_n X.1 X.2.1 dX0_open_36 rfl (lv_at hv 3 rfl) ?_
      refine xw_get X hk hw (i := 33) 1 xe_33 rfl tlX0 (by decide) rfl tw_98 dX0_open_37 ?_
      refine lv_iload_n X.1 X.2.1 dX0_open_40 rfl (lv_at hv 4 rfl) ?_
      obtain ⟨j_11, e_12, b_13, h⟩ := h
      refine xw_ild X hk hw xe_38 e_12 b_13 (by decide) dX0_open_41 ?_
      refine lv_iload_n X.1 X.2.1 dX0_open_42 rfl (lv_at hv 5 rfl) ?_
      refine xc_v (xr_V (n := 2) (As := [.int ((xI S_1 38 j_11)), .int (x2)]) (i := u_8) X hk hw hv.1 (c_X5_open l Z et S_1 (u_8) ((xI S_1 38 j_11)) (x2) _ h) (tb_V tw_295 tw_292 tw_293 tw_294 tw_48) (xE_row o_10) rfl rfl rfl rfl (by decide +kernel) ⟨Nat.le_of_ble_eq_true rfl, Nat.le_of_ble_eq_true rfl⟩ rfl (Nat.le_of_ble_eq_true rfl) dX0_open_43 ⟨Nat.le_of_ble_eq_true rfl, Nat.le_of_ble_eq_true rfl⟩) hl (fun S_14 H locs h hN hw hl => ?_)
      have o_16 := oT_N hN o_7
      have o_17 := oR_N hN o_10
      replace hNN := hN.trans hNN
      refine lv_iload_n X.1 X.2.1 dX0_open_46 rfl (lv_at hv 2 rfl) ?_
      exact xt_i X hr hlocks hNN hw hl h dX0_open_47
    · skip
      replace h := h.2 c_9
      refine lv_if_eq (tgt := 46) X.1 X.2.1 dX0_open_24 (by decide) (fun _ => ?_) (fun c => absurd c (by decide))
      refine lv_iload_n X.1 X.2.1 dX0_open_46 rfl (lv_at hv 1 rfl) ?_
      exact xt_i X hr hlocks hNN hw hl h dX0_open_47
def v_X4_topBit_4 (K : Int32 → xs_T → Prop) : Nat → Int64 → Int32 → Int32 → xs_T → Prop
  | 0, _, _, _, _ => False
  | n + 1, a0, a2, a3, S => ((32 ≤ a3 → K (a2) S) ∧ (¬ 32 ≤ a3 → (((a0 >>> (a3.toInt64 &&& 63)) = 0 → v_X4_topBit_4 K n (a0) (a2) ((a3 + 1)) S) ∧ (¬ (a0 >>> (a3.toInt64 &&& 63)) = 0 → v_X4_topBit_4 K n (a0) (a3) ((a3 + 1)) S))))
def v_X4_topBit (x1 : Int64) (S : xs_T) (K : Int32 → xs_T → Prop) : Prop := ∃ n, v_X4_topBit_4 K n (x1) (0) (1) S
set_option maxHeartbeats 4000000 in
set_option maxRecDepth 100000 in
theorem j_X4_topBit_4 {l : Launch} {p : Program} {e : Env} {s : State} {m : MethodId} {args : Array Value} {below : List Frame} {meth : Method} {c : Code} {Z : xz_T} {et : Nat → Nat} {Nn : Nat → Nat} {K : Int32 → xs_T → Prop} (X : CallFix p m c cX4_topBit 4 s args (wq yX4_topBit cX4_topBit 4 (some .int)) RX4) (hk : xk Z s) (hr : meth.sig.returnType = (some .int)) (hlocks : meth.locks = false) : ∀ (n : Nat) (a0 : Int64) (a2 : Int32) (a3 : Int32) (S : xs_T) (H : Heap) (locs : List Loc) (ls : Array Slot), v_X4_topBit_4 K n a0 a2 a3 S → S.2.2.2.2 = Nn → wd Z et S H → xl Z locs → lv_has ls 4 [(0, .long (a0)), (2, .int (a2)), (3, .int (a3))] → W p l e (headSpec (wq yX4_topBit cX4_topBit 4 (some .int)) { frames := 0, cells := 0, slots := 0, locals := 0 }).room s m args below meth c H locs 0 0 (MQ below (xQi Z et Nn K) args s 0 0 (fun q => Z.2.2.1 ≤ q)) (F0 m 4 ls []) := by
  intro n
  induction n with
  | zero =>
    intro a0 a2 a3 S H locs ls h hNN hw hl hv
    exact False.elim h
  | succ n ih =>
    intro a0 a2 a3 S H locs ls h hNN hw hl hv
    rw [v_X4_topBit_4] at h
    refine lv_iload_n X.1 X.2.1 dX4_topBit_4 rfl (lv_at hv 2 rfl) ?_
    refine lv_bipush (v := 32) X.1 X.2.1 dX4_topBit_5 (by decide) ?_
    refine lv_icmp_ge (tgt := 26) X.1 X.2.1 dX4_topBit_7 (by decide) (fun c_2 => ?_) (fun c_2 => ?_)
    · skip
      replace h := h.1 c_2
      refine lv_iload_n X.1 X.2.1 dX4_topBit_26 rfl (lv_at hv 1 rfl) ?_
      exact xt_i X hr hlocks hNN hw hl h dX4_topBit_27
    · skip
      replace h := h.2 c_2
      refine lv_lload_n X.1 X.2.1 dX4_topBit_10 rfl (lv_at hv 0 rfl) ?_
      refine lv_iload_n X.1 X.2.1 dX4_topBit_11 rfl (lv_at hv 2 rfl) ?_
      refine lv_lshr (v := (a0 >>> (a3.toInt64 &&& 63))) X.1 X.2.1 dX4_topBit_12 rfl ?_
      refine lv_lconst (v := 0) X.1 X.2.1 dX4_topBit_13 rfl ?_
      refine W.lcmp X.1 X.2.1 dX4_topBit_14 ?_
      refine lv_if_eq (tgt := 20) X.1 X.2.1 dX4_topBit_15 (by decide) (fun c_3 => ?_) (fun c_3 => ?_)
      · skip
        replace c_3 := (lg_cmp_eq _ _).mp c_3
        replace h := h.1 c_3
        refine lv_iinc (v := (a3 + 1)) (lv' := [(3, .int ((a3 + 1))), (0, .long (a0)), (2, .int (a2))]) X.1 X.2.1 dX4_topBit_20 hv (k := 2) rfl rfl (by decide) rfl (fun ls hv => ?_)
        refine lv_goto (tgt := 4) X.1 X.2.1 dX4_topBit_23 (by decide) ?_
        exact ih (a0) (a2) ((a3 + 1)) S _ _ _ h hNN hw hl (lv_sub hv [1, 2, 0] rfl)
      · skip
        replace c_3 := fun q => c_3 ((lg_cmp_eq _ _).mpr q)
        replace h := h.2 c_3
        refine lv_iload_n X.1 X.2.1 dX4_topBit_18 rfl (lv_at hv 2 rfl) ?_
        refine lv_istore_n (lv' := [(2, .int (a3)), (0, .long (a0)), (3, .int (a3))]) X.1 X.2.1 dX4_topBit_19 rfl hv (by decide) rfl (fun ls hv => ?_)
        refine lv_iinc (v := (a3 + 1)) (lv' := [(3, .int ((a3 + 1))), (2, .int (a3)), (0, .long (a0))]) X.1 X.2.1 dX4_topBit_20 hv (k := 2) rfl rfl (by decide) rfl (fun ls hv => ?_)
        refine lv_goto (tgt := 4) X.1 X.2.1 dX4_topBit_23 (by decide) ?_
        exact ih (a0) (a3) ((a3 + 1)) S _ _ _ h hNN hw hl (lv_sub hv [2, 1, 0] rfl)
set_option maxHeartbeats 4000000 in
set_option maxRecDepth 100000 in
theorem c_X4_topBit (l : Launch) (Z : xz_T) (et : Nat → Nat) (S : xs_T) (x1 : Int64) (K : Int32 → xs_T → Prop) (h : v_X4_topBit x1 S K) : Met l yX4_topBit (wq yX4_topBit cX4_topBit 4 (some .int)) { frames := 0, cells := 0, slots := 0, locals := 0 } (xPc Z et S [.long (x1)]) (xQi Z et S.2.2.2.2 K) 0 0 (fun q => Z.2.2.1 ≤ q) := by
  refine Met.ofW (cc := cX4_topBit) (maxL := 4) (ret := (some .int)) (by decide +kernel) rfl ?_
  intro p e s m args below meth c s₁ B hml hv0
  obtain ⟨rfl, hk, hw⟩ := hv0
  have X : CallFix p m c cX4_topBit 4 s _ (wq yX4_topBit cX4_topBit 4 (some .int)) RX4 := ⟨B.exec, B.bytes, hml, findClass_of_methodNamed B.named, atoms_spec (ws := (wq yX4_topBit cX4_topBit 4 (some .int))) B.pre⟩
  have hr := B.returns
  have hlocks := B.notSynchronized
  have hl : xl Z [] := fun _ h => by cases h
  have hNN : S.2.2.2.2 = S.2.2.2.2 := rfl
  have hv := lv_entry [.long (x1)] (n := 4) (Nat.le_of_ble_eq_true rfl)
  rw [lg_entry_eq]
  generalize (lg_sl [.long (x1)] ++ List.replicate (4 - (lg_sl [.long (x1)]).length) Slot.unset).toArray = ls at hv ⊢
  replace hv : lv_has ls 4 [(0, .long (x1))] := hv
  unfold v_X4_topBit at h
  refine lv_iconst (v := 0) X.1 X.2.1 dX4_topBit_0 (by decide) ?_
  refine lv_istore_n (lv' := [(2, .int (0)), (0, .long (x1))]) X.1 X.2.1 dX4_topBit_1 rfl hv (by decide) rfl (fun ls hv => ?_)
  refine lv_iconst (v := 1) X.1 X.2.1 dX4_topBit_2 (by decide) ?_
  refine lv_istore_n (lv' := [(3, .int (1)), (2, .int (0)), (0, .long (x1))]) X.1 X.2.1 dX4_topBit_3 rfl hv (by decide) rfl (fun ls hv => ?_)
  obtain ⟨n_1, h⟩ := h
  exact j_X4_topBit_4 X hk hr hlocks n_1 (x1) (0) (1) S _ _ _ h hNN hw hl (lv_sub hv [2, 1, 0] rfl)
def v_X4_doubleBits (x1 : Int32) (S : xs_T) (K : Int64 → xs_T → Prop) : Prop := ((¬ x1 = 0 → v_J9_abs_067f4 ((x1).toInt64) S (fun (r_3 : Int64) (S_2 : xs_T) => v_X4_topBit (r_3) S_2 (fun (r_5 : Int32) (S_4 : xs_T) => ((0 ≤ x1 → K ((((((r_5).toInt64 + 1023) <<< ((52 : Int32).toInt64 &&& 63)) + (r_3 <<< ((52 - r_5).toInt64 &&& 63))) - 4503599627370496)) S_4) ∧ (¬ 0 ≤ x1 → K (((((((r_5).toInt64 + 1023) <<< ((52 : Int32).toInt64 &&& 63)) + (r_3 <<< ((52 - r_5).toInt64 &&& 63))) - 4503599627370496) ||| (-9223372036854775808))) S_4))))) ∧ (x1 = 0 → K (0) S))
set_option maxHeartbeats 4000000 in
set_option maxRecDepth 100000 in
theorem c_X4_doubleBits (l : Launch) (Z : xz_T) (et : Nat → Nat) (S : xs_T) (x1 : Int32) (K : Int64 → xs_T → Prop) (h : v_X4_doubleBits x1 S K) : Met l yX4_doubleBits (wq yX4_doubleBits cX4_doubleBits 8 (some .long)) { frames := 1, cells := 0, slots := 0, locals := 23 } (xPc Z et S [.int (x1)]) (xQl Z et S.2.2.2.2 K) 0 0 (fun q => Z.2.2.1 ≤ q) := by
  refine Met.ofW (cc := cX4_doubleBits) (maxL := 8) (ret := (some .long)) (by decide +kernel) rfl ?_
  intro p e s m args below meth c s₁ B hml hv0
  obtain ⟨rfl, hk, hw⟩ := hv0
  have X : CallFix p m c cX4_doubleBits 8 s _ (wq yX4_doubleBits cX4_doubleBits 8 (some .long)) RX4 := ⟨B.exec, B.bytes, hml, findClass_of_methodNamed B.named, atoms_spec (ws := (wq yX4_doubleBits cX4_doubleBits 8 (some .long))) B.pre⟩
  have hr := B.returns
  have hlocks := B.notSynchronized
  have hl : xl Z [] := fun _ h => by cases h
  have hNN : S.2.2.2.2 = S.2.2.2.2 := rfl
  have hv := lv_entry [.int (x1)] (n := 8) (Nat.le_of_ble_eq_true rfl)
  rw [lg_entry_eq]
  generalize (lg_sl [.int (x1)] ++ List.replicate (8 - (lg_sl [.int (x1)]).length) Slot.unset).toArray = ls at hv ⊢
  replace hv : lv_has ls 8 [(0, .int (x1))] := hv
  unfold v_X4_doubleBits at h
  refine lv_iload_n X.1 X.2.1 dX4_doubleBits_0 rfl (lv_at hv 0 rfl) ?_
  refine lv_if_ne (tgt := 6) X.1 X.2.1 dX4_doubleBits_1 (by decide) (fun c_1 => ?_) (fun c_1 => ?_)
  · skip
    replace h := h.1 c_1
    refine lv_iload_n X.1 X.2.1 dX4_doubleBits_6 rfl (lv_at hv 0 rfl) ?_
    refine lv_i2l (v := (x1).toInt64) X.1 X.2.1 dX4_doubleBits_7 rfl ?_
    refine xc_l (xr_S (n := 1) X hk hw hv.1 (c_J9_abs_067f4 l Z et S ((x1).toInt64) _ h) (tb_S tw_399 tw_397 tw_398 tw_46) rfl rfl (by decide +kernel) ⟨Nat.le_of_ble_eq_true rfl, Nat.le_of_ble_eq_true rfl⟩ rfl (Nat.le_of_ble_eq_true rfl) dX4_doubleBits_8 ⟨Nat.le_of_ble_eq_true rfl, Nat.le_of_ble_eq_true rfl⟩) hl (fun r_3 S_2 H locs h hN hw hl => ?_)
    replace hNN := hN.trans hNN
    refine lv_lstore_n (lv' := [(1, .long (r_3)), (0, .int (x1))]) X.1 X.2.1 dX4_doubleBits_11 rfl hv (by decide) rfl (fun ls hv => ?_)
    refine lv_lload_n X.1 X.2.1 dX4_doubleBits_12 rfl (lv_at hv 0 rfl) ?_
    refine xc_i (xr_S (n := 1) X hk hw hv.1 (c_X4_topBit l Z et S_2 (r_3) _ h) (tb_S tw_402 tw_400 tw_401 tw_51) rfl rfl (by decide +kernel) ⟨Nat.le_of_ble_eq_true rfl, Nat.le_of_ble_eq_true rfl⟩ rfl (Nat.le_of_ble_eq_true rfl) dX4_doubleBits_13 ⟨Nat.le_of_ble_eq_true rfl, Nat.le_of_ble_eq_true rfl⟩) hl (fun r_5 S_4 H locs h hN hw hl => ?_)
    replace hNN := hN.trans hNN
    refine lv_istore_n (lv' := [(3, .int (r_5)), (1, .long (r_3)), (0, .int (x1))]) X.1 X.2.1 dX4_doubleBits_16 rfl hv (by decide) rfl (fun ls hv => ?_)
    refine lv_lload_n X.1 X.2.1 dX4_doubleBits_17 rfl (lv_at hv 1 rfl) ?_
    refine lv_bipush (v := 52) X.1 X.2.1 dX4_doubleBits_18 (by decide) ?_
    refine lv_iload_n X.1 X.2.1 dX4_doubleBits_20 rfl (lv_at hv 0 rfl) ?_
    refine lv_isub X.1 X.2.1 dX4_doubleBits_21 ?_
    refine lv_lshl (v := (r_3 <<< ((52 - r_5).toInt64 &&& 63))) X.1 X.2.1 dX4_doubleBits_22 rfl ?_
    refine lv_lstore (lv' := [(4, .long ((r_3 <<< ((52 - r_5).toInt64 &&& 63)))), (3, .int (r_5)), (1, .long (r_3)), (0, .int (x1))]) X.1 X.2.1 dX4_doubleBits_23 hv (by decide) rfl (fun ls hv => ?_)
    refine lv_iload_n X.1 X.2.1 dX4_doubleBits_25 rfl (lv_at hv 1 rfl) ?_
    refine lv_i2l (v := (r_5).toInt64) X.1 X.2.1 dX4_doubleBits_26 rfl ?_
    refine lv_ldc2 X.1 X.2.1 X.2.2.2.1 (X.2.2.2.2 _ (List.mem_cons_of_mem _ tw_411)) dX4_doubleBits_27 ?_
    refine lv_ladd X.1 X.2.1 dX4_doubleBits_30 ?_
    refine lv_bipush (v := 52) X.1 X.2.1 dX4_doubleBits_31 (by decide) ?_
    refine lv_lshl (v := (((r_5).toInt64 + 1023) <<< ((52 : Int32).toInt64 &&& 63))) X.1 X.2.1 dX4_doubleBits_33 rfl ?_
    refine lv_lload X.1 X.2.1 dX4_doubleBits_34 (lv_at hv 0 rfl) ?_
    refine lv_ladd X.1 X.2.1 dX4_doubleBits_36 ?_
    refine lv_ldc2 X.1 X.2.1 X.2.2.2.1 (X.2.2.2.2 _ (List.mem_cons_of_mem _ tw_412)) dX4_doubleBits_37 ?_
    refine lv_lsub X.1 X.2.1 dX4_doubleBits_40 ?_
    refine lv_lstore (lv' := [(6, .long ((((((r_5).toInt64 + 1023) <<< ((52 : Int32).toInt64 &&& 63)) + (r_3 <<< ((52 - r_5).toInt64 &&& 63))) - 4503599627370496))), (4, .long ((r_3 <<< ((52 - r_5).toInt64 &&& 63)))), (3, .int (r_5)), (1, .long (r_3)), (0, .int (x1))]) X.1 X.2.1 dX4_doubleBits_41 hv (by decide) rfl (fun ls hv => ?_)
    refine lv_iload_n X.1 X.2.1 dX4_doubleBits_43 rfl (lv_at hv 4 rfl) ?_
    refine lv_if_ge (tgt := 56) X.1 X.2.1 dX4_doubleBits_44 (by decide) (fun c_6 => ?_) (fun c_6 => ?_)
    · skip
      replace h := h.1 c_6
      refine lv_lload X.1 X.2.1 dX4_doubleBits_56 (lv_at hv 0 rfl) ?_
      exact xt_l X hr hlocks hNN hw hl h dX4_doubleBits_58
    · skip
      replace h := h.2 c_6
      refine lv_lload X.1 X.2.1 dX4_doubleBits_47 (lv_at hv 0 rfl) ?_
      refine lv_ldc2 X.1 X.2.1 X.2.2.2.1 (X.2.2.2.2 _ (List.mem_cons_of_mem _ tw_413)) dX4_doubleBits_49 ?_
      refine lv_lor X.1 X.2.1 dX4_doubleBits_52 ?_
      refine lv_goto (tgt := 58) X.1 X.2.1 dX4_doubleBits_53 (by decide) ?_
      exact xt_l X hr hlocks hNN hw hl h dX4_doubleBits_58
  · skip
    replace h := h.2 c_1
    refine lv_lconst (v := 0) X.1 X.2.1 dX4_doubleBits_4 rfl ?_
    exact xt_l X hr hlocks hNN hw hl h dX4_doubleBits_5
def v_X4_shiftedToNearest_47 (K : Int64 → xs_T → Prop) (a3 : Int64) (t0 : Int32) (S : xs_T) : Prop := ((t0 = 0 → K (a3) S) ∧ (¬ t0 = 0 → K ((a3 + 1)) S))
def v_X4_shiftedToNearest_46 (K : Int64 → xs_T → Prop) (a3 : Int64) (S : xs_T) : Prop := v_X4_shiftedToNearest_47 K (a3) (0) S
def v_X4_shiftedToNearest_42 (K : Int64 → xs_T → Prop) (a3 : Int64) (S : xs_T) : Prop := v_X4_shiftedToNearest_47 K (a3) (1) S
def v_X4_shiftedToNearest (x1 : Int64) (x2 : Int32) (S : xs_T) (K : Int64 → xs_T → Prop) : Prop := ((((1 : Int64) <<< ((x2 - 1).toInt64 &&& 63)) < (x1 - ((x1 >>> (x2.toInt64 &&& 63)) <<< (x2.toInt64 &&& 63))) → v_X4_shiftedToNearest_42 K ((x1 >>> (x2.toInt64 &&& 63))) S) ∧ (¬ ((1 : Int64) <<< ((x2 - 1).toInt64 &&& 63)) < (x1 - ((x1 >>> (x2.toInt64 &&& 63)) <<< (x2.toInt64 &&& 63))) → ((¬ (x1 - ((x1 >>> (x2.toInt64 &&& 63)) <<< (x2.toInt64 &&& 63))) = ((1 : Int64) <<< ((x2 - 1).toInt64 &&& 63)) → v_X4_shiftedToNearest_46 K ((x1 >>> (x2.toInt64 &&& 63))) S) ∧ ((x1 - ((x1 >>> (x2.toInt64 &&& 63)) <<< (x2.toInt64 &&& 63))) = ((1 : Int64) <<< ((x2 - 1).toInt64 &&& 63)) → ((¬ ((x1 >>> (x2.toInt64 &&& 63)) &&& 1) = 1 → v_X4_shiftedToNearest_46 K ((x1 >>> (x2.toInt64 &&& 63))) S) ∧ (((x1 >>> (x2.toInt64 &&& 63)) &&& 1) = 1 → v_X4_shiftedToNearest_42 K ((x1 >>> (x2.toInt64 &&& 63))) S))))))
set_option maxHeartbeats 4000000 in
set_option maxRecDepth 100000 in
theorem j_X4_shiftedToNearest_47 {l : Launch} {p : Program} {e : Env} {s : State} {m : MethodId} {args : Array Value} {below : List Frame} {meth : Method} {c : Code} {Z : xz_T} {et : Nat → Nat} {Nn : Nat → Nat} {K : Int64 → xs_T → Prop} (X : CallFix p m c cX4_shiftedToNearest 10 s args (wq yX4_shiftedToNearest cX4_shiftedToNearest 10 (some .long)) RX4) (hk : xk Z s) (hr : meth.sig.returnType = (some .long)) (hlocks : meth.locks = false) : ∀ (a3 : Int64) (t0 : Int32) (S : xs_T) (H : Heap) (locs : List Loc) (ls : Array Slot), v_X4_shiftedToNearest_47 K a3 t0 S → S.2.2.2.2 = Nn → wd Z et S H → xl Z locs → lv_has ls 10 [(3, .long (a3))] → W p l e (headSpec (wq yX4_shiftedToNearest cX4_shiftedToNearest 10 (some .long)) { frames := 0, cells := 0, slots := 0, locals := 0 }).room s m args below meth c H locs 0 0 (MQ below (xQl Z et Nn K) args s 0 0 (fun q => Z.2.2.1 ≤ q)) (F0 m 47 ls [.int (t0)]) := by
  intro a3 t0 S H locs ls h hNN hw hl hv
  unfold v_X4_shiftedToNearest_47 at h
  refine lv_istore (lv' := [(9, .int (t0)), (3, .long (a3))]) X.1 X.2.1 dX4_shiftedToNearest_47 hv (by decide) rfl (fun ls hv => ?_)
  refine lv_iload X.1 X.2.1 dX4_shiftedToNearest_49 (lv_at hv 0 rfl) ?_
  refine lv_if_eq (tgt := 60) X.1 X.2.1 dX4_shiftedToNearest_51 (by decide) (fun c_4 => ?_) (fun c_4 => ?_)
  · skip
    replace h := h.1 c_4
    refine lv_lload_n X.1 X.2.1 dX4_shiftedToNearest_60 rfl (lv_at hv 1 rfl) ?_
    exact xt_l X hr hlocks hNN hw hl h dX4_shiftedToNearest_61
  · skip
    replace h := h.2 c_4
    refine lv_lload_n X.1 X.2.1 dX4_shiftedToNearest_54 rfl (lv_at hv 1 rfl) ?_
    refine lv_lconst (v := 1) X.1 X.2.1 dX4_shiftedToNearest_55 rfl ?_
    refine lv_ladd X.1 X.2.1 dX4_shiftedToNearest_56 ?_
    refine lv_goto (tgt := 61) X.1 X.2.1 dX4_shiftedToNearest_57 (by decide) ?_
    exact xt_l X hr hlocks hNN hw hl h dX4_shiftedToNearest_61
set_option maxHeartbeats 4000000 in
set_option maxRecDepth 100000 in
theorem j_X4_shiftedToNearest_46 {l : Launch} {p : Program} {e : Env} {s : State} {m : MethodId} {args : Array Value} {below : List Frame} {meth : Method} {c : Code} {Z : xz_T} {et : Nat → Nat} {Nn : Nat → Nat} {K : Int64 → xs_T → Prop} (X : CallFix p m c cX4_shiftedToNearest 10 s args (wq yX4_shiftedToNearest cX4_shiftedToNearest 10 (some .long)) RX4) (hk : xk Z s) (hr : meth.sig.returnType = (some .long)) (hlocks : meth.locks = false) : ∀ (a3 : Int64) (S : xs_T) (H : Heap) (locs : List Loc) (ls : Array Slot), v_X4_shiftedToNearest_46 K a3 S → S.2.2.2.2 = Nn → wd Z et S H → xl Z locs → lv_has ls 10 [(3, .long (a3))] → W p l e (headSpec (wq yX4_shiftedToNearest cX4_shiftedToNearest 10 (some .long)) { frames := 0, cells := 0, slots := 0, locals := 0 }).room s m args below meth c H locs 0 0 (MQ below (xQl Z et Nn K) args s 0 0 (fun q => Z.2.2.1 ≤ q)) (F0 m 46 ls []) := by
  intro a3 S H locs ls h hNN hw hl hv
  unfold v_X4_shiftedToNearest_46 at h
  refine lv_iconst (v := 0) X.1 X.2.1 dX4_shiftedToNearest_46 (by decide) ?_
  exact j_X4_shiftedToNearest_47 X hk hr hlocks (a3) (0) S _ _ _ h hNN hw hl (lv_sub hv [0] rfl)
set_option maxHeartbeats 4000000 in
set_option maxRecDepth 100000 in
theorem j_X4_shiftedToNearest_42 {l : Launch} {p : Program} {e : Env} {s : State} {m : MethodId} {args : Array Value} {below : List Frame} {meth : Method} {c : Code} {Z : xz_T} {et : Nat → Nat} {Nn : Nat → Nat} {K : Int64 → xs_T → Prop} (X : CallFix p m c cX4_shiftedToNearest 10 s args (wq yX4_shiftedToNearest cX4_shiftedToNearest 10 (some .long)) RX4) (hk : xk Z s) (hr : meth.sig.returnType = (some .long)) (hlocks : meth.locks = false) : ∀ (a3 : Int64) (S : xs_T) (H : Heap) (locs : List Loc) (ls : Array Slot), v_X4_shiftedToNearest_42 K a3 S → S.2.2.2.2 = Nn → wd Z et S H → xl Z locs → lv_has ls 10 [(3, .long (a3))] → W p l e (headSpec (wq yX4_shiftedToNearest cX4_shiftedToNearest 10 (some .long)) { frames := 0, cells := 0, slots := 0, locals := 0 }).room s m args below meth c H locs 0 0 (MQ below (xQl Z et Nn K) args s 0 0 (fun q => Z.2.2.1 ≤ q)) (F0 m 42 ls []) := by
  intro a3 S H locs ls h hNN hw hl hv
  unfold v_X4_shiftedToNearest_42 at h
  refine lv_iconst (v := 1) X.1 X.2.1 dX4_shiftedToNearest_42 (by decide) ?_
  refine lv_goto (tgt := 47) X.1 X.2.1 dX4_shiftedToNearest_43 (by decide) ?_
  exact j_X4_shiftedToNearest_47 X hk hr hlocks (a3) (1) S _ _ _ h hNN hw hl (lv_sub hv [0] rfl)
set_option maxHeartbeats 4000000 in
set_option maxRecDepth 100000 in
theorem c_X4_shiftedToNearest (l : Launch) (Z : xz_T) (et : Nat → Nat) (S : xs_T) (x1 : Int64) (x2 : Int32) (K : Int64 → xs_T → Prop) (h : v_X4_shiftedToNearest x1 x2 S K) : Met l yX4_shiftedToNearest (wq yX4_shiftedToNearest cX4_shiftedToNearest 10 (some .long)) { frames := 0, cells := 0, slots := 0, locals := 0 } (xPc Z et S [.long (x1), .int (x2)]) (xQl Z et S.2.2.2.2 K) 0 0 (fun q => Z.2.2.1 ≤ q) := by
  refine Met.ofW (cc := cX4_shiftedToNearest) (maxL := 10) (ret := (some .long)) (by decide +kernel) rfl ?_
  intro p e s m args below meth c s₁ B hml hv0
  obtain ⟨rfl, hk, hw⟩ := hv0
  have X : CallFix p m c cX4_shiftedToNearest 10 s _ (wq yX4_shiftedToNearest cX4_shiftedToNearest 10 (some .long)) RX4 := ⟨B.exec, B.bytes, hml, findClass_of_methodNamed B.named, atoms_spec (ws := (wq yX4_shiftedToNearest cX4_shiftedToNearest 10 (some .long))) B.pre⟩
  have hr := B.returns
  have hlocks := B.notSynchronized
  have hl : xl Z [] := fun _ h => by cases h
  have hNN : S.2.2.2.2 = S.2.2.2.2 := rfl
  have hv := lv_entry [.long (x1), .int (x2)] (n := 10) (Nat.le_of_ble_eq_true rfl)
  rw [lg_entry_eq]
  generalize (lg_sl [.long (x1), .int (x2)] ++ List.replicate (10 - (lg_sl [.long (x1), .int (x2)]).length) Slot.unset).toArray = ls at hv ⊢
  replace hv : lv_has ls 10 [(0, .long (x1)), (2, .int (x2))] := hv
  unfold v_X4_shiftedToNearest at h
  refine lv_lload_n X.1 X.2.1 dX4_shiftedToNearest_0 rfl (lv_at hv 0 rfl) ?_
  refine lv_iload_n X.1 X.2.1 dX4_shiftedToNearest_1 rfl (lv_at hv 1 rfl) ?_
  refine lv_lshr (v := (x1 >>> (x2.toInt64 &&& 63))) X.1 X.2.1 dX4_shiftedToNearest_2 rfl ?_
  refine lv_lstore_n (lv' := [(3, .long ((x1 >>> (x2.toInt64 &&& 63)))), (0, .long (x1)), (2, .int (x2))]) X.1 X.2.1 dX4_shiftedToNearest_3 rfl hv (by decide) rfl (fun ls hv => ?_)
  refine lv_lload_n X.1 X.2.1 dX4_shiftedToNearest_4 rfl (lv_at hv 1 rfl) ?_
  refine lv_lload_n X.1 X.2.1 dX4_shiftedToNearest_5 rfl (lv_at hv 0 rfl) ?_
  refine lv_iload_n X.1 X.2.1 dX4_shiftedToNearest_6 rfl (lv_at hv 2 rfl) ?_
  refine lv_lshl (v := ((x1 >>> (x2.toInt64 &&& 63)) <<< (x2.toInt64 &&& 63))) X.1 X.2.1 dX4_shiftedToNearest_7 rfl ?_
  refine lv_lsub X.1 X.2.1 dX4_shiftedToNearest_8 ?_
  refine lv_lstore (lv' := [(5, .long ((x1 - ((x1 >>> (x2.toInt64 &&& 63)) <<< (x2.toInt64 &&& 63))))), (3, .long ((x1 >>> (x2.toInt64 &&& 63)))), (0, .long (x1)), (2, .int (x2))]) X.1 X.2.1 dX4_shiftedToNearest_9 hv (by decide) rfl (fun ls hv => ?_)
  refine lv_lconst (v := 1) X.1 X.2.1 dX4_shiftedToNearest_11 rfl ?_
  refine lv_iload_n X.1 X.2.1 dX4_shiftedToNearest_12 rfl (lv_at hv 3 rfl) ?_
  refine lv_iconst (v := 1) X.1 X.2.1 dX4_shiftedToNearest_13 (by decide) ?_
  refine lv_isub X.1 X.2.1 dX4_shiftedToNearest_14 ?_
  refine lv_lshl (v := ((1 : Int64) <<< ((x2 - 1).toInt64 &&& 63))) X.1 X.2.1 dX4_shiftedToNearest_15 rfl ?_
  refine lv_lstore (lv' := [(7, .long (((1 : Int64) <<< ((x2 - 1).toInt64 &&& 63)))), (5, .long ((x1 - ((x1 >>> (x2.toInt64 &&& 63)) <<< (x2.toInt64 &&& 63))))), (3, .long ((x1 >>> (x2.toInt64 &&& 63)))), (0, .long (x1)), (2, .int (x2))]) X.1 X.2.1 dX4_shiftedToNearest_16 hv (by decide) rfl (fun ls hv => ?_)
  refine lv_lload X.1 X.2.1 dX4_shiftedToNearest_18 (lv_at hv 1 rfl) ?_
  refine lv_lload X.1 X.2.1 dX4_shiftedToNearest_20 (lv_at hv 0 rfl) ?_
  refine W.lcmp X.1 X.2.1 dX4_shiftedToNearest_22 ?_
  refine lv_if_gt (tgt := 42) X.1 X.2.1 dX4_shiftedToNearest_23 (by decide) (fun c_1 => ?_) (fun c_1 => ?_)
  · skip
    replace c_1 := (lg_cmp_gt _ _).mp c_1
    replace h := h.1 c_1
    exact j_X4_shiftedToNearest_42 X hk hr hlocks ((x1 >>> (x2.toInt64 &&& 63))) S _ _ _ h hNN hw hl (lv_sub hv [2] rfl)
  · skip
    replace c_1 := fun q => c_1 ((lg_cmp_gt _ _).mpr q)
    replace h := h.2 c_1
    refine lv_lload X.1 X.2.1 dX4_shiftedToNearest_26 (lv_at hv 1 rfl) ?_
    refine lv_lload X.1 X.2.1 dX4_shiftedToNearest_28 (lv_at hv 0 rfl) ?_
    refine W.lcmp X.1 X.2.1 dX4_shiftedToNearest_30 ?_
    refine lv_if_ne (tgt := 46) X.1 X.2.1 dX4_shiftedToNearest_31 (by decide) (fun c_2 => ?_) (fun c_2 => ?_)
    · skip
      replace c_2 := fun q => c_2 ((lg_cmp_eq _ _).mpr q)
      replace h := h.1 c_2
      exact j_X4_shiftedToNearest_46 X hk hr hlocks ((x1 >>> (x2.toInt64 &&& 63))) S _ _ _ h hNN hw hl (lv_sub hv [2] rfl)
    · skip
      replace c_2 := (lg_cmp_eq _ _).mp c_2
      replace h := h.2 c_2
      refine lv_lload_n X.1 X.2.1 dX4_shiftedToNearest_34 rfl (lv_at hv 2 rfl) ?_
      refine lv_lconst (v := 1) X.1 X.2.1 dX4_shiftedToNearest_35 rfl ?_
      refine lv_land X.1 X.2.1 dX4_shiftedToNearest_36 ?_
      refine lv_lconst (v := 1) X.1 X.2.1 dX4_shiftedToNearest_37 rfl ?_
      refine W.lcmp X.1 X.2.1 dX4_shiftedToNearest_38 ?_
      refine lv_if_ne (tgt := 46) X.1 X.2.1 dX4_shiftedToNearest_39 (by decide) (fun c_3 => ?_) (fun c_3 => ?_)
      · skip
        replace c_3 := fun q => c_3 ((lg_cmp_eq _ _).mpr q)
        replace h := h.1 c_3
        exact j_X4_shiftedToNearest_46 X hk hr hlocks ((x1 >>> (x2.toInt64 &&& 63))) S _ _ _ h hNN hw hl (lv_sub hv [2] rfl)
      · skip
        replace c_3 := (lg_cmp_eq _ _).mp c_3
        replace h := h.2 c_3
        exact j_X4_shiftedToNearest_42 X hk hr hlocks ((x1 >>> (x2.toInt64 &&& 63))) S _ _ _ h hNN hw hl (lv_sub hv [2] rfl)
def v_X4_floatBits_40 (K : Int32 → xs_T → Prop) (a0 : Int32) (a3 : Int32) (t0 : Int64) (S : xs_T) : Prop := ((0 ≤ a0 → K (((((((a3 + 127)).toInt64 <<< ((23 : Int32).toInt64 &&& 63)) + t0) - 8388608)).toInt32) S) ∧ (¬ 0 ≤ a0 → K ((((((((a3 + 127)).toInt64 <<< ((23 : Int32).toInt64 &&& 63)) + t0) - 8388608) ||| 2147483648)).toInt32) S))
def v_X4_floatBits (x1 : Int32) (S : xs_T) (K : Int32 → xs_T → Prop) : Prop := ((¬ x1 = 0 → v_J9_abs_067f4 ((x1).toInt64) S (fun (r_3 : Int64) (S_2 : xs_T) => v_X4_topBit (r_3) S_2 (fun (r_5 : Int32) (S_4 : xs_T) => ((23 < r_5 → v_X4_shiftedToNearest (r_3) ((r_5 - 23)) S_4 (fun (r_8 : Int64) (S_7 : xs_T) => v_X4_floatBits_40 K (x1) (r_5) (r_8) S_7)) ∧ (¬ 23 < r_5 → v_X4_floatBits_40 K (x1) (r_5) ((r_3 <<< ((23 - r_5).toInt64 &&& 63))) S_4))))) ∧ (x1 = 0 → K (0) S))
set_option maxHeartbeats 4000000 in
set_option maxRecDepth 100000 in
theorem j_X4_floatBits_40 {l : Launch} {p : Program} {e : Env} {s : State} {m : MethodId} {args : Array Value} {below : List Frame} {meth : Method} {c : Code} {Z : xz_T} {et : Nat → Nat} {Nn : Nat → Nat} {K : Int32 → xs_T → Prop} (X : CallFix p m c cX4_floatBits 8 s args (wq yX4_floatBits cX4_floatBits 8 (some .int)) RX4) (hk : xk Z s) (hr : meth.sig.returnType = (some .int)) (hlocks : meth.locks = false) : ∀ (a0 : Int32) (a3 : Int32) (t0 : Int64) (S : xs_T) (H : Heap) (locs : List Loc) (ls : Array Slot), v_X4_floatBits_40 K a0 a3 t0 S → S.2.2.2.2 = Nn → wd Z et S H → xl Z locs → lv_has ls 8 [(0, .int (a0)), (3, .int (a3))] → W p l e (headSpec (wq yX4_floatBits cX4_floatBits 8 (some .int)) { frames := 1, cells := 0, slots := 0, locals := 29 }).room s m args below meth c H locs 0 0 (MQ below (xQi Z et Nn K) args s 0 0 (fun q => Z.2.2.1 ≤ q)) (F0 m 40 ls [.long (t0)]) := by
  intro a0 a3 t0 S H locs ls h hNN hw hl hv
  unfold v_X4_floatBits_40 at h
  refine lv_lstore (lv' := [(4, .long (t0)), (0, .int (a0)), (3, .int (a3))]) X.1 X.2.1 dX4_floatBits_40 hv (by decide) rfl (fun ls hv => ?_)
  refine lv_iload_n X.1 X.2.1 dX4_floatBits_42 rfl (lv_at hv 2 rfl) ?_
  refine lv_bipush (v := 127) X.1 X.2.1 dX4_floatBits_43 (by decide) ?_
  refine lv_iadd X.1 X.2.1 dX4_floatBits_45 ?_
  refine lv_i2l (v := ((a3 + 127)).toInt64) X.1 X.2.1 dX4_floatBits_46 rfl ?_
  refine lv_bipush (v := 23) X.1 X.2.1 dX4_floatBits_47 (by decide) ?_
  refine lv_lshl (v := (((a3 + 127)).toInt64 <<< ((23 : Int32).toInt64 &&& 63))) X.1 X.2.1 dX4_floatBits_49 rfl ?_
  refine lv_lload X.1 X.2.1 dX4_floatBits_50 (lv_at hv 0 rfl) ?_
  refine lv_ladd X.1 X.2.1 dX4_floatBits_52 ?_
  refine lv_ldc2 X.1 X.2.1 X.2.2.2.1 (X.2.2.2.2 _ (List.mem_cons_of_mem _ tw_406)) dX4_floatBits_53 ?_
  refine lv_lsub X.1 X.2.1 dX4_floatBits_56 ?_
  refine lv_lstore (lv' := [(6, .long ((((((a3 + 127)).toInt64 <<< ((23 : Int32).toInt64 &&& 63)) + t0) - 8388608))), (4, .long (t0)), (0, .int (a0)), (3, .int (a3))]) X.1 X.2.1 dX4_floatBits_57 hv (by decide) rfl (fun ls hv => ?_)
  refine lv_iload_n X.1 X.2.1 dX4_floatBits_59 rfl (lv_at hv 2 rfl) ?_
  refine lv_if_ge (tgt := 72) X.1 X.2.1 dX4_floatBits_60 (by decide) (fun c_9 => ?_) (fun c_9 => ?_)
  · skip
    replace h := h.1 c_9
    refine lv_lload X.1 X.2.1 dX4_floatBits_72 (lv_at hv 0 rfl) ?_
    refine lv_l2i (v := ((((((a3 + 127)).toInt64 <<< ((23 : Int32).toInt64 &&& 63)) + t0) - 8388608)).toInt32) X.1 X.2.1 dX4_floatBits_74 rfl ?_
    exact xt_i X hr hlocks hNN hw hl h dX4_floatBits_75
  · skip
    replace h := h.2 c_9
    refine lv_lload X.1 X.2.1 dX4_floatBits_63 (lv_at hv 0 rfl) ?_
    refine lv_ldc2 X.1 X.2.1 X.2.2.2.1 (X.2.2.2.2 _ (List.mem_cons_of_mem _ tw_407)) dX4_floatBits_65 ?_
    refine lv_lor X.1 X.2.1 dX4_floatBits_68 ?_
    refine lv_goto (tgt := 74) X.1 X.2.1 dX4_floatBits_69 (by decide) ?_
    refine lv_l2i (v := (((((((a3 + 127)).toInt64 <<< ((23 : Int32).toInt64 &&& 63)) + t0) - 8388608) ||| 2147483648)).toInt32) X.1 X.2.1 dX4_floatBits_74 rfl ?_
    exact xt_i X hr hlocks hNN hw hl h dX4_floatBits_75
set_option maxHeartbeats 4000000 in
set_option maxRecDepth 100000 in
theorem c_X4_floatBits (l : Launch) (Z : xz_T) (et : Nat → Nat) (S : xs_T) (x1 : Int32) (K : Int32 → xs_T → Prop) (h : v_X4_floatBits x1 S K) : Met l yX4_floatBits (wq yX4_floatBits cX4_floatBits 8 (some .int)) { frames := 1, cells := 0, slots := 0, locals := 29 } (xPc Z et S [.int (x1)]) (xQi Z et S.2.2.2.2 K) 0 0 (fun q => Z.2.2.1 ≤ q) := by
  refine Met.ofW (cc := cX4_floatBits) (maxL := 8) (ret := (some .int)) (by decide +kernel) rfl ?_
  intro p e s m args below meth c s₁ B hml hv0
  obtain ⟨rfl, hk, hw⟩ := hv0
  have X : CallFix p m c cX4_floatBits 8 s _ (wq yX4_floatBits cX4_floatBits 8 (some .int)) RX4 := ⟨B.exec, B.bytes, hml, findClass_of_methodNamed B.named, atoms_spec (ws := (wq yX4_floatBits cX4_floatBits 8 (some .int))) B.pre⟩
  have hr := B.returns
  have hlocks := B.notSynchronized
  have hl : xl Z [] := fun _ h => by cases h
  have hNN : S.2.2.2.2 = S.2.2.2.2 := rfl
  have hv := lv_entry [.int (x1)] (n := 8) (Nat.le_of_ble_eq_true rfl)
  rw [lg_entry_eq]
  generalize (lg_sl [.int (x1)] ++ List.replicate (8 - (lg_sl [.int (x1)]).length) Slot.unset).toArray = ls at hv ⊢
  replace hv : lv_has ls 8 [(0, .int (x1))] := hv
  unfold v_X4_floatBits at h
  refine lv_iload_n X.1 X.2.1 dX4_floatBits_0 rfl (lv_at hv 0 rfl) ?_
  refine lv_if_ne (tgt := 6) X.1 X.2.1 dX4_floatBits_1 (by decide) (fun c_1 => ?_) (fun c_1 => ?_)
  · skip
    replace h := h.1 c_1
    refine lv_iload_n X.1 X.2.1 dX4_floatBits_6 rfl (lv_at hv 0 rfl) ?_
    refine lv_i2l (v := (x1).toInt64) X.1 X.2.1 dX4_floatBits_7 rfl ?_
    refine xc_l (xr_S (n := 1) X hk hw hv.1 (c_J9_abs_067f4 l Z et S ((x1).toInt64) _ h) (tb_S tw_399 tw_397 tw_398 tw_46) rfl rfl (by decide +kernel) ⟨Nat.le_of_ble_eq_true rfl, Nat.le_of_ble_eq_true rfl⟩ rfl (Nat.le_of_ble_eq_true rfl) dX4_floatBits_8 ⟨Nat.le_of_ble_eq_true rfl, Nat.le_of_ble_eq_true rfl⟩) hl (fun r_3 S_2 H locs h hN hw hl => ?_)
    replace hNN := hN.trans hNN
    refine lv_lstore_n (lv' := [(1, .long (r_3)), (0, .int (x1))]) X.1 X.2.1 dX4_floatBits_11 rfl hv (by decide) rfl (fun ls hv => ?_)
    refine lv_lload_n X.1 X.2.1 dX4_floatBits_12 rfl (lv_at hv 0 rfl) ?_
    refine xc_i (xr_S (n := 1) X hk hw hv.1 (c_X4_topBit l Z et S_2 (r_3) _ h) (tb_S tw_402 tw_400 tw_401 tw_51) rfl rfl (by decide +kernel) ⟨Nat.le_of_ble_eq_true rfl, Nat.le_of_ble_eq_true rfl⟩ rfl (Nat.le_of_ble_eq_true rfl) dX4_floatBits_13 ⟨Nat.le_of_ble_eq_true rfl, Nat.le_of_ble_eq_true rfl⟩) hl (fun r_5 S_4 H locs h hN hw hl => ?_)
    replace hNN := hN.trans hNN
    refine lv_istore_n (lv' := [(3, .int (r_5)), (1, .long (r_3)), (0, .int (x1))]) X.1 X.2.1 dX4_floatBits_16 rfl hv (by decide) rfl (fun ls hv => ?_)
    refine lv_iload_n X.1 X.2.1 dX4_floatBits_17 rfl (lv_at hv 0 rfl) ?_
    refine lv_bipush (v := 23) X.1 X.2.1 dX4_floatBits_18 (by decide) ?_
    refine lv_icmp_gt (tgt := 32) X.1 X.2.1 dX4_floatBits_20 (by decide) (fun c_6 => ?_) (fun c_6 => ?_)
    · skip
      replace h := h.1 c_6
      refine lv_lload_n X.1 X.2.1 dX4_floatBits_32 rfl (lv_at hv 1 rfl) ?_
      refine lv_iload_n X.1 X.2.1 dX4_floatBits_33 rfl (lv_at hv 0 rfl) ?_
      refine lv_bipush (v := 23) X.1 X.2.1 dX4_floatBits_34 (by decide) ?_
      refine lv_isub X.1 X.2.1 dX4_floatBits_36 ?_
      refine xc_l (xr_S (n := 2) X hk hw hv.1 (c_X4_shiftedToNearest l Z et S_4 (r_3) ((r_5 - 23)) _ h) (tb_S tw_405 tw_403 tw_404 tw_51) rfl rfl (by decide +kernel) ⟨Nat.le_of_ble_eq_true rfl, Nat.le_of_ble_eq_true rfl⟩ rfl (Nat.le_of_ble_eq_true rfl) dX4_floatBits_37 ⟨Nat.le_of_ble_eq_true rfl, Nat.le_of_ble_eq_true rfl⟩) hl (fun r_8 S_7 H locs h hN hw hl => ?_)
      replace hNN := hN.trans hNN
      exact j_X4_floatBits_40 X hk hr hlocks (x1) (r_5) (r_8) S_7 _ _ _ h hNN hw hl (lv_sub hv [2, 0] rfl)
    · skip
      replace h := h.2 c_6
      refine lv_lload_n X.1 X.2.1 dX4_floatBits_23 rfl (lv_at hv 1 rfl) ?_
      refine lv_bipush (v := 23) X.1 X.2.1 dX4_floatBits_24 (by decide) ?_
      refine lv_iload_n X.1 X.2.1 dX4_floatBits_26 rfl (lv_at hv 0 rfl) ?_
      refine lv_isub X.1 X.2.1 dX4_floatBits_27 ?_
      refine lv_lshl (v := (r_3 <<< ((23 - r_5).toInt64 &&& 63))) X.1 X.2.1 dX4_floatBits_28 rfl ?_
      refine lv_goto (tgt := 40) X.1 X.2.1 dX4_floatBits_29 (by decide) ?_
      exact j_X4_floatBits_40 X hk hr hlocks (x1) (r_5) ((r_3 <<< ((23 - r_5).toInt64 &&& 63))) S_4 _ _ _ h hNN hw hl (lv_sub hv [2, 0] rfl)
  · skip
    replace h := h.2 c_1
    refine lv_iconst (v := 0) X.1 X.2.1 dX4_floatBits_4 (by decide) ?_
    exact xt_i X hr hlocks hNN hw hl h dX4_floatBits_5
def v_X4_cutToKind (x1 : Int32) (x2 : Int32) (S : xs_T) (K : Int64 → xs_T → Prop) : Prop := (((x1 = 0) → ((x2 = 0 → K (0) S) ∧ (¬ x2 = 0 → K (1) S))) ∧ ((x1 = 1) → K (((x2).toInt8.toInt32).toInt64) S) ∧ ((x1 = 2) → K ((((x2).toUInt32 % 65536).toInt32).toInt64) S) ∧ ((x1 = 3) → K (((x2).toInt16.toInt32).toInt64) S) ∧ ((x1 = 6) → v_X4_floatBits (x2) S (fun (r_3 : Int32) (S_2 : xs_T) => K ((r_3).toInt64) S_2)) ∧ ((x1 = 7) → v_X4_doubleBits (x2) S (fun (r_5 : Int64) (S_4 : xs_T) => K (r_5) S_4)) ∧ (¬ x1 = 0 → ¬ x1 = 1 → ¬ x1 = 2 → ¬ x1 = 3 → ¬ x1 = 6 → ¬ x1 = 7 → K ((x2).toInt64) S))
set_option maxHeartbeats 4000000 in
set_option maxRecDepth 100000 in
theorem c_X4_cutToKind (l : Launch) (Z : xz_T) (et : Nat → Nat) (S : xs_T) (x1 : Int32) (x2 : Int32) (K : Int64 → xs_T → Prop) (h : v_X4_cutToKind x1 x2 S K) : Met l yX4_cutToKind (wq yX4_cutToKind cX4_cutToKind 2 (some .long)) { frames := 2, cells := 0, slots := 0, locals := 56 } (xPc Z et S [.int (x1), .int (x2)]) (xQl Z et S.2.2.2.2 K) 0 0 (fun q => Z.2.2.1 ≤ q) := by
  refine Met.ofW (cc := cX4_cutToKind) (maxL := 2) (ret := (some .long)) (by decide +kernel) rfl ?_
  intro p e s m args below meth c s₁ B hml hv0
  obtain ⟨rfl, hk, hw⟩ := hv0
  have X : CallFix p m c cX4_cutToKind 2 s _ (wq yX4_cutToKind cX4_cutToKind 2 (some .long)) RX4 := ⟨B.exec, B.bytes, hml, findClass_of_methodNamed B.named, atoms_spec (ws := (wq yX4_cutToKind cX4_cutToKind 2 (some .long))) B.pre⟩
  have hr := B.returns
  have hlocks := B.notSynchronized
  have hl : xl Z [] := fun _ h => by cases h
  have hNN : S.2.2.2.2 = S.2.2.2.2 := rfl
  have hv := lv_entry [.int (x1), .int (x2)] (n := 2) (Nat.le_of_ble_eq_true rfl)
  rw [lg_entry_eq]
  generalize (lg_sl [.int (x1), .int (x2)] ++ List.replicate (2 - (lg_sl [.int (x1), .int (x2)]).length) Slot.unset).toArray = ls at hv ⊢
  replace hv : lv_has ls 2 [(0, .int (x1)), (1, .int (x2))] := hv
  unfold v_X4_cutToKind at h
  refine lv_iload_n X.1 X.2.1 dX4_cutToKind_0 rfl (lv_at hv 0 rfl) ?_
  have hsw := h
  by_cases k_0 : x1 = 0
  · have h := hsw.1 k_0
    refine lv_tableIn (off := 47) (tgt := 48) X.1 X.2.1 dX4_cutToKind_1 (by rw [k_0]; decide) (by rw [k_0]; decide) (by rw [k_0]; rfl) (by decide) ?_
    refine lv_iload_n X.1 X.2.1 dX4_cutToKind_48 rfl (lv_at hv 1 rfl) ?_
    refine lv_if_eq (tgt := 56) X.1 X.2.1 dX4_cutToKind_49 (by decide) (fun c_1 => ?_) (fun c_1 => ?_)
    · skip
      replace h := h.1 c_1
      refine lv_lconst (v := 0) X.1 X.2.1 dX4_cutToKind_56 rfl ?_
      exact xt_l X hr hlocks hNN hw hl h dX4_cutToKind_57
    · skip
      replace h := h.2 c_1
      refine lv_lconst (v := 1) X.1 X.2.1 dX4_cutToKind_52 rfl ?_
      refine lv_goto (tgt := 57) X.1 X.2.1 dX4_cutToKind_53 (by decide) ?_
      exact xt_l X hr hlocks hNN hw hl h dX4_cutToKind_57
  by_cases k_1 : x1 = 1
  · have h := hsw.2.1 k_1
    refine lv_tableIn (off := 57) (tgt := 58) X.1 X.2.1 dX4_cutToKind_1 (by rw [k_1]; decide) (by rw [k_1]; decide) (by rw [k_1]; rfl) (by decide) ?_
    refine lv_iload_n X.1 X.2.1 dX4_cutToKind_58 rfl (lv_at hv 1 rfl) ?_
    refine lv_i2b (v := (x2).toInt8.toInt32) X.1 X.2.1 dX4_cutToKind_59 rfl ?_
    refine lv_i2l (v := ((x2).toInt8.toInt32).toInt64) X.1 X.2.1 dX4_cutToKind_60 rfl ?_
    exact xt_l X hr hlocks hNN hw hl h dX4_cutToKind_61
  by_cases k_2 : x1 = 2
  · have h := hsw.2.2.1 k_2
    refine lv_tableIn (off := 61) (tgt := 62) X.1 X.2.1 dX4_cutToKind_1 (by rw [k_2]; decide) (by rw [k_2]; decide) (by rw [k_2]; rfl) (by decide) ?_
    refine lv_iload_n X.1 X.2.1 dX4_cutToKind_62 rfl (lv_at hv 1 rfl) ?_
    refine lv_i2c (v := ((x2).toUInt32 % 65536).toInt32) X.1 X.2.1 dX4_cutToKind_63 rfl ?_
    refine lv_i2l (v := (((x2).toUInt32 % 65536).toInt32).toInt64) X.1 X.2.1 dX4_cutToKind_64 rfl ?_
    exact xt_l X hr hlocks hNN hw hl h dX4_cutToKind_65
  by_cases k_3 : x1 = 3
  · have h := hsw.2.2.2.1 k_3
    refine lv_tableIn (off := 65) (tgt := 66) X.1 X.2.1 dX4_cutToKind_1 (by rw [k_3]; decide) (by rw [k_3]; decide) (by rw [k_3]; rfl) (by decide) ?_
    refine lv_iload_n X.1 X.2.1 dX4_cutToKind_66 rfl (lv_at hv 1 rfl) ?_
    refine lv_i2s (v := (x2).toInt16.toInt32) X.1 X.2.1 dX4_cutToKind_67 rfl ?_
    refine lv_i2l (v := ((x2).toInt16.toInt32).toInt64) X.1 X.2.1 dX4_cutToKind_68 rfl ?_
    exact xt_l X hr hlocks hNN hw hl h dX4_cutToKind_69
  by_cases k_6 : x1 = 6
  · have h := hsw.2.2.2.2.1 k_6
    refine lv_tableIn (off := 69) (tgt := 70) X.1 X.2.1 dX4_cutToKind_1 (by rw [k_6]; decide) (by rw [k_6]; decide) (by rw [k_6]; rfl) (by decide) ?_
    refine lv_iload_n X.1 X.2.1 dX4_cutToKind_70 rfl (lv_at hv 1 rfl) ?_
    refine xc_i (xr_S (n := 1) X hk hw hv.1 (c_X4_floatBits l Z et S (x2) _ h) (tb_S tw_396 tw_394 tw_395 tw_51) rfl rfl (by decide +kernel) ⟨Nat.le_of_ble_eq_true rfl, Nat.le_of_ble_eq_true rfl⟩ rfl (Nat.le_of_ble_eq_true rfl) dX4_cutToKind_71 ⟨Nat.le_of_ble_eq_true rfl, Nat.le_of_ble_eq_true rfl⟩) hl (fun r_3 S_2 H locs h hN hw hl => ?_)
    replace hNN := hN.trans hNN
    refine lv_i2l (v := (r_3).toInt64) X.1 X.2.1 dX4_cutToKind_74 rfl ?_
    exact xt_l X hr hlocks hNN hw hl h dX4_cutToKind_75
  by_cases k_7 : x1 = 7
  · have h := hsw.2.2.2.2.2.1 k_7
    refine lv_tableIn (off := 75) (tgt := 76) X.1 X.2.1 dX4_cutToKind_1 (by rw [k_7]; decide) (by rw [k_7]; decide) (by rw [k_7]; rfl) (by decide) ?_
    refine lv_iload_n X.1 X.2.1 dX4_cutToKind_76 rfl (lv_at hv 1 rfl) ?_
    refine xc_l (xr_S (n := 1) X hk hw hv.1 (c_X4_doubleBits l Z et S (x2) _ h) (tb_S tw_410 tw_408 tw_409 tw_51) rfl rfl (by decide +kernel) ⟨Nat.le_of_ble_eq_true rfl, Nat.le_of_ble_eq_true rfl⟩ rfl (Nat.le_of_ble_eq_true rfl) dX4_cutToKind_77 ⟨Nat.le_of_ble_eq_true rfl, Nat.le_of_ble_eq_true rfl⟩) hl (fun r_5 S_4 H locs h hN hw hl => ?_)
    replace hNN := hN.trans hNN
    exact xt_l X hr hlocks hNN hw hl h dX4_cutToKind_80
  by_cases k_4 : x1 = 4
  · have h := hsw.2.2.2.2.2.2 k_0 k_1 k_2 k_3 k_6 k_7
    refine lv_tableIn (off := 80) (tgt := 81) X.1 X.2.1 dX4_cutToKind_1 (by rw [k_4]; decide) (by rw [k_4]; decide) (by rw [k_4]; rfl) (by decide) ?_
    refine lv_iload_n X.1 X.2.1 dX4_cutToKind_81 rfl (lv_at hv 1 rfl) ?_
    refine lv_i2l (v := (x2).toInt64) X.1 X.2.1 dX4_cutToKind_82 rfl ?_
    exact xt_l X hr hlocks hNN hw hl h dX4_cutToKind_83
  by_cases k_5 : x1 = 5
  · have h := hsw.2.2.2.2.2.2 k_0 k_1 k_2 k_3 k_6 k_7
    refine lv_tableIn (off := 80) (tgt := 81) X.1 X.2.1 dX4_cutToKind_1 (by rw [k_5]; decide) (by rw [k_5]; decide) (by rw [k_5]; rfl) (by decide) ?_
    refine lv_iload_n X.1 X.2.1 dX4_cutToKind_81 rfl (lv_at hv 1 rfl) ?_
    refine lv_i2l (v := (x2).toInt64) X.1 X.2.1 dX4_cutToKind_82 rfl ?_
    exact xt_l X hr hlocks hNN hw hl h dX4_cutToKind_83
  have h := hsw.2.2.2.2.2.2 k_0 k_1 k_2 k_3 k_6 k_7
  have n_0 := lv_neT k_0 (a := 0) (by decide)
  have n_1 := lv_neT k_1 (a := 1) (by decide)
  have n_2 := lv_neT k_2 (a := 2) (by decide)
  have n_3 := lv_neT k_3 (a := 3) (by decide)
  have n_6 := lv_neT k_6 (a := 6) (by decide)
  have n_7 := lv_neT k_7 (a := 7) (by decide)
  have n_4 := lv_neT k_4 (a := 4) (by decide)
  have n_5 := lv_neT k_5 (a := 5) (by decide)
  refine lv_tableOut (tgt := 81) X.1 X.2.1 dX4_cutToKind_1 (by omega) (by decide) ?_
  refine lv_iload_n X.1 X.2.1 dX4_cutToKind_81 rfl (lv_at hv 1 rfl) ?_
  refine lv_i2l (v := (x2).toInt64) X.1 X.2.1 dX4_cutToKind_82 rfl ?_
  exact xt_l X hr hlocks hNN hw hl h dX4_cutToKind_83
def v_X0_pin (x1 : Int32) (x2 : Int32) (S : xs_T) (K : Int32 → xs_T → Prop) : Prop := ∃ j_1 : Nat, x1 = nI j_1 ∧ j_1 < 10 ∧ ((xQ S 37 j_1 = none → K (1) S) ∧ (∀ u_5 : Nat, xQ S 37 j_1 = some u_5 → ∃ j_6 : Nat, x1 = nI j_6 ∧ j_6 < 10 ∧ oT S (xQ S 37 j_6) ∧ ((∀ u_10 : Nat, xQ S 37 j_6 = some u_10 → oR S u_10 → v_X5_isOfFigures (u_10) S (fun (r_14 : Int32) (S_13 : xs_T) => ((r_14 = 0 → ∃ j_18 : Nat, x1 = nI j_18 ∧ j_18 < 10 ∧ v_X5_hasPlace (u_10) ((xI S_13 38 j_18)) S_13 (fun (r_22 : Int32) (S_21 : xs_T) => ((¬ r_22 = 0 → ∃ j_26 : Nat, x1 = nI j_26 ∧ j_26 < 10 ∧ v_X4_cutToKind ((xF S_21 u_10 0)) (x2) S_21 (fun (r_30 : Int64) (S_29 : xs_T) => ∃ j_33 : Nat, (xI S_21 38 j_26) = nI j_33 ∧ j_33 < xN S_29 (u_10 + 120) ∧ ∀ S_36 : xs_T, S_36 = sL S_29 (u_10 + 120) j_33 (r_30) → K (0) S_36)) ∧ (r_22 = 0 → K (3) S_21)))) ∧ (¬ r_14 = 0 → K (2) S_13)))) ∧ (¬ iR S (xQ S 37 j_6) → K (2) S))))
set_option maxHeartbeats 4000000 in
set_option maxRecDepth 100000 in
theorem c_X0_pin (l : Launch) (Z : xz_T) (et : Nat → Nat) (S : xs_T) (x1 : Int32) (x2 : Int32) (K : Int32 → xs_T → Prop) (h : v_X0_pin x1 x2 S K) : Met l yX0_pin (wq yX0_pin cX0_pin 5 (some .int)) { frames := 3, cells := 0, slots := 0, locals := 77 } (xPc Z et S [.ref (et (33)), .int (x1), .int (x2)]) (xQi Z et S.2.2.2.2 K) 0 0 (fun q => Z.2.2.1 ≤ q) := by
  refine Met.ofW (cc := cX0_pin) (maxL := 5) (ret := (some .int)) (by decide +kernel) rfl ?_
  intro p e s m args below meth c s₁ B hml hv0
  obtain ⟨rfl, hk, hw⟩ := hv0
  have X : CallFix p m c cX0_pin 5 s _ (wq yX0_pin cX0_pin 5 (some .int)) RX0 := ⟨B.exec, B.bytes, hml, findClass_of_methodNamed B.named, atoms_spec (ws := (wq yX0_pin cX0_pin 5 (some .int))) B.pre⟩
  have hr := B.returns
  have hlocks := B.notSynchronized
  have hl : xl Z [] := fun _ h => by cases h
  have hNN : S.2.2.2.2 = S.2.2.2.2 := rfl
  have hv := lv_entry [.ref (et (33)), .int (x1), .int (x2)] (n := 5) (Nat.le_of_ble_eq_true rfl)
  rw [lg_entry_eq]
  generalize (lg_sl [.ref (et (33)), .int (x1), .int (x2)] ++ List.replicate (5 - (lg_sl [.ref (et (33)), .int (x1), .int (x2)]).length) Slot.unset).toArray = ls at hv ⊢
  replace hv : lv_has ls 5 [(0, .ref (et (33))), (1, .int (x1)), (2, .int (x2))] := hv
  unfold v_X0_pin at h
  refine lv_aload_n X.1 X.2.1 dX0_pin_0 rfl (lv_at hv 0 rfl) ?_
  refine xw_get X hk hw (i := 33) 0 xe_33 rfl tlX0 (by decide) rfl tw_96 dX0_pin_1 ?_
  refine lv_iload_n X.1 X.2.1 dX0_pin_4 rfl (lv_at hv 1 rfl) ?_
  obtain ⟨j_1, e_2, b_3, h⟩ := h
  refine xw_qld X hk hw xe_37 (C := RX7) rfl e_2 b_3 (by decide) dX0_pin_5 ?_
  refine xv_ifnonnull (tgt := 11) X.1 X.2.1 dX0_pin_6 (by decide) (fun u_5 c_4 => ?_) (fun c_4 => ?_)
  · skip
    replace h := h.2 u_5 c_4
    refine lv_aload_n X.1 X.2.1 dX0_pin_11 rfl (lv_at hv 0 rfl) ?_
    refine xw_get X hk hw (i := 33) 0 xe_33 rfl tlX0 (by decide) rfl tw_96 dX0_pin_12 ?_
    refine lv_iload_n X.1 X.2.1 dX0_pin_15 rfl (lv_at hv 1 rfl) ?_
    obtain ⟨j_6, e_7, b_8, h⟩ := h
    refine xw_qld X hk hw xe_37 (C := RX7) rfl e_7 b_8 (by decide) dX0_pin_16 ?_
    refine xv_astore (lv' := [(4, va_rf (Option.map et (xQ S 37 j_6))), (0, .ref (et (33))), (1, .int (x1)), (2, .int (x2))]) X.1 X.2.1 dX0_pin_17 hv (by decide) rfl (fun ls hv => ?_)
    refine xv_aload X.1 X.2.1 dX0_pin_19 (lv_at hv 0 rfl) ?_
    obtain ⟨o_9, h⟩ := h
    refine xw_instR X hk hw o_9 tw_241 dX0_pin_21 (fun u_10 c_11 o_12 => ?_) (fun c_11 => ?_)
    · skip
      replace h := h.1 u_10 c_11 o_12
      rw [c_11] at hv
      replace hv : lv_has ls 5 [(4, .ref (et (u_10))), (0, .ref (et (33))), (1, .int (x1)), (2, .int (x2))] := hv
      refine lv_if_eq (tgt := 40) X.1 X.2.1 dX0_pin_24 (by decide) (fun c => absurd c (by decide)) (fun _ => ?_)
      refine lv_aload X.1 X.2.1 dX0_pin_27 (lv_at hv 0 rfl) ?_
      refine xw_castR X hk hw o_12 tw_241 dX0_pin_29 ?_
      refine lv_astore_n (lv' := [(3, .ref (et (u_10))), (4, .ref (et (u_10))), (0, .ref (et (33))), (1, .int (x1)), (2, .int (x2))]) X.1 X.2.1 dX0_pin_32 rfl hv (by decide) rfl (fun ls hv => ?_)
      refine lv_aload_n X.1 X.2.1 dX0_pin_33 rfl (lv_at hv 0 rfl) ?_
      refine xc_i (xr_V (n := 0) (As := []) (i := u_10) X hk hw hv.1 (c_X5_isOfFigures l Z et S (u_10) _ h) (tb_V tw_249 tw_258 tw_247 tw_248 tw_48) (xE_row o_12) rfl rfl rfl rfl (by decide +kernel) ⟨Nat.le_of_ble_eq_true rfl, Nat.le_of_ble_eq_true rfl⟩ rfl (Nat.le_of_ble_eq_true rfl) dX0_pin_34 ⟨Nat.le_of_ble_eq_true rfl, Nat.le_of_ble_eq_true rfl⟩) hl (fun r_14 S_13 H locs h hN hw hl => ?_)
      have o_15 := oT_N hN o_9
      have o_16 := oR_N hN o_12
      replace hNN := hN.trans hNN
      refine lv_if_eq (tgt := 42) X.1 X.2.1 dX0_pin_37 (by decide) (fun c_17 => ?_) (fun c_17 => ?_)
      · skip
        replace h := h.1 c_17
        refine lv_aload_n X.1 X.2.1 dX0_pin_42 rfl (lv_at hv 0 rfl) ?_
        refine lv_aload_n X.1 X.2.1 dX0_pin_43 rfl (lv_at hv 2 rfl) ?_
        refine xw_get X hk hw (i := 33) 1 xe_33 rfl tlX0 (by decide) rfl tw_98 dX0_pin_44 ?_
        refine lv_iload_n X.1 X.2.1 dX0_pin_47 rfl (lv_at hv 3 rfl) ?_
        obtain ⟨j_18, e_19, b_20, h⟩ := h
        refine xw_ild X hk hw xe_38 e_19 b_20 (by decide) dX0_pin_48 ?_
        refine xc_i (xr_V (n := 1) (As := [.int ((xI S_13 38 j_18))]) (i := u_10) X hk hw hv.1 (c_X5_hasPlace l Z et S_13 (u_10) ((xI S_13 38 j_18)) _ h) (tb_V tw_390 tw_387 tw_388 tw_389 tw_48) (xE_row o_16) rfl rfl rfl rfl (by decide +kernel) ⟨Nat.le_of_ble_eq_true rfl, Nat.le_of_ble_eq_true rfl⟩ rfl (Nat.le_of_ble_eq_true rfl) dX0_pin_49 ⟨Nat.le_of_ble_eq_true rfl, Nat.le_of_ble_eq_true rfl⟩) hl (fun r_22 S_21 H locs h hN hw hl => ?_)
        have o_23 := oT_N hN o_15
        have o_24 := oR_N hN o_16
        replace hNN := hN.trans hNN
        refine lv_if_ne (tgt := 57) X.1 X.2.1 dX0_pin_52 (by decide) (fun c_25 => ?_) (fun c_25 => ?_)
        · skip
          replace h := h.1 c_25
          refine lv_aload_n X.1 X.2.1 dX0_pin_57 rfl (lv_at hv 0 rfl) ?_
          refine xw_getN X hk hw (i := u_10) 1 (xE_row o_24) rfl tlX5 (by decide) rfl xn_19 dX0_pin_58 ?_
          refine lv_aload_n X.1 X.2.1 dX0_pin_61 rfl (lv_at hv 2 rfl) ?_
          refine xw_get X hk hw (i := 33) 1 xe_33 rfl tlX0 (by decide) rfl tw_98 dX0_pin_62 ?_
          refine lv_iload_n X.1 X.2.1 dX0_pin_65 rfl (lv_at hv 3 rfl) ?_
          obtain ⟨j_26, e_27, b_28, h⟩ := h
          refine xw_ild X hk hw xe_38 e_27 b_28 (by decide) dX0_pin_66 ?_
          refine lv_aload_n X.1 X.2.1 dX0_pin_67 rfl (lv_at hv 0 rfl) ?_
          refine xw_getN X hk hw (i := u_10) 0 (xE_row o_24) rfl tlX5 (by decide) rfl xn_17 dX0_pin_68 ?_
          refine lv_iload_n X.1 X.2.1 dX0_pin_71 rfl (lv_at hv 4 rfl) ?_
          refine xc_l (xr_S (n := 2) X hk hw hv.1 (c_X4_cutToKind l Z et S_21 ((xF S_21 u_10 0)) (x2) _ h) (tb_S tw_393 tw_391 tw_392 tw_51) rfl rfl (by decide +kernel) ⟨Nat.le_of_ble_eq_true rfl, Nat.le_of_ble_eq_true rfl⟩ rfl (Nat.le_of_ble_eq_true rfl) dX0_pin_72 ⟨Nat.le_of_ble_eq_true rfl, Nat.le_of_ble_eq_true rfl⟩) hl (fun r_30 S_29 H locs h hN hw hl => ?_)
          have o_31 := oT_N hN o_23
          have o_32 := oR_N hN o_24
          replace hNN := hN.trans hNN
          obtain ⟨j_33, e_34, b_35, h⟩ := h
          refine xw_lst X hk hw hl (xE_arr o_32) (xE_arr (S := sL S_29 (u_10 + 120) j_33 (r_30)) o_32) e_34 b_35 (oR_lt o_32) dX0_pin_75 (fun H locs hw hl => ?_)
          obtain ⟨S_36, e_37⟩ : ∃ T : xs_T, T = sL S_29 (u_10 + 120) j_33 (r_30) := ⟨_, rfl⟩
          rw [← e_37] at hw
          replace h := h S_36 e_37
          have hN : S_36.2.2.2.2 = S_29.2.2.2.2 := by rw [e_37]; rfl
          have o_38 := oT_N hN o_31
          have o_39 := oR_N hN o_32
          replace hNN := hN.trans hNN
          refine lv_iconst (v := 0) X.1 X.2.1 dX0_pin_76 (by decide) ?_
          exact xt_i X hr hlocks hNN hw hl h dX0_pin_77
        · skip
          replace h := h.2 c_25
          refine lv_iconst (v := 3) X.1 X.2.1 dX0_pin_55 (by decide) ?_
          exact xt_i X hr hlocks hNN hw hl h dX0_pin_56
      · skip
        replace h := h.2 c_17
        refine lv_iconst (v := 2) X.1 X.2.1 dX0_pin_40 (by decide) ?_
        exact xt_i X hr hlocks hNN hw hl h dX0_pin_41
    · skip
      replace h := h.2 c_11
      refine lv_if_eq (tgt := 40) X.1 X.2.1 dX0_pin_24 (by decide) (fun _ => ?_) (fun c => absurd c (by decide))
      refine lv_iconst (v := 2) X.1 X.2.1 dX0_pin_40 (by decide) ?_
      exact xt_i X hr hlocks hNN hw hl h dX0_pin_41
  · skip
    replace h := h.1 c_4
    refine lv_iconst (v := 1) X.1 X.2.1 dX0_pin_9 (by decide) ?_
    exact xt_i X hr hlocks hNN hw hl h dX0_pin_10
def v_X5_canHave (u0 : Nat) (x1 : Int32) (S : xs_T) (K : Int32 → xs_T → Prop) : Prop := oR S u0 ∧ ((((xF S u0 0) = 9) → ((x1 = 0 → K (1) S) ∧ (¬ x1 = 0 → ((x1 = 2 → K (1) S) ∧ (¬ x1 = 2 → ((¬ x1 = 3 → K (0) S) ∧ (x1 = 3 → K (1) S))))))) ∧ (((xF S u0 0) = 10) → ((x1 = 0 → K (1) S) ∧ (¬ x1 = 0 → ((¬ x1 = 3 → K (0) S) ∧ (x1 = 3 → K (1) S))))) ∧ (((xF S u0 0) = 11) → ((x1 = 0 → K (1) S) ∧ (¬ x1 = 0 → ((¬ x1 = 4 → K (0) S) ∧ (x1 = 4 → K (1) S))))) ∧ (¬ (xF S u0 0) = 9 → ¬ (xF S u0 0) = 10 → ¬ (xF S u0 0) = 11 → K (1) S))
set_option maxHeartbeats 4000000 in
set_option maxRecDepth 100000 in
theorem c_X5_canHave (l : Launch) (Z : xz_T) (et : Nat → Nat) (S : xs_T) (u0 : Nat) (x1 : Int32) (K : Int32 → xs_T → Prop) (h : v_X5_canHave u0 x1 S K) : Met l yX5_canHave (wq yX5_canHave cX5_canHave 2 (some .boolean)) { frames := 0, cells := 0, slots := 0, locals := 0 } (xPc Z et S [.ref (et (u0)), .int (x1)]) (xQi Z et S.2.2.2.2 K) 0 0 (fun q => Z.2.2.1 ≤ q) := by
  refine Met.ofW (cc := cX5_canHave) (maxL := 2) (ret := (some .boolean)) (by decide +kernel) rfl ?_
  intro p e s m args below meth c s₁ B hml hv0
  obtain ⟨rfl, hk, hw⟩ := hv0
  have X : CallFix p m c cX5_canHave 2 s _ (wq yX5_canHave cX5_canHave 2 (some .boolean)) RX5 := ⟨B.exec, B.bytes, hml, findClass_of_methodNamed B.named, atoms_spec (ws := (wq yX5_canHave cX5_canHave 2 (some .boolean))) B.pre⟩
  have hr := B.returns
  have hlocks := B.notSynchronized
  have hl : xl Z [] := fun _ h => by cases h
  have hNN : S.2.2.2.2 = S.2.2.2.2 := rfl
  have hv := lv_entry [.ref (et (u0)), .int (x1)] (n := 2) (Nat.le_of_ble_eq_true rfl)
  rw [lg_entry_eq]
  generalize (lg_sl [.ref (et (u0)), .int (x1)] ++ List.replicate (2 - (lg_sl [.ref (et (u0)), .int (x1)]).length) Slot.unset).toArray = ls at hv ⊢
  replace hv : lv_has ls 2 [(0, .ref (et (u0))), (1, .int (x1))] := hv
  unfold v_X5_canHave at h
  refine lv_aload_n X.1 X.2.1 dX5_canHave_0 rfl (lv_at hv 0 rfl) ?_
  obtain ⟨o_1, h⟩ := h
  refine xw_get X hk hw (i := u0) 0 (xE_row o_1) rfl tlX5 (by decide) rfl tw_329 dX5_canHave_1 ?_
  have hsw := h
  by_cases k_9 : (xF S u0 0) = 9
  · have h := hsw.1 k_9
    refine lv_tableIn (off := 28) (tgt := 32) X.1 X.2.1 dX5_canHave_4 (by rw [k_9]; decide) (by rw [k_9]; decide) (by rw [k_9]; rfl) (by decide) ?_
    refine lv_iload_n X.1 X.2.1 dX5_canHave_32 rfl (lv_at hv 1 rfl) ?_
    refine lv_if_eq (tgt := 46) X.1 X.2.1 dX5_canHave_33 (by decide) (fun c_2 => ?_) (fun c_2 => ?_)
    · skip
      replace h := h.1 c_2
      refine lv_iconst (v := 1) X.1 X.2.1 dX5_canHave_46 (by decide) ?_
      refine lv_goto (tgt := 51) X.1 X.2.1 dX5_canHave_47 (by decide) ?_
      exact xt_z X hr hlocks hNN hw hl (by decide) h dX5_canHave_51
    · skip
      replace h := h.2 c_2
      refine lv_iload_n X.1 X.2.1 dX5_canHave_36 rfl (lv_at hv 1 rfl) ?_
      refine lv_iconst (v := 2) X.1 X.2.1 dX5_canHave_37 (by decide) ?_
      refine lv_icmp_eq (tgt := 46) X.1 X.2.1 dX5_canHave_38 (by decide) (fun c_3 => ?_) (fun c_3 => ?_)
      · skip
        replace h := h.1 c_3
        refine lv_iconst (v := 1) X.1 X.2.1 dX5_canHave_46 (by decide) ?_
        refine lv_goto (tgt := 51) X.1 X.2.1 dX5_canHave_47 (by decide) ?_
        exact xt_z X hr hlocks hNN hw hl (by decide) h dX5_canHave_51
      · skip
        replace h := h.2 c_3
        refine lv_iload_n X.1 X.2.1 dX5_canHave_41 rfl (lv_at hv 1 rfl) ?_
        refine lv_iconst (v := 3) X.1 X.2.1 dX5_canHave_42 (by decide) ?_
        refine lv_icmp_ne (tgt := 50) X.1 X.2.1 dX5_canHave_43 (by decide) (fun c_4 => ?_) (fun c_4 => ?_)
        · skip
          replace h := h.1 c_4
          refine lv_iconst (v := 0) X.1 X.2.1 dX5_canHave_50 (by decide) ?_
          exact xt_z X hr hlocks hNN hw hl (by decide) h dX5_canHave_51
        · skip
          replace h := h.2 c_4
          refine lv_iconst (v := 1) X.1 X.2.1 dX5_canHave_46 (by decide) ?_
          refine lv_goto (tgt := 51) X.1 X.2.1 dX5_canHave_47 (by decide) ?_
          exact xt_z X hr hlocks hNN hw hl (by decide) h dX5_canHave_51
  by_cases k_10 : (xF S u0 0) = 10
  · have h := hsw.2.1 k_10
    refine lv_tableIn (off := 48) (tgt := 52) X.1 X.2.1 dX5_canHave_4 (by rw [k_10]; decide) (by rw [k_10]; decide) (by rw [k_10]; rfl) (by decide) ?_
    refine lv_iload_n X.1 X.2.1 dX5_canHave_52 rfl (lv_at hv 1 rfl) ?_
    refine lv_if_eq (tgt := 61) X.1 X.2.1 dX5_canHave_53 (by decide) (fun c_5 => ?_) (fun c_5 => ?_)
    · skip
      replace h := h.1 c_5
      refine lv_iconst (v := 1) X.1 X.2.1 dX5_canHave_61 (by decide) ?_
      refine lv_goto (tgt := 66) X.1 X.2.1 dX5_canHave_62 (by decide) ?_
      exact xt_z X hr hlocks hNN hw hl (by decide) h dX5_canHave_66
    · skip
      replace h := h.2 c_5
      refine lv_iload_n X.1 X.2.1 dX5_canHave_56 rfl (lv_at hv 1 rfl) ?_
      refine lv_iconst (v := 3) X.1 X.2.1 dX5_canHave_57 (by decide) ?_
      refine lv_icmp_ne (tgt := 65) X.1 X.2.1 dX5_canHave_58 (by decide) (fun c_6 => ?_) (fun c_6 => ?_)
      · skip
        replace h := h.1 c_6
        refine lv_iconst (v := 0) X.1 X.2.1 dX5_canHave_65 (by decide) ?_
        exact xt_z X hr hlocks hNN hw hl (by decide) h dX5_canHave_66
      · skip
        replace h := h.2 c_6
        refine lv_iconst (v := 1) X.1 X.2.1 dX5_canHave_61 (by decide) ?_
        refine lv_goto (tgt := 66) X.1 X.2.1 dX5_canHave_62 (by decide) ?_
        exact xt_z X hr hlocks hNN hw hl (by decide) h dX5_canHave_66
  by_cases k_11 : (xF S u0 0) = 11
  · have h := hsw.2.2.1 k_11
    refine lv_tableIn (off := 63) (tgt := 67) X.1 X.2.1 dX5_canHave_4 (by rw [k_11]; decide) (by rw [k_11]; decide) (by rw [k_11]; rfl) (by decide) ?_
    refine lv_iload_n X.1 X.2.1 dX5_canHave_67 rfl (lv_at hv 1 rfl) ?_
    refine lv_if_eq (tgt := 76) X.1 X.2.1 dX5_canHave_68 (by decide) (fun c_7 => ?_) (fun c_7 => ?_)
    · skip
      replace h := h.1 c_7
      refine lv_iconst (v := 1) X.1 X.2.1 dX5_canHave_76 (by decide) ?_
      refine lv_goto (tgt := 81) X.1 X.2.1 dX5_canHave_77 (by decide) ?_
      exact xt_z X hr hlocks hNN hw hl (by decide) h dX5_canHave_81
    · skip
      replace h := h.2 c_7
      refine lv_iload_n X.1 X.2.1 dX5_canHave_71 rfl (lv_at hv 1 rfl) ?_
      refine lv_iconst (v := 4) X.1 X.2.1 dX5_canHave_72 (by decide) ?_
      refine lv_icmp_ne (tgt := 80) X.1 X.2.1 dX5_canHave_73 (by decide) (fun c_8 => ?_) (fun c_8 => ?_)
      · skip
        replace h := h.1 c_8
        refine lv_iconst (v := 0) X.1 X.2.1 dX5_canHave_80 (by decide) ?_
        exact xt_z X hr hlocks hNN hw hl (by decide) h dX5_canHave_81
      · skip
        replace h := h.2 c_8
        refine lv_iconst (v := 1) X.1 X.2.1 dX5_canHave_76 (by decide) ?_
        refine lv_goto (tgt := 81) X.1 X.2.1 dX5_canHave_77 (by decide) ?_
        exact xt_z X hr hlocks hNN hw hl (by decide) h dX5_canHave_81
  have h := hsw.2.2.2 k_9 k_10 k_11
  have n_9 := lv_neT k_9 (a := 9) (by decide)
  have n_10 := lv_neT k_10 (a := 10) (by decide)
  have n_11 := lv_neT k_11 (a := 11) (by decide)
  refine lv_tableOut (tgt := 82) X.1 X.2.1 dX5_canHave_4 (by omega) (by decide) ?_
  refine lv_iconst (v := 1) X.1 X.2.1 dX5_canHave_82 (by decide) ?_
  exact xt_z X hr hlocks hNN hw hl (by decide) h dX5_canHave_83
