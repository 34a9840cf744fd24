def v_X1_write (u1 : Nat) (b2 : Nat) (S : xs_T) (K : xs_T → Prop) : Prop := oR S u1 ∧ ∃ j_2 : Nat, (xF S 35 3) = nI j_2 ∧ j_2 < 20 ∧ ∀ S_5 : xs_T, S_5 = sQ S 47 j_2 (some (u1)) → oA S_5 b2 ∧ ∃ j_9 j_10 j_11 : Nat, 0 = nI j_9 ∧ ((xF S_5 35 3) * 64) = nI j_10 ∧ (nI (xN S_5 (u1 + 120))) = nI j_11 ∧ j_9 + j_11 ≤ aN S_5 b2 ∧ j_10 + j_11 ≤ 1280 ∧ ∀ S_17 : xs_T, S_17 = tL S_5 48 (va_cpy (xL S_5 b2) (xL S_5 48) j_9 j_10 j_11) → ∀ S_21 : xs_T, S_21 = sF S_17 35 3 ((((xF S_17 35 3) + 1) - ((xF S_17 35 3) + 1) / 20 * 20)) → v_J9_min_7cf53 (((xF S_21 35 2) + 1)) (20) S_21 (fun (r_26 : Int32) (S_25 : xs_T) => ∀ S_29 : xs_T, S_29 = sF S_25 35 2 (r_26) → K S_29)
set_option maxHeartbeats 4000000 in
set_option maxRecDepth 100000 in
theorem c_X1_write (l : Launch) (Z : xz_T) (et : Nat → Nat) (S : xs_T) (u1 : Nat) (b2 : Nat) (K : xs_T → Prop) (h : v_X1_write u1 b2 S K) : Met l yX1_write (wq yX1_write cX1_write 3 none) { frames := 1, cells := 0, slots := 0, locals := 30 } (xPc Z et S [.ref (et (35)), .ref (et (u1)), .ref (et (b2))]) (xQv Z et S.2.2.2.2 K) 0 0 (fun q => Z.2.2.1 ≤ q) := by
  refine Met.ofW (cc := cX1_write) (maxL := 3) (ret := none) (by decide +kernel) rfl ?_
  intro p e s m args below meth c s₁ B hml hv0
  obtain ⟨rfl, hk, hw⟩ := hv0
  have X : CallFix p m c cX1_write 3 s _ (wq yX1_write cX1_write 3 none) RX1 := ⟨B.exec, B.bytes, hml, findClass_of_methodNamed B.named, atoms_spec (ws := (wq yX1_write cX1_write 3 none)) B.pre⟩
  have hr := B.returns
  have hlocks := B.notSynchronized
  have hl : xl Z [] := fun _ h => by cases h
  have hNN : S.2.2.2.2 = S.2.2.2.2 := rfl
  have hv := lv_entry [.ref (et (35)), .ref (et (u1)), .ref (et (b2))] (n := 3) (Nat.le_of_ble_eq_true rfl)
  rw [lg_entry_eq]
  generalize (lg_sl [.ref (et (35)), .ref (et (u1)), .ref (et (b2))] ++ List.replicate (3 - (lg_sl [.ref (et (35)), .ref (et (u1)), .ref (et (b2))]).length) Slot.unset).toArray = ls at hv ⊢
  replace hv : lv_has ls 3 [(0, .ref (et (35))), (1, .ref (et (u1))), (2, .ref (et (b2)))] := hv
  unfold v_X1_write at h
  refine lv_aload_n X.1 X.2.1 dX1_write_0 rfl (lv_at hv 0 rfl) ?_
  refine xw_get X hk hw (i := 35) 0 xe_35 rfl tlX1 (by decide) rfl tw_150 dX1_write_1 ?_
  refine lv_aload_n X.1 X.2.1 dX1_write_4 rfl (lv_at hv 0 rfl) ?_
  refine xw_get X hk hw (i := 35) 3 xe_35 rfl tlX1 (by decide) rfl tw_154 dX1_write_5 ?_
  refine lv_aload_n X.1 X.2.1 dX1_write_8 rfl (lv_at hv 1 rfl) ?_
  obtain ⟨o_1, h⟩ := h
  obtain ⟨j_2, e_3, b_4, h⟩ := h
  refine xw_qst X hk hw hl (E := RX5) (some (u1)) (oS_row o_1) xe_47 rfl rfl e_3 b_4 (by decide) dX1_write_9 (fun H locs hw hl => ?_)
  obtain ⟨S_5, e_6⟩ : ∃ T : xs_T, T = sQ S 47 j_2 (some (u1)) := ⟨_, rfl⟩
  rw [← e_6] at hw
  replace h := h S_5 e_6
  have hN : S_5.2.2.2.2 = S.2.2.2.2 := by rw [e_6]; rfl
  have o_7 := oR_N hN o_1
  replace hNN := hN.trans hNN
  refine lv_aload_n X.1 X.2.1 dX1_write_10 rfl (lv_at hv 2 rfl) ?_
  refine lv_iconst (v := 0) X.1 X.2.1 dX1_write_11 (by decide) ?_
  refine lv_aload_n X.1 X.2.1 dX1_write_12 rfl (lv_at hv 0 rfl) ?_
  refine xw_get X hk hw (i := 35) 1 xe_35 rfl tlX1 (by decide) rfl tw_151 dX1_write_13 ?_
  refine lv_aload_n X.1 X.2.1 dX1_write_16 rfl (lv_at hv 0 rfl) ?_
  refine xw_get X hk hw (i := 35) 3 xe_35 rfl tlX1 (by decide) rfl tw_154 dX1_write_17 ?_
  refine lv_bipush (v := 64) X.1 X.2.1 dX1_write_20 (by decide) ?_
  refine lv_imul X.1 X.2.1 dX1_write_22 ?_
  refine lv_aload_n X.1 X.2.1 dX1_write_23 rfl (lv_at hv 1 rfl) ?_
  refine xw_getN X hk hw (i := u1) 1 (xE_row o_7) rfl tlX5 (by decide) rfl xn_18 dX1_write_24 ?_
  refine xw_len X hk hw (xE_arr o_7) dX1_write_27 ?_
  obtain ⟨o_8, h⟩ := h
  obtain ⟨j_9, j_10, j_11, e_12, e_13, e_14, e_15, e_16, h⟩ := h
  refine xw_cpy X hk hw hl hv.1 (xE_oA o_8) xe_48 (fun _ => rfl) e_12 e_13 e_14 e_15 e_16 (oA_lt o_8) (by decide) tw_432 (Nat.le_of_ble_eq_true rfl) (Nat.le_of_ble_eq_true rfl) dX1_write_28 (fun H locs hw hl => ?_)
  obtain ⟨S_17, e_18⟩ : ∃ T : xs_T, T = tL S_5 48 (va_cpy (xL S_5 b2) (xL S_5 48) j_9 j_10 j_11) := ⟨_, rfl⟩
  rw [← e_18] at hw
  replace h := h S_17 e_18
  have hN : S_17.2.2.2.2 = S_5.2.2.2.2 := by rw [e_18]; rfl
  have o_19 := oR_N hN o_7
  have o_20 := oA_N hN o_8
  replace hNN := hN.trans hNN
  refine lv_aload_n X.1 X.2.1 dX1_write_31 rfl (lv_at hv 0 rfl) ?_
  refine lv_aload_n X.1 X.2.1 dX1_write_32 rfl (lv_at hv 0 rfl) ?_
  refine xw_get X hk hw (i := 35) 3 xe_35 rfl tlX1 (by decide) rfl tw_154 dX1_write_33 ?_
  refine lv_iconst (v := 1) X.1 X.2.1 dX1_write_36 (by decide) ?_
  refine lv_iadd X.1 X.2.1 dX1_write_37 ?_
  refine lv_bipush (v := 20) X.1 X.2.1 dX1_write_38 (by decide) ?_
  refine lv_irem X.1 X.2.1 dX1_write_40 (by decide) ?_
  refine xw_put X hk hw hl (i := 35) 3 xe_35 rfl rfl tlX1 tyX1 tyX1_ok nmX1 (by decide) tw_154 rfl rfl (Nat.le_of_ble_eq_true rfl) dX1_write_41 (fun H locs hw hl => ?_)
  obtain ⟨S_21, e_22⟩ : ∃ T : xs_T, T = sF S_17 35 3 ((((xF S_17 35 3) + 1) - ((xF S_17 35 3) + 1) / 20 * 20)) := ⟨_, rfl⟩
  rw [← e_22] at hw
  replace h := h S_21 e_22
  have hN : S_21.2.2.2.2 = S_17.2.2.2.2 := by rw [e_22]; rfl
  have o_23 := oR_N hN o_19
  have o_24 := oA_N hN o_20
  replace hNN := hN.trans hNN
  refine lv_aload_n X.1 X.2.1 dX1_write_44 rfl (lv_at hv 0 rfl) ?_
  refine lv_aload_n X.1 X.2.1 dX1_write_45 rfl (lv_at hv 0 rfl) ?_
  refine xw_get X hk hw (i := 35) 2 xe_35 rfl tlX1 (by decide) rfl tw_152 dX1_write_46 ?_
  refine lv_iconst (v := 1) X.1 X.2.1 dX1_write_49 (by decide) ?_
  refine lv_iadd X.1 X.2.1 dX1_write_50 ?_
  refine lv_bipush (v := 20) X.1 X.2.1 dX1_write_51 (by decide) ?_
  refine xc_i (xr_S (n := 2) X hk hw hv.1 (c_J9_min_7cf53 l Z et S_21 (((xF S_21 35 2) + 1)) (20) _ h) (tb_S tw_435 tw_433 tw_434 tw_46) rfl rfl (by decide +kernel) ⟨Nat.le_of_ble_eq_true rfl, Nat.le_of_ble_eq_true rfl⟩ rfl (Nat.le_of_ble_eq_true rfl) dX1_write_53 ⟨Nat.le_of_ble_eq_true rfl, Nat.le_of_ble_eq_true rfl⟩) hl (fun r_26 S_25 H locs h hN hw hl => ?_)
  have o_27 := oR_N hN o_23
  have o_28 := oA_N hN o_24
  replace hNN := hN.trans hNN
  refine xw_put X hk hw hl (i := 35) 2 xe_35 rfl rfl tlX1 tyX1 tyX1_ok nmX1 (by decide) tw_152 rfl rfl (Nat.le_of_ble_eq_true rfl) dX1_write_56 (fun H locs hw hl => ?_)
  obtain ⟨S_29, e_30⟩ : ∃ T : xs_T, T = sF S_25 35 2 (r_26) := ⟨_, rfl⟩
  rw [← e_30] at hw
  replace h := h S_29 e_30
  have hN : S_29.2.2.2.2 = S_25.2.2.2.2 := by rw [e_30]; rfl
  have o_31 := oR_N hN o_27
  have o_32 := oA_N hN o_28
  replace hNN := hN.trans hNN
  exact xt_v X hr hlocks hNN hw hl h dX1_write_59
def v_X5_differsFrom_2 (K : Int32 → xs_T → Prop) : Nat → Nat → Nat → Int32 → xs_T → Prop
  | 0, _, _, _, _ => False
  | n + 1, u0, u1, a2, S => oR S u0 ∧ (((nI (xN S (u0 + 120))) ≤ a2 → K (0) S) ∧ (¬ (nI (xN S (u0 + 120))) ≤ a2 → ∃ j_4 : Nat, a2 = nI j_4 ∧ j_4 < xN S (u0 + 120) ∧ oA S u1 ∧ ∃ j_7 : Nat, a2 = nI j_7 ∧ j_7 < aN S u1 ∧ (((xL S (u0 + 120) j_4) = (xL S u1 j_7) → v_X5_differsFrom_2 K n (u0) (u1) ((a2 + 1)) S) ∧ (¬ (xL S (u0 + 120) j_4) = (xL S u1 j_7) → K (1) S))))
def v_X5_differsFrom (u0 : Nat) (b1 : Nat) (S : xs_T) (K : Int32 → xs_T → Prop) : Prop := ∃ n, v_X5_differsFrom_2 K n (u0) (b1) (0) S
set_option maxHeartbeats 4000000 in
set_option maxRecDepth 100000 in
theorem j_X5_differsFrom_2 {l : Launch} {p : Program} {e : Env} {s : State} {m : MethodId} {args : Array Value} {below : List Frame} {meth : Method} {c : Code} {Z : xz_T} {et : Nat → Nat} {Nn : Nat → Nat} {K : Int32 → xs_T → Prop} (X : CallFix p m c cX5_differsFrom 3 s args (wq yX5_differsFrom cX5_differsFrom 3 (some .boolean)) RX5) (hk : xk Z s) (hr : meth.sig.returnType = (some .boolean)) (hlocks : meth.locks = false) : ∀ (n : Nat) (u0 : Nat) (u1 : Nat) (a2 : Int32) (S : xs_T) (H : Heap) (locs : List Loc) (ls : Array Slot), v_X5_differsFrom_2 K n u0 u1 a2 S → S.2.2.2.2 = Nn → wd Z et S H → xl Z locs → lv_has ls 3 [(0, .ref (et (u0))), (1, .ref (et (u1))), (2, .int (a2))] → W p l e (headSpec (wq yX5_differsFrom cX5_differsFrom 3 (some .boolean)) { frames := 0, cells := 0, slots := 0, locals := 0 }).room s m args below meth c H locs 0 0 (MQ below (xQi Z et Nn K) args s 0 0 (fun q => Z.2.2.1 ≤ q)) (F0 m 2 ls []) := by
  intro n
  induction n with
  | zero =>
    intro u0 u1 a2 S H locs ls h hNN hw hl hv
    exact False.elim h
  | succ n ih =>
    intro u0 u1 a2 S H locs ls h hNN hw hl hv
    rw [v_X5_differsFrom_2] at h
    refine lv_iload_n X.1 X.2.1 dX5_differsFrom_2 rfl (lv_at hv 2 rfl) ?_
    refine lv_aload_n X.1 X.2.1 dX5_differsFrom_3 rfl (lv_at hv 0 rfl) ?_
    obtain ⟨o_2, h⟩ := h
    refine xw_get X hk hw (i := u0) 1 (xE_row o_2) rfl tlX5 (by decide) rfl tw_331 dX5_differsFrom_4 ?_
    refine xw_len X hk hw (xE_arr o_2) dX5_differsFrom_7 ?_
    refine lv_icmp_ge (tgt := 32) X.1 X.2.1 dX5_differsFrom_8 (by decide) (fun c_3 => ?_) (fun c_3 => ?_)
    · skip
      replace h := h.1 c_3
      refine lv_iconst (v := 0) X.1 X.2.1 dX5_differsFrom_32 (by decide) ?_
      exact xt_z X hr hlocks hNN hw hl (by decide) h dX5_differsFrom_33
    · skip
      replace h := h.2 c_3
      refine lv_aload_n X.1 X.2.1 dX5_differsFrom_11 rfl (lv_at hv 0 rfl) ?_
      refine xw_get X hk hw (i := u0) 1 (xE_row o_2) rfl tlX5 (by decide) rfl tw_331 dX5_differsFrom_12 ?_
      refine lv_iload_n X.1 X.2.1 dX5_differsFrom_15 rfl (lv_at hv 2 rfl) ?_
      obtain ⟨j_4, e_5, b_6, h⟩ := h
      refine xw_lld X hk hw (xE_arr o_2) e_5 b_6 (oR_lt o_2) dX5_differsFrom_16 ?_
      refine lv_aload_n X.1 X.2.1 dX5_differsFrom_17 rfl (lv_at hv 1 rfl) ?_
      refine lv_iload_n X.1 X.2.1 dX5_differsFrom_18 rfl (lv_at hv 2 rfl) ?_
      obtain ⟨o_10, h⟩ := h
      obtain ⟨j_7, e_8, b_9, h⟩ := h
      refine xw_lld X hk hw (xE_oA o_10) e_8 b_9 (oA_lt o_10) dX5_differsFrom_19 ?_
      refine W.lcmp X.1 X.2.1 dX5_differsFrom_20 ?_
      refine lv_if_eq (tgt := 26) X.1 X.2.1 dX5_differsFrom_21 (by decide) (fun c_11 => ?_) (fun c_11 => ?_)
      · skip
        replace c_11 := (lg_cmp_eq _ _).mp c_11
        replace h := h.1 c_11
        refine lv_iinc (v := (a2 + 1)) (lv' := [(2, .int ((a2 + 1))), (0, .ref (et (u0))), (1, .ref (et (u1)))]) X.1 X.2.1 dX5_differsFrom_26 hv (k := 2) rfl rfl (by decide) rfl (fun ls hv => ?_)
        refine lv_goto (tgt := 2) X.1 X.2.1 dX5_differsFrom_29 (by decide) ?_
        exact ih (u0) (u1) ((a2 + 1)) S _ _ _ h hNN hw hl (lv_sub hv [1, 2, 0] rfl)
      · skip
        replace c_11 := fun q => c_11 ((lg_cmp_eq _ _).mpr q)
        replace h := h.2 c_11
        refine lv_iconst (v := 1) X.1 X.2.1 dX5_differsFrom_24 (by decide) ?_
        exact xt_z X hr hlocks hNN hw hl (by decide) h dX5_differsFrom_25
set_option maxHeartbeats 4000000 in
set_option maxRecDepth 100000 in
theorem c_X5_differsFrom (l : Launch) (Z : xz_T) (et : Nat → Nat) (S : xs_T) (u0 : Nat) (b1 : Nat) (K : Int32 → xs_T → Prop) (h : v_X5_differsFrom u0 b1 S K) : Met l yX5_differsFrom (wq yX5_differsFrom cX5_differsFrom 3 (some .boolean)) { frames := 0, cells := 0, slots := 0, locals := 0 } (xPc Z et S [.ref (et (u0)), .ref (et (b1))]) (xQi Z et S.2.2.2.2 K) 0 0 (fun q => Z.2.2.1 ≤ q) := by
  refine Met.ofW (cc := cX5_differsFrom) (maxL := 3) (ret := (some .boolean)) (by decide +kernel) rfl ?_
  intro p e s m args below meth c s₁ B hml hv0
  obtain ⟨rfl, hk, hw⟩ := hv0
  have X : CallFix p m c cX5_differsFrom 3 s _ (wq yX5_differsFrom cX5_differsFrom 3 (some .boolean)) RX5 := ⟨B.exec, B.bytes, hml, findClass_of_methodNamed B.named, atoms_spec (ws := (wq yX5_differsFrom cX5_differsFrom 3 (some .boolean))) B.pre⟩
  have hr := B.returns
  have hlocks := B.notSynchronized
  have hl : xl Z [] := fun _ h => by cases h
  have hNN : S.2.2.2.2 = S.2.2.2.2 := rfl
  have hv := lv_entry [.ref (et (u0)), .ref (et (b1))] (n := 3) (Nat.le_of_ble_eq_true rfl)
  rw [lg_entry_eq]
  generalize (lg_sl [.ref (et (u0)), .ref (et (b1))] ++ List.replicate (3 - (lg_sl [.ref (et (u0)), .ref (et (b1))]).length) Slot.unset).toArray = ls at hv ⊢
  replace hv : lv_has ls 3 [(0, .ref (et (u0))), (1, .ref (et (b1)))] := hv
  unfold v_X5_differsFrom at h
  refine lv_iconst (v := 0) X.1 X.2.1 dX5_differsFrom_0 (by decide) ?_
  refine lv_istore_n (lv' := [(2, .int (0)), (0, .ref (et (u0))), (1, .ref (et (b1)))]) X.1 X.2.1 dX5_differsFrom_1 rfl hv (by decide) rfl (fun ls hv => ?_)
  obtain ⟨n_1, h⟩ := h
  exact j_X5_differsFrom_2 X hk hr hlocks n_1 (u0) (b1) (0) S _ _ _ h hNN hw hl (lv_sub hv [1, 2, 0] rfl)
def v_X9_rowAtRisk_10 (K : Option Nat → xs_T → Prop) (a1 : Int32) (t0 : Int32) (S : xs_T) : Prop := ((12 < a1 → K none S) ∧ (¬ 12 < a1 → v_X9_isSpindle (t0) S (fun (r_4 : Int32) (S_3 : xs_T) => ((r_4 = 0 → K none S_3) ∧ (¬ r_4 = 0 → ∃ j_6 : Nat, t0 = nI j_6 ∧ j_6 < 10 ∧ oT S_3 (xQ S_3 37 j_6) ∧ ((∀ u_10 : Nat, xQ S_3 37 j_6 = some u_10 → oR S_3 u_10 → K (some (u_10)) S_3) ∧ (¬ iR S_3 (xQ S_3 37 j_6) → K none S_3)))))))
def v_X9_rowAtRisk (x1 : Int32) (x2 : Int32) (x3 : Int32) (S : xs_T) (K : Option Nat → xs_T → Prop) : Prop := ((¬ x1 = 1 → v_X9_rowAtRisk_10 K (x1) (x2) S) ∧ (x1 = 1 → v_X9_rowAtRisk_10 K (x1) (x3) S))
set_option maxHeartbeats 4000000 in
set_option maxRecDepth 100000 in
theorem j_X9_rowAtRisk_10 {l : Launch} {p : Program} {e : Env} {s : State} {m : MethodId} {args : Array Value} {below : List Frame} {meth : Method} {c : Code} {Z : xz_T} {et : Nat → Nat} {Nn : Nat → Nat} {K : Option Nat → xs_T → Prop} (X : CallFix p m c cX9_rowAtRisk 7 s args (wq yX9_rowAtRisk cX9_rowAtRisk 7 (some (.object "PinBarrels$Row"))) RX9) (hk : xk Z s) (hr : meth.sig.returnType = (some (.object "PinBarrels$Row"))) (hlocks : meth.locks = false) : ∀ (a1 : Int32) (t0 : Int32) (S : xs_T) (H : Heap) (locs : List Loc) (ls : Array Slot), v_X9_rowAtRisk_10 K a1 t0 S → S.2.2.2.2 = Nn → wd Z et S H → xl Z locs → lv_has ls 7 [(0, .ref (et (32))), (1, .int (a1))] → W p l e (headSpec (wq yX9_rowAtRisk cX9_rowAtRisk 7 (some (.object "PinBarrels$Row"))) { frames := 2, cells := 0, slots := 0, locals := 42 }).room s m args below meth c H locs 0 0 (MQ below (xQq Z et Nn K) args s 0 0 (fun q => Z.2.2.1 ≤ q)) (F0 m 10 ls [.int (t0)]) := by
  intro a1 t0 S H locs ls h hNN hw hl hv
  unfold v_X9_rowAtRisk_10 at h
  refine lv_istore (lv' := [(4, .int (t0)), (0, .ref (et (32))), (1, .int (a1))]) X.1 X.2.1 dX9_rowAtRisk_10 hv (by decide) rfl (fun ls hv => ?_)
  refine lv_iload_n X.1 X.2.1 dX9_rowAtRisk_12 rfl (lv_at hv 2 rfl) ?_
  refine lv_bipush (v := 12) X.1 X.2.1 dX9_rowAtRisk_13 (by decide) ?_
  refine lv_icmp_gt (tgt := 56) X.1 X.2.1 dX9_rowAtRisk_15 (by decide) (fun c_2 => ?_) (fun c_2 => ?_)
  · skip
    replace h := h.1 c_2
    refine lv_null X.1 X.2.1 dX9_rowAtRisk_56 ?_
    exact xt_q none X hr hlocks hNN hw hl h dX9_rowAtRisk_57
  · skip
    replace h := h.2 c_2
    refine lv_iload X.1 X.2.1 dX9_rowAtRisk_18 (lv_at hv 0 rfl) ?_
    refine xc_i (xr_S (n := 1) X hk hw hv.1 (c_X9_isSpindle l Z et S (t0) _ h) (tb_S tw_201 tw_199 tw_200 tw_39) rfl rfl (by decide +kernel) ⟨Nat.le_of_ble_eq_true rfl, Nat.le_of_ble_eq_true rfl⟩ rfl (Nat.le_of_ble_eq_true rfl) dX9_rowAtRisk_20 ⟨Nat.le_of_ble_eq_true rfl, Nat.le_of_ble_eq_true rfl⟩) hl (fun r_4 S_3 H locs h hN hw hl => ?_)
    replace hNN := hN.trans hNN
    refine lv_if_eq (tgt := 56) X.1 X.2.1 dX9_rowAtRisk_23 (by decide) (fun c_5 => ?_) (fun c_5 => ?_)
    · skip
      replace h := h.1 c_5
      refine lv_null X.1 X.2.1 dX9_rowAtRisk_56 ?_
      exact xt_q none X hr hlocks hNN hw hl h dX9_rowAtRisk_57
    · skip
      replace h := h.2 c_5
      refine lv_aload_n X.1 X.2.1 dX9_rowAtRisk_26 rfl (lv_at hv 1 rfl) ?_
      refine xw_get X hk hw (i := 32) 0 xe_32 rfl tlX9 (by decide) rfl tw_164 dX9_rowAtRisk_27 ?_
      refine xw_getN X hk hw (i := 33) 0 xe_33 rfl tlX0 (by decide) rfl xn_5 dX9_rowAtRisk_30 ?_
      refine lv_iload X.1 X.2.1 dX9_rowAtRisk_33 (lv_at hv 0 rfl) ?_
      obtain ⟨j_6, e_7, b_8, h⟩ := h
      refine xw_qld X hk hw xe_37 (C := RX7) rfl e_7 b_8 (by decide) dX9_rowAtRisk_35 ?_
      refine xv_astore (lv' := [(6, va_rf (Option.map et (xQ S_3 37 j_6))), (4, .int (t0)), (0, .ref (et (32))), (1, .int (a1))]) X.1 X.2.1 dX9_rowAtRisk_36 hv (by decide) rfl (fun ls hv => ?_)
      refine xv_aload X.1 X.2.1 dX9_rowAtRisk_38 (lv_at hv 0 rfl) ?_
      obtain ⟨o_9, h⟩ := h
      refine xw_instR X hk hw o_9 tw_225 dX9_rowAtRisk_40 (fun u_10 c_11 o_12 => ?_) (fun c_11 => ?_)
      · skip
        replace h := h.1 u_10 c_11 o_12
        rw [c_11] at hv
        replace hv : lv_has ls 7 [(6, .ref (et (u_10))), (4, .int (t0)), (0, .ref (et (32))), (1, .int (a1))] := hv
        refine lv_if_eq (tgt := 56) X.1 X.2.1 dX9_rowAtRisk_43 (by decide) (fun c => absurd c (by decide)) (fun _ => ?_)
        refine lv_aload X.1 X.2.1 dX9_rowAtRisk_46 (lv_at hv 0 rfl) ?_
        refine xw_castR X hk hw o_12 tw_225 dX9_rowAtRisk_48 ?_
        refine lv_astore (lv' := [(5, .ref (et (u_10))), (6, .ref (et (u_10))), (4, .int (t0)), (0, .ref (et (32))), (1, .int (a1))]) X.1 X.2.1 dX9_rowAtRisk_51 hv (by decide) rfl (fun ls hv => ?_)
        refine lv_aload X.1 X.2.1 dX9_rowAtRisk_53 (lv_at hv 0 rfl) ?_
        exact xt_q (some (u_10)) X hr hlocks hNN hw hl h dX9_rowAtRisk_55
      · skip
        replace h := h.2 c_11
        refine lv_if_eq (tgt := 56) X.1 X.2.1 dX9_rowAtRisk_43 (by decide) (fun _ => ?_) (fun c => absurd c (by decide))
        refine lv_null X.1 X.2.1 dX9_rowAtRisk_56 ?_
        exact xt_q none X hr hlocks hNN hw hl h dX9_rowAtRisk_57
set_option maxHeartbeats 4000000 in
set_option maxRecDepth 100000 in
theorem c_X9_rowAtRisk (l : Launch) (Z : xz_T) (et : Nat → Nat) (S : xs_T) (x1 : Int32) (x2 : Int32) (x3 : Int32) (K : Option Nat → xs_T → Prop) (h : v_X9_rowAtRisk x1 x2 x3 S K) : Met l yX9_rowAtRisk (wq yX9_rowAtRisk cX9_rowAtRisk 7 (some (.object "PinBarrels$Row"))) { frames := 2, cells := 0, slots := 0, locals := 42 } (xPc Z et S [.ref (et (32)), .int (x1), .int (x2), .int (x3)]) (xQq Z et S.2.2.2.2 K) 0 0 (fun q => Z.2.2.1 ≤ q) := by
  refine Met.ofW (cc := cX9_rowAtRisk) (maxL := 7) (ret := (some (.object "PinBarrels$Row"))) (by decide +kernel) rfl ?_
  intro p e s m args below meth c s₁ B hml hv0
  obtain ⟨rfl, hk, hw⟩ := hv0
  have X : CallFix p m c cX9_rowAtRisk 7 s _ (wq yX9_rowAtRisk cX9_rowAtRisk 7 (some (.object "PinBarrels$Row"))) RX9 := ⟨B.exec, B.bytes, hml, findClass_of_methodNamed B.named, atoms_spec (ws := (wq yX9_rowAtRisk cX9_rowAtRisk 7 (some (.object "PinBarrels$Row")))) B.pre⟩
  have hr := B.returns
  have hlocks := B.notSynchronized
  have hl : xl Z [] := fun _ h => by cases h
  have hNN : S.2.2.2.2 = S.2.2.2.2 := rfl
  have hv := lv_entry [.ref (et (32)), .int (x1), .int (x2), .int (x3)] (n := 7) (Nat.le_of_ble_eq_true rfl)
  rw [lg_entry_eq]
  generalize (lg_sl [.ref (et (32)), .int (x1), .int (x2), .int (x3)] ++ List.replicate (7 - (lg_sl [.ref (et (32)), .int (x1), .int (x2), .int (x3)]).length) Slot.unset).toArray = ls at hv ⊢
  replace hv : lv_has ls 7 [(0, .ref (et (32))), (1, .int (x1)), (2, .int (x2)), (3, .int (x3))] := hv
  unfold v_X9_rowAtRisk at h
  refine lv_iload_n X.1 X.2.1 dX9_rowAtRisk_0 rfl (lv_at hv 1 rfl) ?_
  refine lv_iconst (v := 1) X.1 X.2.1 dX9_rowAtRisk_1 (by decide) ?_
  refine lv_icmp_ne (tgt := 9) X.1 X.2.1 dX9_rowAtRisk_2 (by decide) (fun c_1 => ?_) (fun c_1 => ?_)
  · skip
    replace h := h.1 c_1
    refine lv_iload_n X.1 X.2.1 dX9_rowAtRisk_9 rfl (lv_at hv 2 rfl) ?_
    exact j_X9_rowAtRisk_10 X hk hr hlocks (x1) (x2) S _ _ _ h hNN hw hl (lv_sub hv [0, 1] rfl)
  · skip
    replace h := h.2 c_1
    refine lv_iload_n X.1 X.2.1 dX9_rowAtRisk_5 rfl (lv_at hv 3 rfl) ?_
    refine lv_goto (tgt := 10) X.1 X.2.1 dX9_rowAtRisk_6 (by decide) ?_
    exact j_X9_rowAtRisk_10 X hk hr hlocks (x1) (x3) S _ _ _ h hNN hw hl (lv_sub hv [0, 1] rfl)
def v_X8_following (x1 : Int32) (S : xs_T) (K : Int32 → xs_T → Prop) : Prop := ∃ j_1 : Nat, x1 = nI j_1 ∧ j_1 < 60 ∧ ((¬ (xI S 42 j_1) = 13 → ∃ j_5 : Nat, x1 = nI j_5 ∧ j_5 < 60 ∧ (((xI S 42 j_5) = 14 → ∃ j_9 : Nat, x1 = nI j_9 ∧ j_9 < 60 ∧ ∃ j_12 : Nat, x1 = nI j_12 ∧ j_12 < 60 ∧ (((xI S 45 j_12) ≤ (xI S 46 j_9) → ∃ j_16 : Nat, x1 = nI j_16 ∧ j_16 < 60 ∧ ∀ S_19 : xs_T, S_19 = sI S 46 j_16 (0) → K ((x1 + 1)) S_19) ∧ (¬ (xI S 45 j_12) ≤ (xI S 46 j_9) → ∃ j_21 : Nat, x1 = nI j_21 ∧ j_21 < 60 ∧ ∃ j_24 : Nat, x1 = nI j_24 ∧ j_24 < 60 ∧ ∀ S_27 : xs_T, S_27 = sI S 46 j_24 (((xI S 46 j_21) + 1)) → ∃ j_29 : Nat, x1 = nI j_29 ∧ j_29 < 60 ∧ v_J9_max_7cf53 (0) ((x1 - (xI S_27 44 j_29))) S_27 (fun (r_33 : Int32) (S_32 : xs_T) => K (r_33) S_32)))) ∧ (¬ (xI S 42 j_5) = 14 → K ((x1 + 1)) S))) ∧ ((xI S 42 j_1) = 13 → ∃ j_34 : Nat, x1 = nI j_34 ∧ j_34 < 60 ∧ K (((x1 + 1) + (xI S 45 j_34))) S))
set_option maxHeartbeats 4000000 in
set_option maxRecDepth 100000 in
theorem c_X8_following (l : Launch) (Z : xz_T) (et : Nat → Nat) (S : xs_T) (x1 : Int32) (K : Int32 → xs_T → Prop) (h : v_X8_following x1 S K) : Met l yX8_following (wq yX8_following cX8_following 2 (some .int)) { frames := 1, cells := 0, slots := 0, locals := 21 } (xPc Z et S [.ref (et (34)), .int (x1)]) (xQi Z et S.2.2.2.2 K) 0 0 (fun q => Z.2.2.1 ≤ q) := by
  refine Met.ofW (cc := cX8_following) (maxL := 2) (ret := (some .int)) (by decide +kernel) rfl ?_
  intro p e s m args below meth c s₁ B hml hv0
  obtain ⟨rfl, hk, hw⟩ := hv0
  have X : CallFix p m c cX8_following 2 s _ (wq yX8_following cX8_following 2 (some .int)) RX8 := ⟨B.exec, B.bytes, hml, findClass_of_methodNamed B.named, atoms_spec (ws := (wq yX8_following cX8_following 2 (some .int))) B.pre⟩
  have hr := B.returns
  have hlocks := B.notSynchronized
  have hl : xl Z [] := fun _ h => by cases h
  have hNN : S.2.2.2.2 = S.2.2.2.2 := rfl
  have hv := lv_entry [.ref (et (34)), .int (x1)] (n := 2) (Nat.le_of_ble_eq_true rfl)
  rw [lg_entry_eq]
  generalize (lg_sl [.ref (et (34)), .int (x1)] ++ List.replicate (2 - (lg_sl [.ref (et (34)), .int (x1)]).length) Slot.unset).toArray = ls at hv ⊢
  replace hv : lv_has ls 2 [(0, .ref (et (34))), (1, .int (x1))] := hv
  unfold v_X8_following at h
  refine lv_aload_n X.1 X.2.1 dX8_following_0 rfl (lv_at hv 0 rfl) ?_
  refine xw_get X hk hw (i := 34) 0 xe_34 rfl tlX8 (by decide) rfl tw_118 dX8_following_1 ?_
  refine lv_iload_n X.1 X.2.1 dX8_following_4 rfl (lv_at hv 1 rfl) ?_
  obtain ⟨j_1, e_2, b_3, h⟩ := h
  refine xw_ild X hk hw xe_42 e_2 b_3 (by decide) dX8_following_5 ?_
  refine lv_bipush (v := 13) X.1 X.2.1 dX8_following_6 (by decide) ?_
  refine lv_icmp_ne (tgt := 22) X.1 X.2.1 dX8_following_8 (by decide) (fun c_4 => ?_) (fun c_4 => ?_)
  · skip
    replace h := h.1 c_4
    refine lv_aload_n X.1 X.2.1 dX8_following_22 rfl (lv_at hv 0 rfl) ?_
    refine xw_get X hk hw (i := 34) 0 xe_34 rfl tlX8 (by decide) rfl tw_118 dX8_following_23 ?_
    refine lv_iload_n X.1 X.2.1 dX8_following_26 rfl (lv_at hv 1 rfl) ?_
    obtain ⟨j_5, e_6, b_7, h⟩ := h
    refine xw_ild X hk hw xe_42 e_6 b_7 (by decide) dX8_following_27 ?_
    refine lv_bipush (v := 14) X.1 X.2.1 dX8_following_28 (by decide) ?_
    refine lv_icmp_eq (tgt := 37) X.1 X.2.1 dX8_following_30 (by decide) (fun c_8 => ?_) (fun c_8 => ?_)
    · skip
      replace h := h.1 c_8
      refine lv_aload_n X.1 X.2.1 dX8_following_37 rfl (lv_at hv 0 rfl) ?_
      refine xw_get X hk hw (i := 34) 4 xe_34 rfl tlX8 (by decide) rfl tw_126 dX8_following_38 ?_
      refine lv_iload_n X.1 X.2.1 dX8_following_41 rfl (lv_at hv 1 rfl) ?_
      obtain ⟨j_9, e_10, b_11, h⟩ := h
      refine xw_ild X hk hw xe_46 e_10 b_11 (by decide) dX8_following_42 ?_
      refine lv_aload_n X.1 X.2.1 dX8_following_43 rfl (lv_at hv 0 rfl) ?_
      refine xw_get X hk hw (i := 34) 3 xe_34 rfl tlX8 (by decide) rfl tw_124 dX8_following_44 ?_
      refine lv_iload_n X.1 X.2.1 dX8_following_47 rfl (lv_at hv 1 rfl) ?_
      obtain ⟨j_12, e_13, b_14, h⟩ := h
      refine xw_ild X hk hw xe_45 e_13 b_14 (by decide) dX8_following_48 ?_
      refine lv_icmp_ge (tgt := 75) X.1 X.2.1 dX8_following_49 (by decide) (fun c_15 => ?_) (fun c_15 => ?_)
      · skip
        replace h := h.1 c_15
        refine lv_aload_n X.1 X.2.1 dX8_following_75 rfl (lv_at hv 0 rfl) ?_
        refine xw_get X hk hw (i := 34) 4 xe_34 rfl tlX8 (by decide) rfl tw_126 dX8_following_76 ?_
        refine lv_iload_n X.1 X.2.1 dX8_following_79 rfl (lv_at hv 1 rfl) ?_
        refine lv_iconst (v := 0) X.1 X.2.1 dX8_following_80 (by decide) ?_
        obtain ⟨j_16, e_17, b_18, h⟩ := h
        refine xw_ist X hk hw hl xe_46 rfl e_17 b_18 (by decide) dX8_following_81 (fun H locs hw hl => ?_)
        obtain ⟨S_19, e_20⟩ : ∃ T : xs_T, T = sI S 46 j_16 (0) := ⟨_, rfl⟩
        rw [← e_20] at hw
        replace h := h S_19 e_20
        have hN : S_19.2.2.2.2 = S.2.2.2.2 := by rw [e_20]; rfl
        replace hNN := hN.trans hNN
        refine lv_iload_n X.1 X.2.1 dX8_following_82 rfl (lv_at hv 1 rfl) ?_
        refine lv_iconst (v := 1) X.1 X.2.1 dX8_following_83 (by decide) ?_
        refine lv_iadd X.1 X.2.1 dX8_following_84 ?_
        exact xt_i X hr hlocks hNN hw hl h dX8_following_85
      · skip
        replace h := h.2 c_15
        refine lv_aload_n X.1 X.2.1 dX8_following_52 rfl (lv_at hv 0 rfl) ?_
        refine xw_get X hk hw (i := 34) 4 xe_34 rfl tlX8 (by decide) rfl tw_126 dX8_following_53 ?_
        refine lv_iload_n X.1 X.2.1 dX8_following_56 rfl (lv_at hv 1 rfl) ?_
        refine lv_dup2_11 X.1 X.2.1 dX8_following_57 rfl rfl ?_
        obtain ⟨j_21, e_22, b_23, h⟩ := h
        refine xw_ild X hk hw xe_46 e_22 b_23 (by decide) dX8_following_58 ?_
        refine lv_iconst (v := 1) X.1 X.2.1 dX8_following_59 (by decide) ?_
        refine lv_iadd X.1 X.2.1 dX8_following_60 ?_
        obtain ⟨j_24, e_25, b_26, h⟩ := h
        refine xw_ist X hk hw hl xe_46 rfl e_25 b_26 (by decide) dX8_following_61 (fun H locs hw hl => ?_)
        obtain ⟨S_27, e_28⟩ : ∃ T : xs_T, T = sI S 46 j_24 (((xI S 46 j_21) + 1)) := ⟨_, rfl⟩
        rw [← e_28] at hw
        replace h := h S_27 e_28
        have hN : S_27.2.2.2.2 = S.2.2.2.2 := by rw [e_28]; rfl
        replace hNN := hN.trans hNN
        refine lv_iconst (v := 0) X.1 X.2.1 dX8_following_62 (by decide) ?_
        refine lv_iload_n X.1 X.2.1 dX8_following_63 rfl (lv_at hv 1 rfl) ?_
        refine lv_aload_n X.1 X.2.1 dX8_following_64 rfl (lv_at hv 0 rfl) ?_
        refine xw_get X hk hw (i := 34) 2 xe_34 rfl tlX8 (by decide) rfl tw_122 dX8_following_65 ?_
        refine lv_iload_n X.1 X.2.1 dX8_following_68 rfl (lv_at hv 1 rfl) ?_
        obtain ⟨j_29, e_30, b_31, h⟩ := h
        refine xw_ild X hk hw xe_44 e_30 b_31 (by decide) dX8_following_69 ?_
        refine lv_isub X.1 X.2.1 dX8_following_70 ?_
        refine xc_i (xr_S (n := 2) X hk hw hv.1 (c_J9_max_7cf53 l Z et S_27 (0) ((x1 - (xI S_27 44 j_29))) _ h) (tb_S tw_450 tw_448 tw_449 tw_46) rfl rfl (by decide +kernel) ⟨Nat.le_of_ble_eq_true rfl, Nat.le_of_ble_eq_true rfl⟩ rfl (Nat.le_of_ble_eq_true rfl) dX8_following_71 ⟨Nat.le_of_ble_eq_true rfl, Nat.le_of_ble_eq_true rfl⟩) hl (fun r_33 S_32 H locs h hN hw hl => ?_)
        replace hNN := hN.trans hNN
        exact xt_i X hr hlocks hNN hw hl h dX8_following_74
    · skip
      replace h := h.2 c_8
      refine lv_iload_n X.1 X.2.1 dX8_following_33 rfl (lv_at hv 1 rfl) ?_
      refine lv_iconst (v := 1) X.1 X.2.1 dX8_following_34 (by decide) ?_
      refine lv_iadd X.1 X.2.1 dX8_following_35 ?_
      exact xt_i X hr hlocks hNN hw hl h dX8_following_36
  · skip
    replace h := h.2 c_4
    refine lv_iload_n X.1 X.2.1 dX8_following_11 rfl (lv_at hv 1 rfl) ?_
    refine lv_iconst (v := 1) X.1 X.2.1 dX8_following_12 (by decide) ?_
    refine lv_iadd X.1 X.2.1 dX8_following_13 ?_
    refine lv_aload_n X.1 X.2.1 dX8_following_14 rfl (lv_at hv 0 rfl) ?_
    refine xw_get X hk hw (i := 34) 3 xe_34 rfl tlX8 (by decide) rfl tw_124 dX8_following_15 ?_
    refine lv_iload_n X.1 X.2.1 dX8_following_18 rfl (lv_at hv 1 rfl) ?_
    obtain ⟨j_34, e_35, b_36, h⟩ := h
    refine xw_ild X hk hw xe_45 e_35 b_36 (by decide) dX8_following_19 ?_
    refine lv_iadd X.1 X.2.1 dX8_following_20 ?_
    exact xt_i X hr hlocks hNN hw hl h dX8_following_21
def v_X8_forgetAgains_2 (K : xs_T → Prop) : Nat → Int32 → xs_T → Prop
  | 0, _, _ => False
  | n + 1, a1, S => ((60 ≤ a1 → K S) ∧ (¬ 60 ≤ a1 → ∃ j_3 : Nat, a1 = nI j_3 ∧ j_3 < 60 ∧ ∀ S_6 : xs_T, S_6 = sI S 46 j_3 (0) → v_X8_forgetAgains_2 K n ((a1 + 1)) S_6))
def v_X8_forgetAgains  (S : xs_T) (K : xs_T → Prop) : Prop := ∃ n, v_X8_forgetAgains_2 K n (0) S
set_option maxHeartbeats 4000000 in
set_option maxRecDepth 100000 in
theorem j_X8_forgetAgains_2 {l : Launch} {p : Program} {e : Env} {s : State} {m : MethodId} {args : Array Value} {below : List Frame} {meth : Method} {c : Code} {Z : xz_T} {et : Nat → Nat} {Nn : Nat → Nat} {K : xs_T → Prop} (X : CallFix p m c cX8_forgetAgains 2 s args (wq yX8_forgetAgains cX8_forgetAgains 2 none) RX8) (hk : xk Z s) (hr : meth.sig.returnType = none) (hlocks : meth.locks = false) : ∀ (n : Nat) (a1 : Int32) (S : xs_T) (H : Heap) (locs : List Loc) (ls : Array Slot), v_X8_forgetAgains_2 K n a1 S → S.2.2.2.2 = Nn → wd Z et S H → xl Z locs → lv_has ls 2 [(0, .ref (et (34))), (1, .int (a1))] → W p l e (headSpec (wq yX8_forgetAgains cX8_forgetAgains 2 none) { frames := 0, cells := 0, slots := 0, locals := 0 }).room s m args below meth c H locs 0 0 (MQ below (xQv Z et Nn K) args s 0 0 (fun q => Z.2.2.1 ≤ q)) (F0 m 2 ls []) := by
  intro n
  induction n with
  | zero =>
    intro a1 S H locs ls h hNN hw hl hv
    exact False.elim h
  | succ n ih =>
    intro a1 S H locs ls h hNN hw hl hv
    rw [v_X8_forgetAgains_2] at h
    refine lv_iload_n X.1 X.2.1 dX8_forgetAgains_2 rfl (lv_at hv 1 rfl) ?_
    refine lv_bipush (v := 60) X.1 X.2.1 dX8_forgetAgains_3 (by decide) ?_
    refine lv_icmp_ge (tgt := 21) X.1 X.2.1 dX8_forgetAgains_5 (by decide) (fun c_2 => ?_) (fun c_2 => ?_)
    · skip
      replace h := h.1 c_2
      exact xt_v X hr hlocks hNN hw hl h dX8_forgetAgains_21
    · skip
      replace h := h.2 c_2
      refine lv_aload_n X.1 X.2.1 dX8_forgetAgains_8 rfl (lv_at hv 0 rfl) ?_
      refine xw_get X hk hw (i := 34) 4 xe_34 rfl tlX8 (by decide) rfl tw_126 dX8_forgetAgains_9 ?_
      refine lv_iload_n X.1 X.2.1 dX8_forgetAgains_12 rfl (lv_at hv 1 rfl) ?_
      refine lv_iconst (v := 0) X.1 X.2.1 dX8_forgetAgains_13 (by decide) ?_
      obtain ⟨j_3, e_4, b_5, h⟩ := h
      refine xw_ist X hk hw hl xe_46 rfl e_4 b_5 (by decide) dX8_forgetAgains_14 (fun H locs hw hl => ?_)
      obtain ⟨S_6, e_7⟩ : ∃ T : xs_T, T = sI S 46 j_3 (0) := ⟨_, rfl⟩
      rw [← e_7] at hw
      replace h := h S_6 e_7
      have hN : S_6.2.2.2.2 = S.2.2.2.2 := by rw [e_7]; rfl
      replace hNN := hN.trans hNN
      refine lv_iinc (v := (a1 + 1)) (lv' := [(1, .int ((a1 + 1))), (0, .ref (et (34)))]) X.1 X.2.1 dX8_forgetAgains_15 hv (k := 1) rfl rfl (by decide) rfl (fun ls hv => ?_)
      refine lv_goto (tgt := 2) X.1 X.2.1 dX8_forgetAgains_18 (by decide) ?_
      exact ih ((a1 + 1)) S_6 _ _ _ h hNN hw hl (lv_sub hv [1, 0] rfl)
set_option maxHeartbeats 4000000 in
set_option maxRecDepth 100000 in
theorem c_X8_forgetAgains (l : Launch) (Z : xz_T) (et : Nat → Nat) (S : xs_T)  (K : xs_T → Prop) (h : v_X8_forgetAgains  S K) : Met l yX8_forgetAgains (wq yX8_forgetAgains cX8_forgetAgains 2 none) { frames := 0, cells := 0, slots := 0, locals := 0 } (xPc Z et S [.ref (et (34))]) (xQv Z et S.2.2.2.2 K) 0 0 (fun q => Z.2.2.1 ≤ q) := by
  refine Met.ofW (cc := cX8_forgetAgains) (maxL := 2) (ret := none) (by decide +kernel) rfl ?_
  intro p e s m args below meth c s₁ B hml hv0
  obtain ⟨rfl, hk, hw⟩ := hv0
  have X : CallFix p m c cX8_forgetAgains 2 s _ (wq yX8_forgetAgains cX8_forgetAgains 2 none) RX8 := ⟨B.exec, B.bytes, hml, findClass_of_methodNamed B.named, atoms_spec (ws := (wq yX8_forgetAgains cX8_forgetAgains 2 none)) B.pre⟩
  have hr := B.returns
  have hlocks := B.notSynchronized
  have hl : xl Z [] := fun _ h => by cases h
  have hNN : S.2.2.2.2 = S.2.2.2.2 := rfl
  have hv := lv_entry [.ref (et (34))] (n := 2) (Nat.le_of_ble_eq_true rfl)
  rw [lg_entry_eq]
  generalize (lg_sl [.ref (et (34))] ++ List.replicate (2 - (lg_sl [.ref (et (34))]).length) Slot.unset).toArray = ls at hv ⊢
  replace hv : lv_has ls 2 [(0, .ref (et (34)))] := hv
  unfold v_X8_forgetAgains at h
  refine lv_iconst (v := 0) X.1 X.2.1 dX8_forgetAgains_0 (by decide) ?_
  refine lv_istore_n (lv' := [(1, .int (0)), (0, .ref (et (34)))]) X.1 X.2.1 dX8_forgetAgains_1 rfl hv (by decide) rfl (fun ls hv => ?_)
  obtain ⟨n_1, h⟩ := h
  exact j_X8_forgetAgains_2 X hk hr hlocks n_1 (0) S _ _ _ h hNN hw hl (lv_sub hv [1, 0] rfl)
def v_X8_isWhen (x1 : Int32) (S : xs_T) (K : Int32 → xs_T → Prop) : Prop := ((x1 < 0 → K (0) S) ∧ (¬ x1 < 0 → (((xF S 34 5) ≤ x1 → K (0) S) ∧ (¬ (xF S 34 5) ≤ x1 → ∃ j_3 : Nat, x1 = nI j_3 ∧ j_3 < 60 ∧ ((¬ (xI S 42 j_3) = 13 → K (0) S) ∧ ((xI S 42 j_3) = 13 → K (1) S))))))
set_option maxHeartbeats 4000000 in
set_option maxRecDepth 100000 in
theorem c_X8_isWhen (l : Launch) (Z : xz_T) (et : Nat → Nat) (S : xs_T) (x1 : Int32) (K : Int32 → xs_T → Prop) (h : v_X8_isWhen x1 S K) : Met l yX8_isWhen (wq yX8_isWhen cX8_isWhen 2 (some .boolean)) { frames := 0, cells := 0, slots := 0, locals := 0 } (xPc Z et S [.ref (et (34)), .int (x1)]) (xQi Z et S.2.2.2.2 K) 0 0 (fun q => Z.2.2.1 ≤ q) := by
  refine Met.ofW (cc := cX8_isWhen) (maxL := 2) (ret := (some .boolean)) (by decide +kernel) rfl ?_
  intro p e s m args below meth c s₁ B hml hv0
  obtain ⟨rfl, hk, hw⟩ := hv0
  have X : CallFix p m c cX8_isWhen 2 s _ (wq yX8_isWhen cX8_isWhen 2 (some .boolean)) RX8 := ⟨B.exec, B.bytes, hml, findClass_of_methodNamed B.named, atoms_spec (ws := (wq yX8_isWhen cX8_isWhen 2 (some .boolean))) B.pre⟩
  have hr := B.returns
  have hlocks := B.notSynchronized
  have hl : xl Z [] := fun _ h => by cases h
  have hNN : S.2.2.2.2 = S.2.2.2.2 := rfl
  have hv := lv_entry [.ref (et (34)), .int (x1)] (n := 2) (Nat.le_of_ble_eq_true rfl)
  rw [lg_entry_eq]
  generalize (lg_sl [.ref (et (34)), .int (x1)] ++ List.replicate (2 - (lg_sl [.ref (et (34)), .int (x1)]).length) Slot.unset).toArray = ls at hv ⊢
  replace hv : lv_has ls 2 [(0, .ref (et (34))), (1, .int (x1))] := hv
  unfold v_X8_isWhen at h
  refine lv_iload_n X.1 X.2.1 dX8_isWhen_0 rfl (lv_at hv 1 rfl) ?_
  refine lv_if_lt (tgt := 27) X.1 X.2.1 dX8_isWhen_1 (by decide) (fun c_1 => ?_) (fun c_1 => ?_)
  · skip
    replace h := h.1 c_1
    refine lv_iconst (v := 0) X.1 X.2.1 dX8_isWhen_27 (by decide) ?_
    exact xt_z X hr hlocks hNN hw hl (by decide) h dX8_isWhen_28
  · skip
    replace h := h.2 c_1
    refine lv_iload_n X.1 X.2.1 dX8_isWhen_4 rfl (lv_at hv 1 rfl) ?_
    refine lv_aload_n X.1 X.2.1 dX8_isWhen_5 rfl (lv_at hv 0 rfl) ?_
    refine xw_get X hk hw (i := 34) 5 xe_34 rfl tlX8 (by decide) rfl tw_127 dX8_isWhen_6 ?_
    refine lv_icmp_ge (tgt := 27) X.1 X.2.1 dX8_isWhen_9 (by decide) (fun c_2 => ?_) (fun c_2 => ?_)
    · skip
      replace h := h.1 c_2
      refine lv_iconst (v := 0) X.1 X.2.1 dX8_isWhen_27 (by decide) ?_
      exact xt_z X hr hlocks hNN hw hl (by decide) h dX8_isWhen_28
    · skip
      replace h := h.2 c_2
      refine lv_aload_n X.1 X.2.1 dX8_isWhen_12 rfl (lv_at hv 0 rfl) ?_
      refine xw_get X hk hw (i := 34) 0 xe_34 rfl tlX8 (by decide) rfl tw_118 dX8_isWhen_13 ?_
      refine lv_iload_n X.1 X.2.1 dX8_isWhen_16 rfl (lv_at hv 1 rfl) ?_
      obtain ⟨j_3, e_4, b_5, h⟩ := h
      refine xw_ild X hk hw xe_42 e_4 b_5 (by decide) dX8_isWhen_17 ?_
      refine lv_bipush (v := 13) X.1 X.2.1 dX8_isWhen_18 (by decide) ?_
      refine lv_icmp_ne (tgt := 27) X.1 X.2.1 dX8_isWhen_20 (by decide) (fun c_6 => ?_) (fun c_6 => ?_)
      · skip
        replace h := h.1 c_6
        refine lv_iconst (v := 0) X.1 X.2.1 dX8_isWhen_27 (by decide) ?_
        exact xt_z X hr hlocks hNN hw hl (by decide) h dX8_isWhen_28
      · skip
        replace h := h.2 c_6
        refine lv_iconst (v := 1) X.1 X.2.1 dX8_isWhen_23 (by decide) ?_
        refine lv_goto (tgt := 28) X.1 X.2.1 dX8_isWhen_24 (by decide) ?_
        exact xt_z X hr hlocks hNN hw hl (by decide) h dX8_isWhen_28
def v_X8_meeting_7 (K : Int32 → xs_T → Prop) : Nat → Int32 → Int32 → Int32 → xs_T → Prop
  | 0, _, _, _, _ => False
  | n + 1, a2, a3, a4, S => ((60 ≤ a4 → K ((-1)) S) ∧ (¬ 60 ≤ a4 → v_X8_isWhen (a3) S (fun (r_4 : Int32) (S_3 : xs_T) => ((r_4 = 0 → K ((-1)) S_3) ∧ (¬ r_4 = 0 → ∃ j_6 : Nat, a3 = nI j_6 ∧ j_6 < 60 ∧ (((xI S_3 43 j_6) = 0 → K ((a3 + 1)) S_3) ∧ (¬ (xI S_3 43 j_6) = 0 → ∃ j_10 : Nat, a3 = nI j_10 ∧ j_10 < 60 ∧ ((¬ (xI S_3 43 j_10) = a2 → ∃ j_14 : Nat, a3 = nI j_14 ∧ j_14 < 60 ∧ v_X8_meeting_7 K n (a2) ((a3 + ((xI S_3 45 j_14) + 1))) ((a4 + 1)) S_3) ∧ ((xI S_3 43 j_10) = a2 → K ((a3 + 1)) S_3)))))))))
def v_X8_meeting (x1 : Int32) (x2 : Int32) (S : xs_T) (K : Int32 → xs_T → Prop) : Prop := ∃ n, v_X8_meeting_7 K n (x2) ((x1 + 1)) (0) S
set_option maxHeartbeats 4000000 in
set_option maxRecDepth 100000 in
theorem j_X8_meeting_7 {l : Launch} {p : Program} {e : Env} {s : State} {m : MethodId} {args : Array Value} {below : List Frame} {meth : Method} {c : Code} {Z : xz_T} {et : Nat → Nat} {Nn : Nat → Nat} {K : Int32 → xs_T → Prop} (X : CallFix p m c cX8_meeting 5 s args (wq yX8_meeting cX8_meeting 5 (some .int)) RX8) (hk : xk Z s) (hr : meth.sig.returnType = (some .int)) (hlocks : meth.locks = false) : ∀ (n : Nat) (a2 : Int32) (a3 : Int32) (a4 : Int32) (S : xs_T) (H : Heap) (locs : List Loc) (ls : Array Slot), v_X8_meeting_7 K n a2 a3 a4 S → S.2.2.2.2 = Nn → wd Z et S H → xl Z locs → lv_has ls 5 [(0, .ref (et (34))), (2, .int (a2)), (3, .int (a3)), (4, .int (a4))] → W p l e (headSpec (wq yX8_meeting cX8_meeting 5 (some .int)) { frames := 1, cells := 0, slots := 0, locals := 21 }).room s m args below meth c H locs 0 0 (MQ below (xQi Z et Nn K) args s 0 0 (fun q => Z.2.2.1 ≤ q)) (F0 m 7 ls []) := by
  intro n
  induction n with
  | zero =>
    intro a2 a3 a4 S H locs ls h hNN hw hl hv
    exact False.elim h
  | succ n ih =>
    intro a2 a3 a4 S H locs ls h hNN hw hl hv
    rw [v_X8_meeting_7] at h
    refine lv_iload X.1 X.2.1 dX8_meeting_7 (lv_at hv 3 rfl) ?_
    refine lv_bipush (v := 60) X.1 X.2.1 dX8_meeting_9 (by decide) ?_
    refine lv_icmp_ge (tgt := 62) X.1 X.2.1 dX8_meeting_11 (by decide) (fun c_2 => ?_) (fun c_2 => ?_)
    · skip
      replace h := h.1 c_2
      refine lv_iconst (v := (-1)) X.1 X.2.1 dX8_meeting_62 (by decide) ?_
      exact xt_i X hr hlocks hNN hw hl h dX8_meeting_63
    · skip
      replace h := h.2 c_2
      refine lv_aload_n X.1 X.2.1 dX8_meeting_14 rfl (lv_at hv 0 rfl) ?_
      refine lv_iload_n X.1 X.2.1 dX8_meeting_15 rfl (lv_at hv 2 rfl) ?_
      refine xc_i (xr_V (n := 1) (As := [.int (a3)]) (i := 34) X hk hw hv.1 (c_X8_isWhen l Z et S (a3) _ h) (tb_V tw_458 tw_455 tw_457 tw_16 tw_42) xe_34 rfl rfl rfl rfl (by decide +kernel) ⟨Nat.le_of_ble_eq_true rfl, Nat.le_of_ble_eq_true rfl⟩ rfl (Nat.le_of_ble_eq_true rfl) dX8_meeting_16 ⟨Nat.le_of_ble_eq_true rfl, Nat.le_of_ble_eq_true rfl⟩) hl (fun r_4 S_3 H locs h hN hw hl => ?_)
      replace hNN := hN.trans hNN
      refine lv_if_eq (tgt := 62) X.1 X.2.1 dX8_meeting_19 (by decide) (fun c_5 => ?_) (fun c_5 => ?_)
      · skip
        replace h := h.1 c_5
        refine lv_iconst (v := (-1)) X.1 X.2.1 dX8_meeting_62 (by decide) ?_
        exact xt_i X hr hlocks hNN hw hl h dX8_meeting_63
      · skip
        replace h := h.2 c_5
        refine lv_aload_n X.1 X.2.1 dX8_meeting_22 rfl (lv_at hv 0 rfl) ?_
        refine xw_get X hk hw (i := 34) 1 xe_34 rfl tlX8 (by decide) rfl tw_120 dX8_meeting_23 ?_
        refine lv_iload_n X.1 X.2.1 dX8_meeting_26 rfl (lv_at hv 2 rfl) ?_
        obtain ⟨j_6, e_7, b_8, h⟩ := h
        refine xw_ild X hk hw xe_43 e_7 b_8 (by decide) dX8_meeting_27 ?_
        refine lv_if_eq (tgt := 41) X.1 X.2.1 dX8_meeting_28 (by decide) (fun c_9 => ?_) (fun c_9 => ?_)
        · skip
          replace h := h.1 c_9
          refine lv_iload_n X.1 X.2.1 dX8_meeting_41 rfl (lv_at hv 2 rfl) ?_
          refine lv_iconst (v := 1) X.1 X.2.1 dX8_meeting_42 (by decide) ?_
          refine lv_iadd X.1 X.2.1 dX8_meeting_43 ?_
          exact xt_i X hr hlocks hNN hw hl h dX8_meeting_44
        · skip
          replace h := h.2 c_9
          refine lv_aload_n X.1 X.2.1 dX8_meeting_31 rfl (lv_at hv 0 rfl) ?_
          refine xw_get X hk hw (i := 34) 1 xe_34 rfl tlX8 (by decide) rfl tw_120 dX8_meeting_32 ?_
          refine lv_iload_n X.1 X.2.1 dX8_meeting_35 rfl (lv_at hv 2 rfl) ?_
          obtain ⟨j_10, e_11, b_12, h⟩ := h
          refine xw_ild X hk hw xe_43 e_11 b_12 (by decide) dX8_meeting_36 ?_
          refine lv_iload_n X.1 X.2.1 dX8_meeting_37 rfl (lv_at hv 1 rfl) ?_
          refine lv_icmp_ne (tgt := 45) X.1 X.2.1 dX8_meeting_38 (by decide) (fun c_13 => ?_) (fun c_13 => ?_)
          · skip
            replace h := h.1 c_13
            refine lv_iload_n X.1 X.2.1 dX8_meeting_45 rfl (lv_at hv 2 rfl) ?_
            refine lv_aload_n X.1 X.2.1 dX8_meeting_46 rfl (lv_at hv 0 rfl) ?_
            refine xw_get X hk hw (i := 34) 3 xe_34 rfl tlX8 (by decide) rfl tw_124 dX8_meeting_47 ?_
            refine lv_iload_n X.1 X.2.1 dX8_meeting_50 rfl (lv_at hv 2 rfl) ?_
            obtain ⟨j_14, e_15, b_16, h⟩ := h
            refine xw_ild X hk hw xe_45 e_15 b_16 (by decide) dX8_meeting_51 ?_
            refine lv_iconst (v := 1) X.1 X.2.1 dX8_meeting_52 (by decide) ?_
            refine lv_iadd X.1 X.2.1 dX8_meeting_53 ?_
            refine lv_iadd X.1 X.2.1 dX8_meeting_54 ?_
            refine lv_istore_n (lv' := [(3, .int ((a3 + ((xI S_3 45 j_14) + 1)))), (0, .ref (et (34))), (2, .int (a2)), (4, .int (a4))]) X.1 X.2.1 dX8_meeting_55 rfl hv (by decide) rfl (fun ls hv => ?_)
            refine lv_iinc (v := (a4 + 1)) (lv' := [(4, .int ((a4 + 1))), (3, .int ((a3 + ((xI S_3 45 j_14) + 1)))), (0, .ref (et (34))), (2, .int (a2))]) X.1 X.2.1 dX8_meeting_56 hv (k := 3) rfl rfl (by decide) rfl (fun ls hv => ?_)
            refine lv_goto (tgt := 7) X.1 X.2.1 dX8_meeting_59 (by decide) ?_
            exact ih (a2) ((a3 + ((xI S_3 45 j_14) + 1))) ((a4 + 1)) S_3 _ _ _ h hNN hw hl (lv_sub hv [2, 3, 1, 0] rfl)
          · skip
            replace h := h.2 c_13
            refine lv_iload_n X.1 X.2.1 dX8_meeting_41 rfl (lv_at hv 2 rfl) ?_
            refine lv_iconst (v := 1) X.1 X.2.1 dX8_meeting_42 (by decide) ?_
            refine lv_iadd X.1 X.2.1 dX8_meeting_43 ?_
            exact xt_i X hr hlocks hNN hw hl h dX8_meeting_44
set_option maxHeartbeats 4000000 in
set_option maxRecDepth 100000 in
theorem c_X8_meeting (l : Launch) (Z : xz_T) (et : Nat → Nat) (S : xs_T) (x1 : Int32) (x2 : Int32) (K : Int32 → xs_T → Prop) (h : v_X8_meeting x1 x2 S K) : Met l yX8_meeting (wq yX8_meeting cX8_meeting 5 (some .int)) { frames := 1, cells := 0, slots := 0, locals := 21 } (xPc Z et S [.ref (et (34)), .int (x1), .int (x2)]) (xQi Z et S.2.2.2.2 K) 0 0 (fun q => Z.2.2.1 ≤ q) := by
  refine Met.ofW (cc := cX8_meeting) (maxL := 5) (ret := (some .int)) (by decide +kernel) rfl ?_
  intro p e s m args below meth c s₁ B hml hv0
  obtain ⟨rfl, hk, hw⟩ := hv0
  have X : CallFix p m c cX8_meeting 5 s _ (wq yX8_meeting cX8_meeting 5 (some .int)) RX8 := ⟨B.exec, B.bytes, hml, findClass_of_methodNamed B.named, atoms_spec (ws := (wq yX8_meeting cX8_meeting 5 (some .int))) B.pre⟩
  have hr := B.returns
  have hlocks := B.notSynchronized
  have hl : xl Z [] := fun _ h => by cases h
  have hNN : S.2.2.2.2 = S.2.2.2.2 := rfl
  have hv := lv_entry [.ref (et (34)), .int (x1), .int (x2)] (n := 5) (Nat.le_of_ble_eq_true rfl)
  rw [lg_entry_eq]
  generalize (lg_sl [.ref (et (34)), .int (x1), .int (x2)] ++ List.replicate (5 - (lg_sl [.ref (et (34)), .int (x1), .int (x2)]).length) Slot.unset).toArray = ls at hv ⊢
  replace hv : lv_has ls 5 [(0, .ref (et (34))), (1, .int (x1)), (2, .int (x2))] := hv
  unfold v_X8_meeting at h
  refine lv_iload_n X.1 X.2.1 dX8_meeting_0 rfl (lv_at hv 1 rfl) ?_
  refine lv_iconst (v := 1) X.1 X.2.1 dX8_meeting_1 (by decide) ?_
  refine lv_iadd X.1 X.2.1 dX8_meeting_2 ?_
  refine lv_istore_n (lv' := [(3, .int ((x1 + 1))), (0, .ref (et (34))), (1, .int (x1)), (2, .int (x2))]) X.1 X.2.1 dX8_meeting_3 rfl hv (by decide) rfl (fun ls hv => ?_)
  refine lv_iconst (v := 0) X.1 X.2.1 dX8_meeting_4 (by decide) ?_
  refine lv_istore (lv' := [(4, .int (0)), (3, .int ((x1 + 1))), (0, .ref (et (34))), (1, .int (x1)), (2, .int (x2))]) X.1 X.2.1 dX8_meeting_5 hv (by decide) rfl (fun ls hv => ?_)
  obtain ⟨n_1, h⟩ := h
  exact j_X8_meeting_7 X hk hr hlocks n_1 (x2) ((x1 + 1)) (0) S _ _ _ h hNN hw hl (lv_sub hv [2, 4, 1, 0] rfl)
def v_X1_takeBack  (S : xs_T) (K : Int32 → xs_T → Prop) : Prop := ∃ j_1 : Nat, ((((xF S 35 3) + 20) - 1) - (((xF S 35 3) + 20) - 1) / 20 * 20) = nI j_1 ∧ j_1 < 20 ∧ (((xF S 35 2) = 0 → K (0) S) ∧ (¬ (xF S 35 2) = 0 → ((xQ S 47 j_1 = none → K (0) S) ∧ (∀ u_6 : Nat, xQ S 47 j_1 = some u_6 → oR S u_6 ∧ ∃ j_8 j_9 j_10 : Nat, (((((xF S 35 3) + 20) - 1) - (((xF S 35 3) + 20) - 1) / 20 * 20) * 64) = nI j_8 ∧ 0 = nI j_9 ∧ (nI (xN S (u_6 + 120))) = nI j_10 ∧ j_8 + j_10 ≤ 1280 ∧ j_9 + j_10 ≤ xN S (u_6 + 120) ∧ ∀ S_16 : xs_T, S_16 = tL S (u_6 + 120) (va_cpy (xL S 48) (xL S (u_6 + 120)) j_8 j_9 j_10) → ∀ S_19 : xs_T, S_19 = sF S_16 35 3 (((((xF S 35 3) + 20) - 1) - (((xF S 35 3) + 20) - 1) / 20 * 20)) → ∀ S_22 : xs_T, S_22 = sF S_19 35 2 (((xF S_19 35 2) - 1)) → K (1) S_22))))
set_option maxHeartbeats 4000000 in
set_option maxRecDepth 100000 in
theorem c_X1_takeBack (l : Launch) (Z : xz_T) (et : Nat → Nat) (S : xs_T)  (K : Int32 → xs_T → Prop) (h : v_X1_takeBack  S K) : Met l yX1_takeBack (wq yX1_takeBack cX1_takeBack 3 (some .boolean)) { frames := 1, cells := 0, slots := 0, locals := 30 } (xPc Z et S [.ref (et (35))]) (xQi Z et S.2.2.2.2 K) 0 0 (fun q => Z.2.2.1 ≤ q) := by
  refine Met.ofW (cc := cX1_takeBack) (maxL := 3) (ret := (some .boolean)) (by decide +kernel) rfl ?_
  intro p e s m args below meth c s₁ B hml hv0
  obtain ⟨rfl, hk, hw⟩ := hv0
  have X : CallFix p m c cX1_takeBack 3 s _ (wq yX1_takeBack cX1_takeBack 3 (some .boolean)) RX1 := ⟨B.exec, B.bytes, hml, findClass_of_methodNamed B.named, atoms_spec (ws := (wq yX1_takeBack cX1_takeBack 3 (some .boolean))) B.pre⟩
  have hr := B.returns
  have hlocks := B.notSynchronized
  have hl : xl Z [] := fun _ h => by cases h
  have hNN : S.2.2.2.2 = S.2.2.2.2 := rfl
  have hv := lv_entry [.ref (et (35))] (n := 3) (Nat.le_of_ble_eq_true rfl)
  rw [lg_entry_eq]
  generalize (lg_sl [.ref (et (35))] ++ List.replicate (3 - (lg_sl [.ref (et (35))]).length) Slot.unset).toArray = ls at hv ⊢
  replace hv : lv_has ls 3 [(0, .ref (et (35)))] := hv
  unfold v_X1_takeBack at h
  refine lv_aload_n X.1 X.2.1 dX1_takeBack_0 rfl (lv_at hv 0 rfl) ?_
  refine xw_get X hk hw (i := 35) 3 xe_35 rfl tlX1 (by decide) rfl tw_154 dX1_takeBack_1 ?_
  refine lv_bipush (v := 20) X.1 X.2.1 dX1_takeBack_4 (by decide) ?_
  refine lv_iadd X.1 X.2.1 dX1_takeBack_6 ?_
  refine lv_iconst (v := 1) X.1 X.2.1 dX1_takeBack_7 (by decide) ?_
  refine lv_isub X.1 X.2.1 dX1_takeBack_8 ?_
  refine lv_bipush (v := 20) X.1 X.2.1 dX1_takeBack_9 (by decide) ?_
  refine lv_irem X.1 X.2.1 dX1_takeBack_11 (by decide) ?_
  refine lv_istore_n (lv' := [(1, .int (((((xF S 35 3) + 20) - 1) - (((xF S 35 3) + 20) - 1) / 20 * 20))), (0, .ref (et (35)))]) X.1 X.2.1 dX1_takeBack_12 rfl hv (by decide) rfl (fun ls hv => ?_)
  refine lv_aload_n X.1 X.2.1 dX1_takeBack_13 rfl (lv_at hv 1 rfl) ?_
  refine xw_get X hk hw (i := 35) 0 xe_35 rfl tlX1 (by decide) rfl tw_150 dX1_takeBack_14 ?_
  refine lv_iload_n X.1 X.2.1 dX1_takeBack_17 rfl (lv_at hv 0 rfl) ?_
  obtain ⟨j_1, e_2, b_3, h⟩ := h
  refine xw_qld X hk hw xe_47 (C := RX5) rfl e_2 b_3 (by decide) dX1_takeBack_18 ?_
  refine xv_astore_n (lv' := [(2, va_rf (Option.map et (xQ S 47 j_1))), (1, .int (((((xF S 35 3) + 20) - 1) - (((xF S 35 3) + 20) - 1) / 20 * 20))), (0, .ref (et (35)))]) X.1 X.2.1 dX1_takeBack_19 rfl hv (by decide) rfl (fun ls hv => ?_)
  refine lv_aload_n X.1 X.2.1 dX1_takeBack_20 rfl (lv_at hv 2 rfl) ?_
  refine xw_get X hk hw (i := 35) 2 xe_35 rfl tlX1 (by decide) rfl tw_152 dX1_takeBack_21 ?_
  refine lv_if_eq (tgt := 31) X.1 X.2.1 dX1_takeBack_24 (by decide) (fun c_4 => ?_) (fun c_4 => ?_)
  · skip
    replace h := h.1 c_4
    refine lv_iconst (v := 0) X.1 X.2.1 dX1_takeBack_31 (by decide) ?_
    exact xt_z X hr hlocks hNN hw hl (by decide) h dX1_takeBack_32
  · skip
    replace h := h.2 c_4
    refine xv_aload_n X.1 X.2.1 dX1_takeBack_27 rfl (lv_at hv 0 rfl) ?_
    refine xv_ifnonnull (tgt := 33) X.1 X.2.1 dX1_takeBack_28 (by decide) (fun u_6 c_5 => ?_) (fun c_5 => ?_)
    · skip
      replace h := h.2 u_6 c_5
      rw [c_5] at hv
      replace hv : lv_has ls 3 [(2, .ref (et (u_6))), (1, .int (((((xF S 35 3) + 20) - 1) - (((xF S 35 3) + 20) - 1) / 20 * 20))), (0, .ref (et (35)))] := hv
      refine lv_aload_n X.1 X.2.1 dX1_takeBack_33 rfl (lv_at hv 2 rfl) ?_
      refine xw_get X hk hw (i := 35) 1 xe_35 rfl tlX1 (by decide) rfl tw_151 dX1_takeBack_34 ?_
      refine lv_iload_n X.1 X.2.1 dX1_takeBack_37 rfl (lv_at hv 1 rfl) ?_
      refine lv_bipush (v := 64) X.1 X.2.1 dX1_takeBack_38 (by decide) ?_
      refine lv_imul X.1 X.2.1 dX1_takeBack_40 ?_
      refine lv_aload_n X.1 X.2.1 dX1_takeBack_41 rfl (lv_at hv 0 rfl) ?_
      obtain ⟨o_7, h⟩ := h
      refine xw_getN X hk hw (i := u_6) 1 (xE_row o_7) rfl tlX5 (by decide) rfl xn_18 dX1_takeBack_42 ?_
      refine lv_iconst (v := 0) X.1 X.2.1 dX1_takeBack_45 (by decide) ?_
      refine lv_aload_n X.1 X.2.1 dX1_takeBack_46 rfl (lv_at hv 0 rfl) ?_
      refine xw_getN X hk hw (i := u_6) 1 (xE_row o_7) rfl tlX5 (by decide) rfl xn_18 dX1_takeBack_47 ?_
      refine xw_len X hk hw (xE_arr o_7) dX1_takeBack_50 ?_
      obtain ⟨j_8, j_9, j_10, e_11, e_12, e_13, e_14, e_15, h⟩ := h
      refine xw_cpy X hk hw hl hv.1 xe_48 (xE_arr o_7) (fun f => xE_arr (S := tL S (u_6 + 120) f) o_7) e_11 e_12 e_13 e_14 e_15 (by decide) (oR_lt o_7) tw_432 (Nat.le_of_ble_eq_true rfl) (Nat.le_of_ble_eq_true rfl) dX1_takeBack_51 (fun H locs hw hl => ?_)
      obtain ⟨S_16, e_17⟩ : ∃ T : xs_T, T = tL S (u_6 + 120) (va_cpy (xL S 48) (xL S (u_6 + 120)) j_8 j_9 j_10) := ⟨_, rfl⟩
      rw [← e_17] at hw
      replace h := h S_16 e_17
      have hN : S_16.2.2.2.2 = S.2.2.2.2 := by rw [e_17]; rfl
      have o_18 := oR_N hN o_7
      replace hNN := hN.trans hNN
      refine lv_aload_n X.1 X.2.1 dX1_takeBack_54 rfl (lv_at hv 2 rfl) ?_
      refine lv_iload_n X.1 X.2.1 dX1_takeBack_55 rfl (lv_at hv 1 rfl) ?_
      refine xw_put X hk hw hl (i := 35) 3 xe_35 rfl rfl tlX1 tyX1 tyX1_ok nmX1 (by decide) tw_154 rfl rfl (Nat.le_of_ble_eq_true rfl) dX1_takeBack_56 (fun H locs hw hl => ?_)
      obtain ⟨S_19, e_20⟩ : ∃ T : xs_T, T = sF S_16 35 3 (((((xF S 35 3) + 20) - 1) - (((xF S 35 3) + 20) - 1) / 20 * 20)) := ⟨_, rfl⟩
      rw [← e_20] at hw
      replace h := h S_19 e_20
      have hN : S_19.2.2.2.2 = S_16.2.2.2.2 := by rw [e_20]; rfl
      have o_21 := oR_N hN o_18
      replace hNN := hN.trans hNN
      refine lv_aload_n X.1 X.2.1 dX1_takeBack_59 rfl (lv_at hv 2 rfl) ?_
      refine lv_dup X.1 X.2.1 dX1_takeBack_60 rfl ?_
      refine xw_get X hk hw (i := 35) 2 xe_35 rfl tlX1 (by decide) rfl tw_152 dX1_takeBack_61 ?_
      refine lv_iconst (v := 1) X.1 X.2.1 dX1_takeBack_64 (by decide) ?_
      refine lv_isub X.1 X.2.1 dX1_takeBack_65 ?_
      refine xw_put X hk hw hl (i := 35) 2 xe_35 rfl rfl tlX1 tyX1 tyX1_ok nmX1 (by decide) tw_152 rfl rfl (Nat.le_of_ble_eq_true rfl) dX1_takeBack_66 (fun H locs hw hl => ?_)
      obtain ⟨S_22, e_23⟩ : ∃ T : xs_T, T = sF S_19 35 2 (((xF S_19 35 2) - 1)) := ⟨_, rfl⟩
      rw [← e_23] at hw
      replace h := h S_22 e_23
      have hN : S_22.2.2.2.2 = S_19.2.2.2.2 := by rw [e_23]; rfl
      have o_24 := oR_N hN o_21
      replace hNN := hN.trans hNN
      refine lv_iconst (v := 1) X.1 X.2.1 dX1_takeBack_69 (by decide) ?_
      exact xt_z X hr hlocks hNN hw hl (by decide) h dX1_takeBack_70
    · skip
      replace h := h.1 c_5
      refine lv_iconst (v := 0) X.1 X.2.1 dX1_takeBack_31 (by decide) ?_
      exact xt_z X hr hlocks hNN hw hl (by decide) h dX1_takeBack_32
def v_X9_back  (S : xs_T) (K : Int32 → xs_T → Prop) : Prop := v_X1_takeBack  S (fun (r_2 : Int32) (S_1 : xs_T) => (r_2 = 0 ∨ r_2 = 1) ∧ K (r_2) S_1)
set_option maxHeartbeats 4000000 in
set_option maxRecDepth 100000 in
theorem c_X9_back (l : Launch) (Z : xz_T) (et : Nat → Nat) (S : xs_T)  (K : Int32 → xs_T → Prop) (h : v_X9_back  S K) : Met l yX9_back (wq yX9_back cX9_back 1 (some .boolean)) { frames := 2, cells := 0, slots := 0, locals := 52 } (xPc Z et S [.ref (et (32))]) (xQi Z et S.2.2.2.2 K) 0 0 (fun q => Z.2.2.1 ≤ q) := by
  refine Met.ofW (cc := cX9_back) (maxL := 1) (ret := (some .boolean)) (by decide +kernel) rfl ?_
  intro p e s m args below meth c s₁ B hml hv0
  obtain ⟨rfl, hk, hw⟩ := hv0
  have X : CallFix p m c cX9_back 1 s _ (wq yX9_back cX9_back 1 (some .boolean)) RX9 := ⟨B.exec, B.bytes, hml, findClass_of_methodNamed B.named, atoms_spec (ws := (wq yX9_back cX9_back 1 (some .boolean))) B.pre⟩
  have hr := B.returns
  have hlocks := B.notSynchronized
  have hl : xl Z [] := fun _ h => by cases h
  have hNN : S.2.2.2.2 = S.2.2.2.2 := rfl
  have hv := lv_entry [.ref (et (32))] (n := 1) (Nat.le_of_ble_eq_true rfl)
  rw [lg_entry_eq]
  generalize (lg_sl [.ref (et (32))] ++ List.replicate (1 - (lg_sl [.ref (et (32))]).length) Slot.unset).toArray = ls at hv ⊢
  replace hv : lv_has ls 1 [(0, .ref (et (32)))] := hv
  unfold v_X9_back at h
  refine lv_aload_n X.1 X.2.1 dX9_back_0 rfl (lv_at hv 0 rfl) ?_
  refine xw_get X hk hw (i := 32) 2 xe_32 rfl tlX9 (by decide) rfl tw_166 dX9_back_1 ?_
  refine xc_i (xr_V (n := 0) (As := []) (i := 35) X hk hw hv.1 (c_X1_takeBack l Z et S  _ h) (tb_V tw_466 tw_463 tw_464 tw_465 tw_43) xe_35 rfl rfl rfl rfl (by decide +kernel) ⟨Nat.le_of_ble_eq_true rfl, Nat.le_of_ble_eq_true rfl⟩ rfl (Nat.le_of_ble_eq_true rfl) dX9_back_4 ⟨Nat.le_of_ble_eq_true rfl, Nat.le_of_ble_eq_true rfl⟩) hl (fun r_2 S_1 H locs h hN hw hl => ?_)
  replace hNN := hN.trans hNN
  obtain ⟨c_3, h⟩ := h
  exact xt_z X hr hlocks hNN hw hl c_3 h dX9_back_7
def v_X0_leastHolder_8 (K : Int32 → xs_T → Prop) : Nat → Nat → Int32 → xs_T → Prop
  | 0, _, _, _ => False
  | n + 1, u1, a2, S => ((10 ≤ a2 → K ((-1)) S) ∧ (¬ 10 ≤ a2 → ∃ j_5 : Nat, a2 = nI j_5 ∧ j_5 < 10 ∧ oT S (xQ S 37 j_5) ∧ oT S (some (u1)) ∧ ((¬ (xQ S 37 j_5) = (some (u1)) → v_X0_leastHolder_8 K n (u1) ((a2 + 1)) S) ∧ ((xQ S 37 j_5) = (some (u1)) → K (a2) S))))
def v_X0_leastHolder (q1 : Option Nat) (S : xs_T) (K : Int32 → xs_T → Prop) : Prop := ((q1 = none → K ((-1)) S) ∧ (∀ u_2 : Nat, q1 = some u_2 → ∃ n, v_X0_leastHolder_8 K n (u_2) (0) S))
set_option maxHeartbeats 4000000 in
set_option maxRecDepth 100000 in
theorem j_X0_leastHolder_8 {l : Launch} {p : Program} {e : Env} {s : State} {m : MethodId} {args : Array Value} {below : List Frame} {meth : Method} {c : Code} {Z : xz_T} {et : Nat → Nat} {Nn : Nat → Nat} {K : Int32 → xs_T → Prop} (X : CallFix p m c cX0_leastHolder 3 s args (wq yX0_leastHolder cX0_leastHolder 3 (some .int)) RX0) (hk : xk Z s) (hr : meth.sig.returnType = (some .int)) (hlocks : meth.locks = false) : ∀ (n : Nat) (u1 : Nat) (a2 : Int32) (S : xs_T) (H : Heap) (locs : List Loc) (ls : Array Slot), v_X0_leastHolder_8 K n u1 a2 S → S.2.2.2.2 = Nn → wd Z et S H → xl Z locs → lv_has ls 3 [(0, .ref (et (33))), (1, .ref (et (u1))), (2, .int (a2))] → W p l e (headSpec (wq yX0_leastHolder cX0_leastHolder 3 (some .int)) { frames := 0, cells := 0, slots := 0, locals := 0 }).room s m args below meth c H locs 0 0 (MQ below (xQi Z et Nn K) args s 0 0 (fun q => Z.2.2.1 ≤ q)) (F0 m 8 ls []) := by
  intro n
  induction n with
  | zero =>
    intro u1 a2 S H locs ls h hNN hw hl hv
    exact False.elim h
  | succ n ih =>
    intro u1 a2 S H locs ls h hNN hw hl hv
    rw [v_X0_leastHolder_8] at h
    refine lv_iload_n X.1 X.2.1 dX0_leastHolder_8 rfl (lv_at hv 2 rfl) ?_
    refine lv_bipush (v := 10) X.1 X.2.1 dX0_leastHolder_9 (by decide) ?_
    refine lv_icmp_ge (tgt := 32) X.1 X.2.1 dX0_leastHolder_11 (by decide) (fun c_4 => ?_) (fun c_4 => ?_)
    · skip
      replace h := h.1 c_4
      refine lv_iconst (v := (-1)) X.1 X.2.1 dX0_leastHolder_32 (by decide) ?_
      exact xt_i X hr hlocks hNN hw hl h dX0_leastHolder_33
    · skip
      replace h := h.2 c_4
      refine lv_aload_n X.1 X.2.1 dX0_leastHolder_14 rfl (lv_at hv 0 rfl) ?_
      refine xw_get X hk hw (i := 33) 0 xe_33 rfl tlX0 (by decide) rfl tw_96 dX0_leastHolder_15 ?_
      refine lv_iload_n X.1 X.2.1 dX0_leastHolder_18 rfl (lv_at hv 2 rfl) ?_
      obtain ⟨j_5, e_6, b_7, h⟩ := h
      refine xw_qld X hk hw xe_37 (C := RX7) rfl e_6 b_7 (by decide) dX0_leastHolder_19 ?_
      refine lv_aload_n X.1 X.2.1 dX0_leastHolder_20 rfl (lv_at hv 1 rfl) ?_
      obtain ⟨o_8, h⟩ := h
      obtain ⟨o_9, h⟩ := h
      refine xw_acmpne X hw (a := (xQ S 37 j_5)) (b := (some (u1))) o_8 o_9 (tgt := 26) dX0_leastHolder_21 (by decide) (fun c_10 => ?_) (fun c_10 => ?_)
      · skip
        replace h := h.1 c_10
        refine lv_iinc (v := (a2 + 1)) (lv' := [(2, .int ((a2 + 1))), (0, .ref (et (33))), (1, .ref (et (u1)))]) X.1 X.2.1 dX0_leastHolder_26 hv (k := 2) rfl rfl (by decide) rfl (fun ls hv => ?_)
        refine lv_goto (tgt := 8) X.1 X.2.1 dX0_leastHolder_29 (by decide) ?_
        exact ih (u1) ((a2 + 1)) S _ _ _ h hNN hw hl (lv_sub hv [1, 2, 0] rfl)
      · skip
        replace h := h.2 c_10
        refine lv_iload_n X.1 X.2.1 dX0_leastHolder_24 rfl (lv_at hv 2 rfl) ?_
        exact xt_i X hr hlocks hNN hw hl h dX0_leastHolder_25
set_option maxHeartbeats 4000000 in
set_option maxRecDepth 100000 in
theorem c_X0_leastHolder (l : Launch) (Z : xz_T) (et : Nat → Nat) (S : xs_T) (q1 : Option Nat) (K : Int32 → xs_T → Prop) (h : v_X0_leastHolder q1 S K) : Met l yX0_leastHolder (wq yX0_leastHolder cX0_leastHolder 3 (some .int)) { frames := 0, cells := 0, slots := 0, locals := 0 } (xPc Z et S [.ref (et (33)), va_rf (Option.map et (q1))]) (xQi Z et S.2.2.2.2 K) 0 0 (fun q => Z.2.2.1 ≤ q) := by
  refine Met.ofW (cc := cX0_leastHolder) (maxL := 3) (ret := (some .int)) (by decide +kernel) rfl ?_
  intro p e s m args below meth c s₁ B hml hv0
  obtain ⟨rfl, hk, hw⟩ := hv0
  have X : CallFix p m c cX0_leastHolder 3 s _ (wq yX0_leastHolder cX0_leastHolder 3 (some .int)) RX0 := ⟨B.exec, B.bytes, hml, findClass_of_methodNamed B.named, atoms_spec (ws := (wq yX0_leastHolder cX0_leastHolder 3 (some .int))) B.pre⟩
  have hr := B.returns
  have hlocks := B.notSynchronized
  have hl : xl Z [] := fun _ h => by cases h
  have hNN : S.2.2.2.2 = S.2.2.2.2 := rfl
  have hv : lv_has (lg_sl [.ref (et (33)), va_rf (Option.map et (q1))] ++ List.replicate (3 - (lg_sl [.ref (et (33)), va_rf (Option.map et (q1))]).length) Slot.unset).toArray 3 [(0, .ref (et (33))), (1, va_rf (Option.map et (q1)))] := by cases q1 <;> exact lv_entry _ (Nat.le_of_ble_eq_true rfl)
  rw [lg_entry_eq]
  generalize (lg_sl [.ref (et (33)), va_rf (Option.map et (q1))] ++ List.replicate (3 - (lg_sl [.ref (et (33)), va_rf (Option.map et (q1))]).length) Slot.unset).toArray = ls at hv ⊢
  replace hv : lv_has ls 3 [(0, .ref (et (33))), (1, va_rf (Option.map et (q1)))] := hv
  unfold v_X0_leastHolder at h
  refine xv_aload_n X.1 X.2.1 dX0_leastHolder_0 rfl (lv_at hv 1 rfl) ?_
  refine xv_ifnonnull (tgt := 6) X.1 X.2.1 dX0_leastHolder_1 (by decide) (fun u_2 c_1 => ?_) (fun c_1 => ?_)
  · skip
    replace h := h.2 u_2 c_1
    rw [c_1] at hv
    replace hv : lv_has ls 3 [(0, .ref (et (33))), (1, .ref (et (u_2)))] := hv
    refine lv_iconst (v := 0) X.1 X.2.1 dX0_leastHolder_6 (by decide) ?_
    refine lv_istore_n (lv' := [(2, .int (0)), (0, .ref (et (33))), (1, .ref (et (u_2)))]) X.1 X.2.1 dX0_leastHolder_7 rfl hv (by decide) rfl (fun ls hv => ?_)
    obtain ⟨n_3, h⟩ := h
    exact j_X0_leastHolder_8 X hk hr hlocks n_3 (u_2) (0) S _ _ _ h hNN hw hl (lv_sub hv [1, 2, 0] rfl)
  · skip
    replace h := h.1 c_1
    refine lv_iconst (v := (-1)) X.1 X.2.1 dX0_leastHolder_4 (by decide) ?_
    exact xt_i X hr hlocks hNN hw hl h dX0_leastHolder_5
def v_X2_appearance (u0 : Nat) (S : xs_T) (K : Int32 → xs_T → Prop) : Prop := K (12) S
set_option maxHeartbeats 4000000 in
set_option maxRecDepth 100000 in
theorem c_X2_appearance (l : Launch) (Z : xz_T) (et : Nat → Nat) (S : xs_T) (u0 : Nat) (K : Int32 → xs_T → Prop) (h : v_X2_appearance u0 S K) : Met l yX2_appearance (wq yX2_appearance cX2_appearance 1 (some .int)) { frames := 0, cells := 0, slots := 0, locals := 0 } (xPc Z et S [.ref (et (u0))]) (xQi Z et S.2.2.2.2 K) 0 0 (fun q => Z.2.2.1 ≤ q) := by
  refine Met.ofW (cc := cX2_appearance) (maxL := 1) (ret := (some .int)) (by decide +kernel) rfl ?_
  intro p e s m args below meth c s₁ B hml hv0
  obtain ⟨rfl, hk, hw⟩ := hv0
  have X : CallFix p m c cX2_appearance 1 s _ (wq yX2_appearance cX2_appearance 1 (some .int)) RX2 := ⟨B.exec, B.bytes, hml, findClass_of_methodNamed B.named, atoms_spec (ws := (wq yX2_appearance cX2_appearance 1 (some .int))) B.pre⟩
  have hr := B.returns
  have hlocks := B.notSynchronized
  have hl : xl Z [] := fun _ h => by cases h
  have hNN : S.2.2.2.2 = S.2.2.2.2 := rfl
  have hv := lv_entry [.ref (et (u0))] (n := 1) (Nat.le_of_ble_eq_true rfl)
  rw [lg_entry_eq]
  generalize (lg_sl [.ref (et (u0))] ++ List.replicate (1 - (lg_sl [.ref (et (u0))]).length) Slot.unset).toArray = ls at hv ⊢
  replace hv : lv_has ls 1 [(0, .ref (et (u0)))] := hv
  unfold v_X2_appearance at h
  refine lv_bipush (v := 12) X.1 X.2.1 dX2_appearance_0 (by decide) ?_
  exact xt_i X hr hlocks hNN hw hl h dX2_appearance_2
def v_X2_measure (u0 : Nat) (S : xs_T) (K : Int32 → xs_T → Prop) : Prop := K ((-1)) S
set_option maxHeartbeats 4000000 in
set_option maxRecDepth 100000 in
theorem c_X2_measure (l : Launch) (Z : xz_T) (et : Nat → Nat) (S : xs_T) (u0 : Nat) (K : Int32 → xs_T → Prop) (h : v_X2_measure u0 S K) : Met l yX2_measure (wq yX2_measure cX2_measure 1 (some .int)) { frames := 0, cells := 0, slots := 0, locals := 0 } (xPc Z et S [.ref (et (u0))]) (xQi Z et S.2.2.2.2 K) 0 0 (fun q => Z.2.2.1 ≤ q) := by
  refine Met.ofW (cc := cX2_measure) (maxL := 1) (ret := (some .int)) (by decide +kernel) rfl ?_
  intro p e s m args below meth c s₁ B hml hv0
  obtain ⟨rfl, hk, hw⟩ := hv0
  have X : CallFix p m c cX2_measure 1 s _ (wq yX2_measure cX2_measure 1 (some .int)) RX2 := ⟨B.exec, B.bytes, hml, findClass_of_methodNamed B.named, atoms_spec (ws := (wq yX2_measure cX2_measure 1 (some .int))) B.pre⟩
  have hr := B.returns
  have hlocks := B.notSynchronized
  have hl : xl Z [] := fun _ h => by cases h
  have hNN : S.2.2.2.2 = S.2.2.2.2 := rfl
  have hv := lv_entry [.ref (et (u0))] (n := 1) (Nat.le_of_ble_eq_true rfl)
  rw [lg_entry_eq]
  generalize (lg_sl [.ref (et (u0))] ++ List.replicate (1 - (lg_sl [.ref (et (u0))]).length) Slot.unset).toArray = ls at hv ⊢
  replace hv : lv_has ls 1 [(0, .ref (et (u0)))] := hv
  unfold v_X2_measure at h
  refine lv_iconst (v := (-1)) X.1 X.2.1 dX2_measure_0 (by decide) ?_
  exact xt_i X hr hlocks hNN hw hl h dX2_measure_1
def v_X3_appearance (u0 : Nat) (S : xs_T) (K : Int32 → xs_T → Prop) : Prop := oG S u0 ∧ K ((12 + (xF S u0 0))) S
set_option maxHeartbeats 4000000 in
set_option maxRecDepth 100000 in
theorem c_X3_appearance (l : Launch) (Z : xz_T) (et : Nat → Nat) (S : xs_T) (u0 : Nat) (K : Int32 → xs_T → Prop) (h : v_X3_appearance u0 S K) : Met l yX3_appearance (wq yX3_appearance cX3_appearance 1 (some .int)) { frames := 0, cells := 0, slots := 0, locals := 0 } (xPc Z et S [.ref (et (u0))]) (xQi Z et S.2.2.2.2 K) 0 0 (fun q => Z.2.2.1 ≤ q) := by
  refine Met.ofW (cc := cX3_appearance) (maxL := 1) (ret := (some .int)) (by decide +kernel) rfl ?_
  intro p e s m args below meth c s₁ B hml hv0
  obtain ⟨rfl, hk, hw⟩ := hv0
  have X : CallFix p m c cX3_appearance 1 s _ (wq yX3_appearance cX3_appearance 1 (some .int)) RX3 := ⟨B.exec, B.bytes, hml, findClass_of_methodNamed B.named, atoms_spec (ws := (wq yX3_appearance cX3_appearance 1 (some .int))) B.pre⟩
  have hr := B.returns
  have hlocks := B.notSynchronized
  have hl : xl Z [] := fun _ h => by cases h
  have hNN : S.2.2.2.2 = S.2.2.2.2 := rfl
  have hv := lv_entry [.ref (et (u0))] (n := 1) (Nat.le_of_ble_eq_true rfl)
  rw [lg_entry_eq]
  generalize (lg_sl [.ref (et (u0))] ++ List.replicate (1 - (lg_sl [.ref (et (u0))]).length) Slot.unset).toArray = ls at hv ⊢
  replace hv : lv_has ls 1 [(0, .ref (et (u0)))] := hv
  unfold v_X3_appearance at h
  refine lv_bipush (v := 12) X.1 X.2.1 dX3_appearance_0 (by decide) ?_
  refine lv_aload_n X.1 X.2.1 dX3_appearance_2 rfl (lv_at hv 0 rfl) ?_
  obtain ⟨o_1, h⟩ := h
  refine xw_get X hk hw (i := u0) 0 (xE_fig o_1) rfl tlX3 (by decide) rfl tw_373 dX3_appearance_3 ?_
  refine lv_iadd X.1 X.2.1 dX3_appearance_6 ?_
  exact xt_i X hr hlocks hNN hw hl h dX3_appearance_7
def v_X3_measure (u0 : Nat) (S : xs_T) (K : Int32 → xs_T → Prop) : Prop := oG S u0 ∧ K ((xF S u0 1)) S
set_option maxHeartbeats 4000000 in
set_option maxRecDepth 100000 in
theorem c_X3_measure (l : Launch) (Z : xz_T) (et : Nat → Nat) (S : xs_T) (u0 : Nat) (K : Int32 → xs_T → Prop) (h : v_X3_measure u0 S K) : Met l yX3_measure (wq yX3_measure cX3_measure 1 (some .int)) { frames := 0, cells := 0, slots := 0, locals := 0 } (xPc Z et S [.ref (et (u0))]) (xQi Z et S.2.2.2.2 K) 0 0 (fun q => Z.2.2.1 ≤ q) := by
  refine Met.ofW (cc := cX3_measure) (maxL := 1) (ret := (some .int)) (by decide +kernel) rfl ?_
  intro p e s m args below meth c s₁ B hml hv0
  obtain ⟨rfl, hk, hw⟩ := hv0
  have X : CallFix p m c cX3_measure 1 s _ (wq yX3_measure cX3_measure 1 (some .int)) RX3 := ⟨B.exec, B.bytes, hml, findClass_of_methodNamed B.named, atoms_spec (ws := (wq yX3_measure cX3_measure 1 (some .int))) B.pre⟩
  have hr := B.returns
  have hlocks := B.notSynchronized
  have hl : xl Z [] := fun _ h => by cases h
  have hNN : S.2.2.2.2 = S.2.2.2.2 := rfl
  have hv := lv_entry [.ref (et (u0))] (n := 1) (Nat.le_of_ble_eq_true rfl)
  rw [lg_entry_eq]
  generalize (lg_sl [.ref (et (u0))] ++ List.replicate (1 - (lg_sl [.ref (et (u0))]).length) Slot.unset).toArray = ls at hv ⊢
  replace hv : lv_has ls 1 [(0, .ref (et (u0)))] := hv
  unfold v_X3_measure at h
  refine lv_aload_n X.1 X.2.1 dX3_measure_0 rfl (lv_at hv 0 rfl) ?_
  obtain ⟨o_1, h⟩ := h
  refine xw_get X hk hw (i := u0) 1 (xE_fig o_1) rfl tlX3 (by decide) rfl tw_376 dX3_measure_1 ?_
  exact xt_i X hr hlocks hNN hw hl h dX3_measure_4
def v_X5_appearance (u0 : Nat) (S : xs_T) (K : Int32 → xs_T → Prop) : Prop := oR S u0 ∧ K ((xF S u0 0)) S
set_option maxHeartbeats 4000000 in
set_option maxRecDepth 100000 in
theorem c_X5_appearance (l : Launch) (Z : xz_T) (et : Nat → Nat) (S : xs_T) (u0 : Nat) (K : Int32 → xs_T → Prop) (h : v_X5_appearance u0 S K) : Met l yX5_appearance (wq yX5_appearance cX5_appearance 1 (some .int)) { frames := 0, cells := 0, slots := 0, locals := 0 } (xPc Z et S [.ref (et (u0))]) (xQi Z et S.2.2.2.2 K) 0 0 (fun q => Z.2.2.1 ≤ q) := by
  refine Met.ofW (cc := cX5_appearance) (maxL := 1) (ret := (some .int)) (by decide +kernel) rfl ?_
  intro p e s m args below meth c s₁ B hml hv0
  obtain ⟨rfl, hk, hw⟩ := hv0
  have X : CallFix p m c cX5_appearance 1 s _ (wq yX5_appearance cX5_appearance 1 (some .int)) RX5 := ⟨B.exec, B.bytes, hml, findClass_of_methodNamed B.named, atoms_spec (ws := (wq yX5_appearance cX5_appearance 1 (some .int))) B.pre⟩
  have hr := B.returns
  have hlocks := B.notSynchronized
  have hl : xl Z [] := fun _ h => by cases h
  have hNN : S.2.2.2.2 = S.2.2.2.2 := rfl
  have hv := lv_entry [.ref (et (u0))] (n := 1) (Nat.le_of_ble_eq_true rfl)
  rw [lg_entry_eq]
  generalize (lg_sl [.ref (et (u0))] ++ List.replicate (1 - (lg_sl [.ref (et (u0))]).length) Slot.unset).toArray = ls at hv ⊢
  replace hv : lv_has ls 1 [(0, .ref (et (u0)))] := hv
  unfold v_X5_appearance at h
  refine lv_aload_n X.1 X.2.1 dX5_appearance_0 rfl (lv_at hv 0 rfl) ?_
  obtain ⟨o_1, h⟩ := h
  refine xw_get X hk hw (i := u0) 0 (xE_row o_1) rfl tlX5 (by decide) rfl tw_329 dX5_appearance_1 ?_
  exact xt_i X hr hlocks hNN hw hl h dX5_appearance_4
def v_X5_measure (u0 : Nat) (S : xs_T) (K : Int32 → xs_T → Prop) : Prop := oR S u0 ∧ K ((nI (xN S (u0 + 120)))) S
set_option maxHeartbeats 4000000 in
set_option maxRecDepth 100000 in
theorem c_X5_measure (l : Launch) (Z : xz_T) (et : Nat → Nat) (S : xs_T) (u0 : Nat) (K : Int32 → xs_T → Prop) (h : v_X5_measure u0 S K) : Met l yX5_measure (wq yX5_measure cX5_measure 1 (some .int)) { frames := 0, cells := 0, slots := 0, locals := 0 } (xPc Z et S [.ref (et (u0))]) (xQi Z et S.2.2.2.2 K) 0 0 (fun q => Z.2.2.1 ≤ q) := by
  refine Met.ofW (cc := cX5_measure) (maxL := 1) (ret := (some .int)) (by decide +kernel) rfl ?_
  intro p e s m args below meth c s₁ B hml hv0
  obtain ⟨rfl, hk, hw⟩ := hv0
  have X : CallFix p m c cX5_measure 1 s _ (wq yX5_measure cX5_measure 1 (some .int)) RX5 := ⟨B.exec, B.bytes, hml, findClass_of_methodNamed B.named, atoms_spec (ws := (wq yX5_measure cX5_measure 1 (some .int))) B.pre⟩
  have hr := B.returns
  have hlocks := B.notSynchronized
  have hl : xl Z [] := fun _ h => by cases h
  have hNN : S.2.2.2.2 = S.2.2.2.2 := rfl
  have hv := lv_entry [.ref (et (u0))] (n := 1) (Nat.le_of_ble_eq_true rfl)
  rw [lg_entry_eq]
  generalize (lg_sl [.ref (et (u0))] ++ List.replicate (1 - (lg_sl [.ref (et (u0))]).length) Slot.unset).toArray = ls at hv ⊢
  replace hv : lv_has ls 1 [(0, .ref (et (u0)))] := hv
  unfold v_X5_measure at h
  refine lv_aload_n X.1 X.2.1 dX5_measure_0 rfl (lv_at hv 0 rfl) ?_
  obtain ⟨o_1, h⟩ := h
  refine xw_get X hk hw (i := u0) 1 (xE_row o_1) rfl tlX5 (by decide) rfl tw_331 dX5_measure_1 ?_
  refine xw_len X hk hw (xE_arr o_1) dX5_measure_4 ?_
  exact xt_i X hr hlocks hNN hw hl h dX5_measure_5
def v_X9_look (x1 : Int32) (x2 : Int32) (S : xs_T) (K : Int32 → xs_T → Prop) : Prop := v_X9_isSpindle (x1) S (fun (r_2 : Int32) (S_1 : xs_T) => ((¬ r_2 = 0 → ∃ j_4 : Nat, x1 = nI j_4 ∧ j_4 < 10 ∧ (((x2 = 0) → ((xQ S_1 37 j_4 = none → K ((-1)) S_1) ∧ (∀ u_8 : Nat, xQ S_1 37 j_4 = some u_8 → oT S_1 (some u_8) ∧ ((oR S_1 u_8 → v_X5_appearance u_8 S_1 (fun (r_11 : Int32) (S_10 : xs_T) => K (r_11) S_10)) ∧ (oG S_1 u_8 → v_X3_appearance u_8 S_1 (fun (r_14 : Int32) (S_13 : xs_T) => K (r_14) S_13)) ∧ (oC S_1 u_8 → v_X2_appearance u_8 S_1 (fun (r_17 : Int32) (S_16 : xs_T) => K (r_17) S_16)))))) ∧ ((x2 = 1) → ((xQ S_1 37 j_4 = none → K ((-1)) S_1) ∧ (∀ u_20 : Nat, xQ S_1 37 j_4 = some u_20 → oT S_1 (some u_20) ∧ ((oR S_1 u_20 → v_X5_measure u_20 S_1 (fun (r_23 : Int32) (S_22 : xs_T) => K (r_23) S_22)) ∧ (oG S_1 u_20 → v_X3_measure u_20 S_1 (fun (r_26 : Int32) (S_25 : xs_T) => K (r_26) S_25)) ∧ (oC S_1 u_20 → v_X2_measure u_20 S_1 (fun (r_29 : Int32) (S_28 : xs_T) => K (r_29) S_28)))))) ∧ ((x2 = 2) → ∃ j_31 : Nat, x1 = nI j_31 ∧ j_31 < 10 ∧ K ((xI S_1 38 j_31)) S_1) ∧ ((x2 = 3) → v_X0_leastHolder (xQ S_1 37 j_4) S_1 (fun (r_35 : Int32) (S_34 : xs_T) => K (r_35) S_34)) ∧ (¬ x2 = 0 → ¬ x2 = 1 → ¬ x2 = 2 → ¬ x2 = 3 → K ((-1)) S_1))) ∧ (r_2 = 0 → K ((-1)) S_1)))
set_option maxHeartbeats 4000000 in
set_option maxRecDepth 100000 in
theorem c_X9_look (l : Launch) (Z : xz_T) (et : Nat → Nat) (S : xs_T) (x1 : Int32) (x2 : Int32) (K : Int32 → xs_T → Prop) (h : v_X9_look x1 x2 S K) : Met l yX9_look (wq yX9_look cX9_look 4 (some .int)) { frames := 2, cells := 0, slots := 0, locals := 42 } (xPc Z et S [.ref (et (32)), .int (x1), .int (x2)]) (xQi Z et S.2.2.2.2 K) 0 0 (fun q => Z.2.2.1 ≤ q) := by
  refine Met.ofW (cc := cX9_look) (maxL := 4) (ret := (some .int)) (by decide +kernel) rfl ?_
  intro p e s m args below meth c s₁ B hml hv0
  obtain ⟨rfl, hk, hw⟩ := hv0
  have X : CallFix p m c cX9_look 4 s _ (wq yX9_look cX9_look 4 (some .int)) RX9 := ⟨B.exec, B.bytes, hml, findClass_of_methodNamed B.named, atoms_spec (ws := (wq yX9_look cX9_look 4 (some .int))) B.pre⟩
  have hr := B.returns
  have hlocks := B.notSynchronized
  have hl : xl Z [] := fun _ h => by cases h
  have hNN : S.2.2.2.2 = S.2.2.2.2 := rfl
  have hv := lv_entry [.ref (et (32)), .int (x1), .int (x2)] (n := 4) (Nat.le_of_ble_eq_true rfl)
  rw [lg_entry_eq]
  generalize (lg_sl [.ref (et (32)), .int (x1), .int (x2)] ++ List.replicate (4 - (lg_sl [.ref (et (32)), .int (x1), .int (x2)]).length) Slot.unset).toArray = ls at hv ⊢
  replace hv : lv_has ls 4 [(0, .ref (et (32))), (1, .int (x1)), (2, .int (x2))] := hv
  unfold v_X9_look at h
  refine lv_iload_n X.1 X.2.1 dX9_look_0 rfl (lv_at hv 1 rfl) ?_
  refine xc_i (xr_S (n := 1) X hk hw hv.1 (c_X9_isSpindle l Z et S (x1) _ h) (tb_S tw_201 tw_199 tw_200 tw_39) rfl rfl (by decide +kernel) ⟨Nat.le_of_ble_eq_true rfl, Nat.le_of_ble_eq_true rfl⟩ rfl (Nat.le_of_ble_eq_true rfl) dX9_look_1 ⟨Nat.le_of_ble_eq_true rfl, Nat.le_of_ble_eq_true rfl⟩) hl (fun r_2 S_1 H locs h hN hw hl => ?_)
  replace hNN := hN.trans hNN
  refine lv_if_ne (tgt := 9) X.1 X.2.1 dX9_look_4 (by decide) (fun c_3 => ?_) (fun c_3 => ?_)
  · skip
    replace h := h.1 c_3
    refine lv_aload_n X.1 X.2.1 dX9_look_9 rfl (lv_at hv 0 rfl) ?_
    refine xw_get X hk hw (i := 32) 0 xe_32 rfl tlX9 (by decide) rfl tw_164 dX9_look_10 ?_
    refine xw_getN X hk hw (i := 33) 0 xe_33 rfl tlX0 (by decide) rfl xn_5 dX9_look_13 ?_
    refine lv_iload_n X.1 X.2.1 dX9_look_16 rfl (lv_at hv 1 rfl) ?_
    obtain ⟨j_4, e_5, b_6, h⟩ := h
    refine xw_qld X hk hw xe_37 (C := RX7) rfl e_5 b_6 (by decide) dX9_look_17 ?_
    refine xv_astore_n (lv' := [(3, va_rf (Option.map et (xQ S_1 37 j_4))), (0, .ref (et (32))), (1, .int (x1)), (2, .int (x2))]) X.1 X.2.1 dX9_look_18 rfl hv (by decide) rfl (fun ls hv => ?_)
    refine lv_iload_n X.1 X.2.1 dX9_look_19 rfl (lv_at hv 3 rfl) ?_
    have hsw := h
    by_cases k_0 : x2 = 0
    · have h := hsw.1 k_0
      refine lv_tableIn (off := 32) (tgt := 52) X.1 X.2.1 dX9_look_20 (by rw [k_0]; decide) (by rw [k_0]; decide) (by rw [k_0]; rfl) (by decide) ?_
      refine xv_aload_n X.1 X.2.1 dX9_look_52 rfl (lv_at hv 0 rfl) ?_
      refine xv_ifnonnull (tgt := 60) X.1 X.2.1 dX9_look_53 (by decide) (fun u_8 c_7 => ?_) (fun c_7 => ?_)
      · skip
        replace h := h.2 u_8 c_7
        rw [c_7] at hv
        replace hv : lv_has ls 4 [(3, .ref (et (u_8))), (0, .ref (et (32))), (1, .int (x1)), (2, .int (x2))] := hv
        refine lv_aload_n X.1 X.2.1 dX9_look_60 rfl (lv_at hv 0 rfl) ?_
        obtain ⟨o_9, h⟩ := h
        have hsw := h
        rcases oT_or o_9 with o_R | o_R | o_R
        · have h := hsw.1 o_R
          refine xc_i (xr_A (n := 0) (As := []) (i := u_8) X hk hw hv.1 (c_X5_appearance l Z et S_1 u_8 _ h) (tb_U tw_482 tw_471 tw_473 tw_480 tw_481 tw_48) (xE_row o_R) rfl rfl rfl rfl xn_27 (by decide +kernel) ⟨Nat.le_of_ble_eq_true rfl, Nat.le_of_ble_eq_true rfl⟩ rfl (Nat.le_of_ble_eq_true rfl) dX9_look_61 ⟨Nat.le_of_ble_eq_true rfl, Nat.le_of_ble_eq_true rfl⟩) hl (fun r_11 S_10 H locs h hN hw hl => ?_)
          have o_12 := oT_N hN o_9
          replace hNN := hN.trans hNN
          exact xt_i X hr hlocks hNN hw hl h dX9_look_64
        · have h := hsw.2.1 o_R
          refine xc_i (xr_A (n := 0) (As := []) (i := u_8) X hk hw hv.1 (c_X3_appearance l Z et S_1 u_8 _ h) (tb_U tw_479 tw_471 tw_473 tw_477 tw_478 tw_50) (xE_fig o_R) rfl rfl rfl rfl xn_27 (by decide +kernel) ⟨Nat.le_of_ble_eq_true rfl, Nat.le_of_ble_eq_true rfl⟩ rfl (Nat.le_of_ble_eq_true rfl) dX9_look_61 ⟨Nat.le_of_ble_eq_true rfl, Nat.le_of_ble_eq_true rfl⟩) hl (fun r_14 S_13 H locs h hN hw hl => ?_)
          have o_15 := oT_N hN o_9
          replace hNN := hN.trans hNN
          exact xt_i X hr hlocks hNN hw hl h dX9_look_64
        · have h := hsw.2.2 o_R
          refine xc_i (xr_A (n := 0) (As := []) (i := u_8) X hk hw hv.1 (c_X2_appearance l Z et S_1 u_8 _ h) (tb_U tw_476 tw_471 tw_473 tw_474 tw_475 tw_49) (xE_crk o_R) rfl rfl rfl rfl xn_27 (by decide +kernel) ⟨Nat.le_of_ble_eq_true rfl, Nat.le_of_ble_eq_true rfl⟩ rfl (Nat.le_of_ble_eq_true rfl) dX9_look_61 ⟨Nat.le_of_ble_eq_true rfl, Nat.le_of_ble_eq_true rfl⟩) hl (fun r_17 S_16 H locs h hN hw hl => ?_)
          have o_18 := oT_N hN o_9
          replace hNN := hN.trans hNN
          exact xt_i X hr hlocks hNN hw hl h dX9_look_64
      · skip
        replace h := h.1 c_7
        refine lv_iconst (v := (-1)) X.1 X.2.1 dX9_look_56 (by decide) ?_
        refine lv_goto (tgt := 64) X.1 X.2.1 dX9_look_57 (by decide) ?_
        exact xt_i X hr hlocks hNN hw hl h dX9_look_64
    by_cases k_1 : x2 = 1
    · have h := hsw.2.1 k_1
      refine lv_tableIn (off := 45) (tgt := 65) X.1 X.2.1 dX9_look_20 (by rw [k_1]; decide) (by rw [k_1]; decide) (by rw [k_1]; rfl) (by decide) ?_
      refine xv_aload_n X.1 X.2.1 dX9_look_65 rfl (lv_at hv 0 rfl) ?_
      refine xv_ifnonnull (tgt := 73) X.1 X.2.1 dX9_look_66 (by decide) (fun u_20 c_19 => ?_) (fun c_19 => ?_)
      · skip
        replace h := h.2 u_20 c_19
        rw [c_19] at hv
        replace hv : lv_has ls 4 [(3, .ref (et (u_20))), (0, .ref (et (32))), (1, .int (x1)), (2, .int (x2))] := hv
        refine lv_aload_n X.1 X.2.1 dX9_look_73 rfl (lv_at hv 0 rfl) ?_
        obtain ⟨o_21, h⟩ := h
        have hsw := h
        rcases oT_or o_21 with o_R | o_R | o_R
        · have h := hsw.1 o_R
          refine xc_i (xr_A (n := 0) (As := []) (i := u_20) X hk hw hv.1 (c_X5_measure l Z et S_1 u_20 _ h) (tb_U tw_494 tw_483 tw_485 tw_492 tw_493 tw_48) (xE_row o_R) rfl rfl rfl rfl xn_28 (by decide +kernel) ⟨Nat.le_of_ble_eq_true rfl, Nat.le_of_ble_eq_true rfl⟩ rfl (Nat.le_of_ble_eq_true rfl) dX9_look_74 ⟨Nat.le_of_ble_eq_true rfl, Nat.le_of_ble_eq_true rfl⟩) hl (fun r_23 S_22 H locs h hN hw hl => ?_)
          have o_24 := oT_N hN o_21
          replace hNN := hN.trans hNN
          exact xt_i X hr hlocks hNN hw hl h dX9_look_77
        · have h := hsw.2.1 o_R
          refine xc_i (xr_A (n := 0) (As := []) (i := u_20) X hk hw hv.1 (c_X3_measure l Z et S_1 u_20 _ h) (tb_U tw_491 tw_483 tw_485 tw_489 tw_490 tw_50) (xE_fig o_R) rfl rfl rfl rfl xn_28 (by decide +kernel) ⟨Nat.le_of_ble_eq_true rfl, Nat.le_of_ble_eq_true rfl⟩ rfl (Nat.le_of_ble_eq_true rfl) dX9_look_74 ⟨Nat.le_of_ble_eq_true rfl, Nat.le_of_ble_eq_true rfl⟩) hl (fun r_26 S_25 H locs h hN hw hl => ?_)
          have o_27 := oT_N hN o_21
          replace hNN := hN.trans hNN
          exact xt_i X hr hlocks hNN hw hl h dX9_look_77
        · have h := hsw.2.2 o_R
          refine xc_i (xr_A (n := 0) (As := []) (i := u_20) X hk hw hv.1 (c_X2_measure l Z et S_1 u_20 _ h) (tb_U tw_488 tw_483 tw_485 tw_486 tw_487 tw_49) (xE_crk o_R) rfl rfl rfl rfl xn_28 (by decide +kernel) ⟨Nat.le_of_ble_eq_true rfl, Nat.le_of_ble_eq_true rfl⟩ rfl (Nat.le_of_ble_eq_true rfl) dX9_look_74 ⟨Nat.le_of_ble_eq_true rfl, Nat.le_of_ble_eq_true rfl⟩) hl (fun r_29 S_28 H locs h hN hw hl => ?_)
          have o_30 := oT_N hN o_21
          replace hNN := hN.trans hNN
          exact xt_i X hr hlocks hNN hw hl h dX9_look_77
      · skip
        replace h := h.1 c_19
        refine lv_iconst (v := (-1)) X.1 X.2.1 dX9_look_69 (by decide) ?_
        refine lv_goto (tgt := 77) X.1 X.2.1 dX9_look_70 (by decide) ?_
        exact xt_i X hr hlocks hNN hw hl h dX9_look_77
    by_cases k_2 : x2 = 2
    · have h := hsw.2.2.1 k_2
      refine lv_tableIn (off := 58) (tgt := 78) X.1 X.2.1 dX9_look_20 (by rw [k_2]; decide) (by rw [k_2]; decide) (by rw [k_2]; rfl) (by decide) ?_
      refine lv_aload_n X.1 X.2.1 dX9_look_78 rfl (lv_at hv 1 rfl) ?_
      refine xw_get X hk hw (i := 32) 0 xe_32 rfl tlX9 (by decide) rfl tw_164 dX9_look_79 ?_
      refine xw_getN X hk hw (i := 33) 1 xe_33 rfl tlX0 (by decide) rfl xn_6 dX9_look_82 ?_
      refine lv_iload_n X.1 X.2.1 dX9_look_85 rfl (lv_at hv 2 rfl) ?_
      obtain ⟨j_31, e_32, b_33, h⟩ := h
      refine xw_ild X hk hw xe_38 e_32 b_33 (by decide) dX9_look_86 ?_
      exact xt_i X hr hlocks hNN hw hl h dX9_look_87
    by_cases k_3 : x2 = 3
    · have h := hsw.2.2.2.1 k_3
      refine lv_tableIn (off := 68) (tgt := 88) X.1 X.2.1 dX9_look_20 (by rw [k_3]; decide) (by rw [k_3]; decide) (by rw [k_3]; rfl) (by decide) ?_
      refine lv_aload_n X.1 X.2.1 dX9_look_88 rfl (lv_at hv 1 rfl) ?_
      refine xw_get X hk hw (i := 32) 0 xe_32 rfl tlX9 (by decide) rfl tw_164 dX9_look_89 ?_
      refine xv_aload_n X.1 X.2.1 dX9_look_92 rfl (lv_at hv 0 rfl) ?_
      refine xc_i (xr_V (n := 1) (As := [va_rf (Option.map et (xQ S_1 37 j_4))]) (i := 33) X hk hw hv.1 (c_X0_leastHolder l Z et S_1 (xQ S_1 37 j_4) _ h) (tb_V tw_498 tw_495 tw_496 tw_497 tw_40) xe_33 rfl rfl rfl rfl (by decide +kernel) ⟨Nat.le_of_ble_eq_true rfl, Nat.le_of_ble_eq_true rfl⟩ rfl (Nat.le_of_ble_eq_true rfl) dX9_look_93 ⟨Nat.le_of_ble_eq_true rfl, Nat.le_of_ble_eq_true rfl⟩) hl (fun r_35 S_34 H locs h hN hw hl => ?_)
      replace hNN := hN.trans hNN
      exact xt_i X hr hlocks hNN hw hl h dX9_look_96
    have h := hsw.2.2.2.2 k_0 k_1 k_2 k_3
    have n_0 := lv_neT k_0 (a := 0) (by decide)
    have n_1 := lv_neT k_1 (a := 1) (by decide)
    have n_2 := lv_neT k_2 (a := 2) (by decide)
    have n_3 := lv_neT k_3 (a := 3) (by decide)
    refine lv_tableOut (tgt := 97) X.1 X.2.1 dX9_look_20 (by omega) (by decide) ?_
    refine lv_iconst (v := (-1)) X.1 X.2.1 dX9_look_97 (by decide) ?_
    exact xt_i X hr hlocks hNN hw hl h dX9_look_98
  · skip
    replace h := h.2 c_3
    refine lv_iconst (v := (-1)) X.1 X.2.1 dX9_look_7 (by decide) ?_
    exact xt_i X hr hlocks hNN hw hl h dX9_look_8
