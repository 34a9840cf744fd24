theorem oT_map {Z : xz_T} {et et1 : Nat → Nat} {S : xs_T} {q : Option Nat} (hs : xst Z et S et1) (h : oT S q) : Option.map et1 q = Option.map et q := by
  cases q with
  | none => rfl
  | some u => show some (et1 u) = some (et u); rw [hs u (oT_ne h)]
def v_X6_makeRow (x1 : Int32) (x2 : Int32) (S : xs_T) (K : Option Nat → xs_T → Prop) : Prop := ∀ S_1 : xs_T, S_1 = sF S 40 2 (((xF S 40 2) + 1)) → ∀ S_3 : xs_T, S_3 = sF S_1 40 3 (((xF S_1 40 3) + x2)) → xN S_3 0 < 120 ∧ (∀ i k : Nat, xQ S_3 i k ≠ some (64 + xN S_3 0)) ∧ ∀ (u_7 : Nat) (S_8 : xs_T), u_7 = 64 + xN S_3 0 → S_8 = mkH S_3 → v_X5_init (u_7) (x1) (x2) S_8 (fun (S_12 : xs_T) => K (some (u_7)) S_12)
set_option maxHeartbeats 4000000 in
set_option maxRecDepth 100000 in
theorem c_X6_makeRow (l : Launch) (Z : xz_T) (et : Nat → Nat) (S : xs_T) (x1 : Int32) (x2 : Int32) (K : Option Nat → xs_T → Prop) (h5 : xN S 5 = 0) (h : v_X6_makeRow x1 x2 S K) : Met l yX6_makeRow (wq yX6_makeRow cX6_makeRow 3 (some (.object "PinBarrels$Row"))) { frames := 3, cells := 2, slots := 66, locals := 72 } (xPc Z et S [.ref (et (40)), .int (x1), .int (x2)]) (xAq Z et S K) 2 66 (fun q => Z.2.2.1 ≤ q) := by
  refine Met.ofW (cc := cX6_makeRow) (maxL := 3) (ret := (some (.object "PinBarrels$Row"))) (by decide +kernel) rfl ?_
  intro p e s m args below meth c s₁ B hml hv0
  obtain ⟨rfl, hk, hw⟩ := hv0
  have X : CallFix p m c cX6_makeRow 3 s _ (wq yX6_makeRow cX6_makeRow 3 (some (.object "PinBarrels$Row"))) RX6 := ⟨B.exec, B.bytes, hml, findClass_of_methodNamed B.named, atoms_spec (ws := (wq yX6_makeRow cX6_makeRow 3 (some (.object "PinBarrels$Row")))) B.pre⟩
  have hr := B.returns
  have hlocks := B.notSynchronized
  have hl : xl Z [] := fun _ h => by cases h
  have hst : xst Z et S et := fun _ _ => rfl
  have hg : xgr S S := xgr.refl h5
  have hv := lv_entry [.ref (et (40)), .int (x1), .int (x2)] (n := 3) (Nat.le_of_ble_eq_true rfl)
  rw [lg_entry_eq]
  generalize (lg_sl [.ref (et (40)), .int (x1), .int (x2)] ++ List.replicate (3 - (lg_sl [.ref (et (40)), .int (x1), .int (x2)]).length) Slot.unset).toArray = ls at hv ⊢
  replace hv : lv_has ls 3 [(0, .ref (et (40))), (1, .int (x1)), (2, .int (x2))] := hv
  unfold v_X6_makeRow at h
  refine lv_aload_n X.1 X.2.1 dX6_makeRow_0 rfl (lv_at hv 0 rfl) ?_
  refine lv_dup X.1 X.2.1 dX6_makeRow_1 rfl ?_
  refine xw_get X hk hw (i := 40) 2 xe_40 rfl tlX6 (by decide) rfl tw_81 dX6_makeRow_2 ?_
  refine lv_iconst (v := 1) X.1 X.2.1 dX6_makeRow_5 (by decide) ?_
  refine lv_iadd X.1 X.2.1 dX6_makeRow_6 ?_
  refine xw_put X hk hw hl (i := 40) 2 xe_40 rfl rfl tlX6 tyX6 tyX6_ok nmX6 (by decide) tw_81 rfl rfl (Nat.le_of_ble_eq_true rfl) dX6_makeRow_7 (fun H locs hw hl => ?_)
  obtain ⟨S_1, e_2⟩ : ∃ T : xs_T, T = sF S 40 2 (((xF S 40 2) + 1)) := ⟨_, rfl⟩
  rw [← e_2] at hw
  replace h := h S_1 e_2
  have hN : S_1.2.2.2.2 = S.2.2.2.2 := by rw [e_2]; rfl
  replace hg := hg.N hN
  refine lv_aload_n X.1 X.2.1 dX6_makeRow_10 rfl (lv_at hv 0 rfl) ?_
  refine lv_dup X.1 X.2.1 dX6_makeRow_11 rfl ?_
  refine xw_get X hk hw (i := 40) 3 xe_40 rfl tlX6 (by decide) rfl tw_83 dX6_makeRow_12 ?_
  refine lv_iload_n X.1 X.2.1 dX6_makeRow_15 rfl (lv_at hv 2 rfl) ?_
  refine lv_iadd X.1 X.2.1 dX6_makeRow_16 ?_
  refine xw_put X hk hw hl (i := 40) 3 xe_40 rfl rfl tlX6 tyX6 tyX6_ok nmX6 (by decide) tw_83 rfl rfl (Nat.le_of_ble_eq_true rfl) dX6_makeRow_17 (fun H locs hw hl => ?_)
  obtain ⟨S_3, e_4⟩ : ∃ T : xs_T, T = sF S_1 40 3 (((xF S_1 40 3) + x2)) := ⟨_, rfl⟩
  rw [← e_4] at hw
  replace h := h S_3 e_4
  have hN : S_3.2.2.2.2 = S_1.2.2.2.2 := by rw [e_4]; rfl
  replace hg := hg.N hN
  obtain ⟨b_5, b_6, h⟩ := h
  refine xw_newH X hk hw hg.2.2.2.1 b_5 b_6 tw_321 (Nat.le_of_ble_eq_true rfl) (Nat.le_of_ble_eq_true rfl) dX6_makeRow_20 (fun et1 H hs1 hw => ?_)
  obtain ⟨S_8, e_9⟩ : ∃ T : xs_T, T = mkH S_3 := ⟨_, rfl⟩
  obtain ⟨u_7, e_10⟩ : ∃ n : Nat, n = 64 + xN S_3 0 := ⟨_, rfl⟩
  rw [← e_9] at hw
  rw [← e_10]
  replace h := h u_7 S_8 e_10 e_9
  replace hst := hst.trans h5 hg hs1
  have e_11 := hs1 (40) (sn_ne (xe_40 (S := S_3)))
  replace hv : lv_has ls 3 [(0, .ref (et1 (40))), (1, .int (x1)), (2, .int (x2))] := by rw [e_11]; exact hv
  generalize et1 = et at *
  refine lv_dup X.1 X.2.1 dX6_makeRow_23 rfl ?_
  refine lv_iload_n X.1 X.2.1 dX6_makeRow_24 rfl (lv_at hv 1 rfl) ?_
  refine lv_iload_n X.1 X.2.1 dX6_makeRow_25 rfl (lv_at hv 2 rfl) ?_
  replace hv : lv_has ls 3 [] := lv_sub hv [] rfl
  refine xc_av (xr_I (n := 2) (As := [.int (x1), .int (x2)]) (i := u_7) X hk hw hv.1 (c_X5_init l Z et S_8 (u_7) (x1) (x2) _ h) (tb_wq tw_324) tw_48 tw_322 tw_323 rfl rfl rfl (by decide +kernel) ⟨Nat.le_of_ble_eq_true rfl, Nat.le_of_ble_eq_true rfl⟩ rfl (Nat.le_of_ble_eq_true rfl) dX6_makeRow_26 ⟨Nat.le_of_ble_eq_true rfl, Nat.le_of_ble_eq_true rfl⟩) hl (fun S_12 et1 H locs h hs1 hg1 hw hl => ?_)
  rw [e_9] at hs1 hg1
  replace hst := xst_H h5 b_5 hg hst hs1
  replace hg := xgr_H hg hg1
  have e_14 := hs1 (u_7) (by rw [e_10]; exact sn_ne (xE_half (S := (mkH S_3)) (Nat.le_refl 1) b_5))
  refine W.eq (g2 := F0 m 29 ls ([.ref (et1 (u_7))])) (by rw [e_14]) ?_
  generalize et1 = et at *
  exact xt_aq (some (u_7)) X hr hlocks hst hg hw hl h dX6_makeRow_29
def v_X3_init (u0 : Nat) (x1 : Int32) (x2 : Int32) (S : xs_T) (K : xs_T → Prop) : Prop := v_X7_init (u0) S (fun (S_1 : xs_T) => oG S_1 u0 ∧ ∀ S_4 : xs_T, S_4 = sF S_1 u0 0 (x1) → ∀ S_7 : xs_T, S_7 = sF S_4 u0 1 (x2) → K S_7)
set_option maxHeartbeats 4000000 in
set_option maxRecDepth 100000 in
theorem c_X3_init (l : Launch) (Z : xz_T) (et : Nat → Nat) (S : xs_T) (u0 : Nat) (x1 : Int32) (x2 : Int32) (K : xs_T → Prop) (h : v_X3_init u0 x1 x2 S K) : Met l yX3_init (wq yX3_init cX3_init 3 none) { frames := 2, cells := 0, slots := 0, locals := 50 } (xPc Z et S [.ref (et (u0)), .int (x1), .int (x2)]) (xQv Z et S.2.2.2.2 K) 0 0 (fun q => Z.2.2.1 ≤ q) := by
  refine Met.ofW (cc := cX3_init) (maxL := 3) (ret := none) (by decide +kernel) rfl ?_
  intro p e s m args below meth c s₁ B hml hv0
  obtain ⟨rfl, hk, hw⟩ := hv0
  have X : CallFix p m c cX3_init 3 s _ (wq yX3_init cX3_init 3 none) RX3 := ⟨B.exec, B.bytes, hml, findClass_of_methodNamed B.named, atoms_spec (ws := (wq yX3_init cX3_init 3 none)) B.pre⟩
  have hr := B.returns
  have hlocks := B.notSynchronized
  have hin : meth.name = "<init>" := (name_of_methodNamed B.named B.method).1
  have hl : xl Z [] := fun _ h => by cases h
  have hNN : S.2.2.2.2 = S.2.2.2.2 := rfl
  have hv := lv_entry [.ref (et (u0)), .int (x1), .int (x2)] (n := 3) (Nat.le_of_ble_eq_true rfl)
  rw [lg_entry_eq]
  generalize (lg_sl [.ref (et (u0)), .int (x1), .int (x2)] ++ List.replicate (3 - (lg_sl [.ref (et (u0)), .int (x1), .int (x2)]).length) Slot.unset).toArray = ls at hv ⊢
  replace hv : lv_has ls 3 [(0, .ref (et (u0))), (1, .int (x1)), (2, .int (x2))] := hv
  unfold v_X3_init at h
  refine lv_aload_n X.1 X.2.1 dX3_init_0 rfl (lv_at hv 0 rfl) ?_
  refine xc_v (xr_IN (n := 0) (As := []) (i := u0) X hk hw hv.1 (c_X7_init l Z et S (u0) _ h) (tb_wq tw_327) tw_47 xn_23 tw_326 rfl rfl rfl (by decide +kernel) ⟨Nat.le_of_ble_eq_true rfl, Nat.le_of_ble_eq_true rfl⟩ rfl (Nat.le_of_ble_eq_true rfl) dX3_init_1 ⟨Nat.le_of_ble_eq_true rfl, Nat.le_of_ble_eq_true rfl⟩) hl (fun S_1 H locs h hN hw hl => ?_)
  replace hNN := hN.trans hNN
  refine lv_aload_n X.1 X.2.1 dX3_init_4 rfl (lv_at hv 0 rfl) ?_
  refine lv_iload_n X.1 X.2.1 dX3_init_5 rfl (lv_at hv 1 rfl) ?_
  obtain ⟨o_3, h⟩ := h
  refine xw_putF X hk hw hl hin (i := u0) 0 (xE_fig o_3) (xE_fig0 o_3) rfl tlX3 tyX3 tyX3_ok nmX3 (by decide) tw_373 rfl rfl rfl (Nat.le_of_ble_eq_true rfl) dX3_init_6 (fun H locs hw hl => ?_)
  obtain ⟨S_4, e_5⟩ : ∃ T : xs_T, T = sF S_1 u0 0 (x1) := ⟨_, rfl⟩
  rw [← e_5] at hw
  replace h := h S_4 e_5
  have hN : S_4.2.2.2.2 = S_1.2.2.2.2 := by rw [e_5]; rfl
  have o_6 := oG_N hN o_3
  replace hNN := hN.trans hNN
  refine lv_aload_n X.1 X.2.1 dX3_init_9 rfl (lv_at hv 0 rfl) ?_
  refine lv_iload_n X.1 X.2.1 dX3_init_10 rfl (lv_at hv 2 rfl) ?_
  refine xw_putF X hk hw hl hin (i := u0) 1 (xE_fig o_6) (xE_fig1 o_6) rfl tlX3 tyX3 tyX3_ok nmX3 (by decide) tw_376 rfl rfl rfl (Nat.le_of_ble_eq_true rfl) dX3_init_11 (fun H locs hw hl => ?_)
  obtain ⟨S_7, e_8⟩ : ∃ T : xs_T, T = sF S_4 u0 1 (x2) := ⟨_, rfl⟩
  rw [← e_8] at hw
  replace h := h S_7 e_8
  have hN : S_7.2.2.2.2 = S_4.2.2.2.2 := by rw [e_8]; rfl
  have o_9 := oG_N hN o_6
  replace hNN := hN.trans hNN
  exact xt_v X hr hlocks hNN hw hl h dX3_init_14
def v_X6_makeFigure (x1 : Int32) (S : xs_T) (K : Option Nat → xs_T → Prop) : Prop := xN S 1 < 400 ∧ (∀ i k : Nat, xQ S i k ≠ some (304 + xN S 1)) ∧ ∀ (u_3 : Nat) (S_4 : xs_T), u_3 = 304 + xN S 1 → S_4 = mkG S → v_X3_init (u_3) (x1) (((xF S_4 40 1) + 1)) S_4 (fun (S_9 : xs_T) => ∃ j_12 : Nat, (xF S_9 40 1) = nI j_12 ∧ j_12 < 400 ∧ ∀ S_15 : xs_T, S_15 = sQ S_9 41 j_12 (some (u_3)) → ∀ S_18 : xs_T, S_18 = sF S_15 40 1 (((xF S_15 40 1) + 1)) → K (some (u_3)) S_18)
set_option maxHeartbeats 4000000 in
set_option maxRecDepth 100000 in
theorem c_X6_makeFigure (l : Launch) (Z : xz_T) (et : Nat → Nat) (S : xs_T) (x1 : Int32) (K : Option Nat → xs_T → Prop) (h5 : xN S 5 = 0) (h : v_X6_makeFigure x1 S K) : Met l yX6_makeFigure (wq yX6_makeFigure cX6_makeFigure 3 (some (.object "PinBarrels$Figure"))) { frames := 3, cells := 1, slots := 2, locals := 72 } (xPc Z et S [.ref (et (40)), .int (x1)]) (xAq Z et S K) 1 2 (fun q => Z.2.2.1 ≤ q) := by
  refine Met.ofW (cc := cX6_makeFigure) (maxL := 3) (ret := (some (.object "PinBarrels$Figure"))) (by decide +kernel) rfl ?_
  intro p e s m args below meth c s₁ B hml hv0
  obtain ⟨rfl, hk, hw⟩ := hv0
  have X : CallFix p m c cX6_makeFigure 3 s _ (wq yX6_makeFigure cX6_makeFigure 3 (some (.object "PinBarrels$Figure"))) RX6 := ⟨B.exec, B.bytes, hml, findClass_of_methodNamed B.named, atoms_spec (ws := (wq yX6_makeFigure cX6_makeFigure 3 (some (.object "PinBarrels$Figure")))) B.pre⟩
  have hr := B.returns
  have hlocks := B.notSynchronized
  have hl : xl Z [] := fun _ h => by cases h
  have hst : xst Z et S et := fun _ _ => rfl
  have hg : xgr S S := xgr.refl h5
  have hv := lv_entry [.ref (et (40)), .int (x1)] (n := 3) (Nat.le_of_ble_eq_true rfl)
  rw [lg_entry_eq]
  generalize (lg_sl [.ref (et (40)), .int (x1)] ++ List.replicate (3 - (lg_sl [.ref (et (40)), .int (x1)]).length) Slot.unset).toArray = ls at hv ⊢
  replace hv : lv_has ls 3 [(0, .ref (et (40))), (1, .int (x1))] := hv
  unfold v_X6_makeFigure at h
  obtain ⟨b_1, b_2, h⟩ := h
  refine xw_newG X hk hw b_1 b_2 tw_76 (Nat.le_of_ble_eq_true rfl) (Nat.le_of_ble_eq_true rfl) dX6_makeFigure_0 (fun et1 H hs1 hw => ?_)
  obtain ⟨S_4, e_5⟩ : ∃ T : xs_T, T = mkG S := ⟨_, rfl⟩
  obtain ⟨u_3, e_6⟩ : ∃ n : Nat, n = 304 + xN S 1 := ⟨_, rfl⟩
  rw [← e_5] at hw
  rw [← e_6]
  replace h := h u_3 S_4 e_6 e_5
  replace hst := hst.trans h5 hg hs1
  have hg1 : xgr S S_4 := by rw [e_5]; exact mkG_g hg.2.2.2.1
  replace hg := hg.trans hg1
  have o_7 : oG S_4 u_3 := by rw [e_5, e_6]; exact mkG_o b_1
  have e_8 := hs1 (40) (sn_ne (xe_40 (S := S)))
  replace hv : lv_has ls 3 [(0, .ref (et1 (40))), (1, .int (x1))] := by rw [e_8]; exact hv
  generalize et1 = et at *
  refine lv_dup X.1 X.2.1 dX6_makeFigure_3 rfl ?_
  refine lv_iload_n X.1 X.2.1 dX6_makeFigure_4 rfl (lv_at hv 1 rfl) ?_
  refine lv_aload_n X.1 X.2.1 dX6_makeFigure_5 rfl (lv_at hv 0 rfl) ?_
  refine xw_get X hk hw (i := 40) 1 xe_40 rfl tlX6 (by decide) rfl tw_79 dX6_makeFigure_6 ?_
  refine lv_iconst (v := 1) X.1 X.2.1 dX6_makeFigure_9 (by decide) ?_
  refine lv_iadd X.1 X.2.1 dX6_makeFigure_10 ?_
  refine xc_v (xr_I (n := 2) (As := [.int (x1), .int (((xF S_4 40 1) + 1))]) (i := u_3) X hk hw hv.1 (c_X3_init l Z et S_4 (u_3) (x1) (((xF S_4 40 1) + 1)) _ h) (tb_wq tw_371) tw_50 tw_369 tw_370 rfl rfl rfl (by decide +kernel) ⟨Nat.le_of_ble_eq_true rfl, Nat.le_of_ble_eq_true rfl⟩ rfl (Nat.le_of_ble_eq_true rfl) dX6_makeFigure_11 ⟨Nat.le_of_ble_eq_true rfl, Nat.le_of_ble_eq_true rfl⟩) hl (fun S_9 H locs h hN hw hl => ?_)
  have o_11 := oG_N hN o_7
  replace hg := hg.N hN
  refine lv_astore_n (lv' := [(2, .ref (et (u_3))), (0, .ref (et (40))), (1, .int (x1))]) X.1 X.2.1 dX6_makeFigure_14 rfl hv (by decide) rfl (fun ls hv => ?_)
  refine lv_aload_n X.1 X.2.1 dX6_makeFigure_15 rfl (lv_at hv 1 rfl) ?_
  refine xw_get X hk hw (i := 40) 0 xe_40 rfl tlX6 (by decide) rfl tw_78 dX6_makeFigure_16 ?_
  refine lv_aload_n X.1 X.2.1 dX6_makeFigure_19 rfl (lv_at hv 1 rfl) ?_
  refine xw_get X hk hw (i := 40) 1 xe_40 rfl tlX6 (by decide) rfl tw_79 dX6_makeFigure_20 ?_
  refine lv_aload_n X.1 X.2.1 dX6_makeFigure_23 rfl (lv_at hv 0 rfl) ?_
  obtain ⟨j_12, e_13, b_14, h⟩ := h
  refine xw_qst X hk hw hl (E := RX3) (some (u_3)) (oS_fig o_11) xe_41 rfl rfl e_13 b_14 (by decide) dX6_makeFigure_24 (fun H locs hw hl => ?_)
  obtain ⟨S_15, e_16⟩ : ∃ T : xs_T, T = sQ S_9 41 j_12 (some (u_3)) := ⟨_, rfl⟩
  rw [← e_16] at hw
  replace h := h S_15 e_16
  have hN : S_15.2.2.2.2 = S_9.2.2.2.2 := by rw [e_16]; rfl
  have o_17 := oG_N hN o_11
  replace hg := hg.N hN
  refine lv_aload_n X.1 X.2.1 dX6_makeFigure_25 rfl (lv_at hv 1 rfl) ?_
  refine lv_dup X.1 X.2.1 dX6_makeFigure_26 rfl ?_
  refine xw_get X hk hw (i := 40) 1 xe_40 rfl tlX6 (by decide) rfl tw_79 dX6_makeFigure_27 ?_
  refine lv_iconst (v := 1) X.1 X.2.1 dX6_makeFigure_30 (by decide) ?_
  refine lv_iadd X.1 X.2.1 dX6_makeFigure_31 ?_
  refine xw_put X hk hw hl (i := 40) 1 xe_40 rfl rfl tlX6 tyX6 tyX6_ok nmX6 (by decide) tw_79 rfl rfl (Nat.le_of_ble_eq_true rfl) dX6_makeFigure_32 (fun H locs hw hl => ?_)
  obtain ⟨S_18, e_19⟩ : ∃ T : xs_T, T = sF S_15 40 1 (((xF S_15 40 1) + 1)) := ⟨_, rfl⟩
  rw [← e_19] at hw
  replace h := h S_18 e_19
  have hN : S_18.2.2.2.2 = S_15.2.2.2.2 := by rw [e_19]; rfl
  have o_20 := oG_N hN o_17
  replace hg := hg.N hN
  refine lv_aload_n X.1 X.2.1 dX6_makeFigure_35 rfl (lv_at hv 0 rfl) ?_
  exact xt_aq (some (u_3)) X hr hlocks hst hg hw hl h dX6_makeFigure_36
def v_X2_init (u0 : Nat) (S : xs_T) (K : xs_T → Prop) : Prop := v_X7_init (u0) S (fun (S_1 : xs_T) => K S_1)
set_option maxHeartbeats 4000000 in
set_option maxRecDepth 100000 in
theorem c_X2_init (l : Launch) (Z : xz_T) (et : Nat → Nat) (S : xs_T) (u0 : Nat) (K : xs_T → Prop) (h : v_X2_init u0 S K) : Met l yX2_init (wq yX2_init cX2_init 1 none) { frames := 2, cells := 0, slots := 0, locals := 50 } (xPc Z et S [.ref (et (u0))]) (xQv Z et S.2.2.2.2 K) 0 0 (fun q => Z.2.2.1 ≤ q) := by
  refine Met.ofW (cc := cX2_init) (maxL := 1) (ret := none) (by decide +kernel) rfl ?_
  intro p e s m args below meth c s₁ B hml hv0
  obtain ⟨rfl, hk, hw⟩ := hv0
  have X : CallFix p m c cX2_init 1 s _ (wq yX2_init cX2_init 1 none) RX2 := ⟨B.exec, B.bytes, hml, findClass_of_methodNamed B.named, atoms_spec (ws := (wq yX2_init cX2_init 1 none)) B.pre⟩
  have hr := B.returns
  have hlocks := B.notSynchronized
  have hin : meth.name = "<init>" := (name_of_methodNamed B.named B.method).1
  have hl : xl Z [] := fun _ h => by cases h
  have hNN : S.2.2.2.2 = S.2.2.2.2 := rfl
  have hv := lv_entry [.ref (et (u0))] (n := 1) (Nat.le_of_ble_eq_true rfl)
  rw [lg_entry_eq]
  generalize (lg_sl [.ref (et (u0))] ++ List.replicate (1 - (lg_sl [.ref (et (u0))]).length) Slot.unset).toArray = ls at hv ⊢
  replace hv : lv_has ls 1 [(0, .ref (et (u0)))] := hv
  unfold v_X2_init at h
  refine lv_aload_n X.1 X.2.1 dX2_init_0 rfl (lv_at hv 0 rfl) ?_
  refine xc_v (xr_IN (n := 0) (As := []) (i := u0) X hk hw hv.1 (c_X7_init l Z et S (u0) _ h) (tb_wq tw_327) tw_47 xn_22 tw_326 rfl rfl rfl (by decide +kernel) ⟨Nat.le_of_ble_eq_true rfl, Nat.le_of_ble_eq_true rfl⟩ rfl (Nat.le_of_ble_eq_true rfl) dX2_init_1 ⟨Nat.le_of_ble_eq_true rfl, Nat.le_of_ble_eq_true rfl⟩) hl (fun S_1 H locs h hN hw hl => ?_)
  replace hNN := hN.trans hNN
  exact xt_v X hr hlocks hNN hw hl h dX2_init_4
def v_X0_make (x1 : Int32) (x2 : Int32) (x3 : Int32) (S : xs_T) (K : Int32 → xs_T → Prop) : Prop := ((0 ≤ x3 → v_X6_hasRoomForRow (x3) S (fun (r_3 : Int32) (S_2 : xs_T) => ((¬ r_3 = 0 → v_X6_makeRow (x2) (x3) S_2 (fun (r_6 : Option Nat) (S_5 : xs_T) => oT S_5 (r_6) ∧ ∃ j_9 : Nat, x1 = nI j_9 ∧ j_9 < 10 ∧ ∀ S_12 : xs_T, S_12 = sQ S_5 37 j_9 (r_6) → K (0) S_12)) ∧ (r_3 = 0 → K (4) S_2)))) ∧ (¬ 0 ≤ x3 → K (5) S))
set_option maxHeartbeats 4000000 in
set_option maxRecDepth 100000 in
theorem c_X0_make (l : Launch) (Z : xz_T) (et : Nat → Nat) (S : xs_T) (x1 : Int32) (x2 : Int32) (x3 : Int32) (K : Int32 → xs_T → Prop) (h5 : xN S 5 = 0) (h : v_X0_make x1 x2 x3 S K) : Met l yX0_make (wq yX0_make cX0_make 4 (some .int)) { frames := 4, cells := 2, slots := 66, locals := 94 } (xPc Z et S [.ref (et (33)), .int (x1), .int (x2), .int (x3)]) (xAi Z et S K) 2 66 (fun q => Z.2.2.1 ≤ q) := by
  refine Met.ofW (cc := cX0_make) (maxL := 4) (ret := (some .int)) (by decide +kernel) rfl ?_
  intro p e s m args below meth c s₁ B hml hv0
  obtain ⟨rfl, hk, hw⟩ := hv0
  have X : CallFix p m c cX0_make 4 s _ (wq yX0_make cX0_make 4 (some .int)) RX0 := ⟨B.exec, B.bytes, hml, findClass_of_methodNamed B.named, atoms_spec (ws := (wq yX0_make cX0_make 4 (some .int))) B.pre⟩
  have hr := B.returns
  have hlocks := B.notSynchronized
  have hl : xl Z [] := fun _ h => by cases h
  have hst : xst Z et S et := fun _ _ => rfl
  have hg : xgr S S := xgr.refl h5
  have hv := lv_entry [.ref (et (33)), .int (x1), .int (x2), .int (x3)] (n := 4) (Nat.le_of_ble_eq_true rfl)
  rw [lg_entry_eq]
  generalize (lg_sl [.ref (et (33)), .int (x1), .int (x2), .int (x3)] ++ List.replicate (4 - (lg_sl [.ref (et (33)), .int (x1), .int (x2), .int (x3)]).length) Slot.unset).toArray = ls at hv ⊢
  replace hv : lv_has ls 4 [(0, .ref (et (33))), (1, .int (x1)), (2, .int (x2)), (3, .int (x3))] := hv
  unfold v_X0_make at h
  refine lv_iload_n X.1 X.2.1 dX0_make_0 rfl (lv_at hv 3 rfl) ?_
  refine lv_if_ge (tgt := 6) X.1 X.2.1 dX0_make_1 (by decide) (fun c_1 => ?_) (fun c_1 => ?_)
  · skip
    replace h := h.1 c_1
    refine lv_aload_n X.1 X.2.1 dX0_make_6 rfl (lv_at hv 0 rfl) ?_
    refine xw_get X hk hw (i := 33) 3 xe_33 rfl tlX0 (by decide) rfl tw_101 dX0_make_7 ?_
    refine lv_iload_n X.1 X.2.1 dX0_make_10 rfl (lv_at hv 3 rfl) ?_
    refine xc_i (xr_V (n := 1) (As := [.int (x3)]) (i := 40) X hk hw hv.1 (c_X6_hasRoomForRow l Z et S (x3) _ h) (tb_V tw_316 tw_313 tw_314 tw_315 tw_41) xe_40 rfl rfl rfl rfl (by decide +kernel) ⟨Nat.le_of_ble_eq_true rfl, Nat.le_of_ble_eq_true rfl⟩ rfl (Nat.le_of_ble_eq_true rfl) dX0_make_11 ⟨Nat.le_of_ble_eq_true rfl, Nat.le_of_ble_eq_true rfl⟩) hl (fun r_3 S_2 H locs h hN hw hl => ?_)
    replace hg := hg.N hN
    refine lv_if_ne (tgt := 19) X.1 X.2.1 dX0_make_14 (by decide) (fun c_4 => ?_) (fun c_4 => ?_)
    · skip
      replace h := h.1 c_4
      refine lv_aload_n X.1 X.2.1 dX0_make_19 rfl (lv_at hv 0 rfl) ?_
      refine xw_get X hk hw (i := 33) 0 xe_33 rfl tlX0 (by decide) rfl tw_96 dX0_make_20 ?_
      refine lv_iload_n X.1 X.2.1 dX0_make_23 rfl (lv_at hv 1 rfl) ?_
      refine lv_aload_n X.1 X.2.1 dX0_make_24 rfl (lv_at hv 0 rfl) ?_
      refine xw_get X hk hw (i := 33) 3 xe_33 rfl tlX0 (by decide) rfl tw_101 dX0_make_25 ?_
      refine lv_iload_n X.1 X.2.1 dX0_make_28 rfl (lv_at hv 2 rfl) ?_
      refine lv_iload_n X.1 X.2.1 dX0_make_29 rfl (lv_at hv 3 rfl) ?_
      replace hv : lv_has ls 4 [] := lv_sub hv [] rfl
      refine xc_aq (xr_V (n := 2) (As := [.int (x2), .int (x3)]) (i := 40) X hk hw hv.1 (c_X6_makeRow l Z et S_2 (x2) (x3) _ (hg.2.2.2.1) h) (tb_V tw_320 tw_317 tw_318 tw_319 tw_41) xe_40 rfl rfl rfl rfl (by decide +kernel) ⟨Nat.le_of_ble_eq_true rfl, Nat.le_of_ble_eq_true rfl⟩ rfl (Nat.le_of_ble_eq_true rfl) dX0_make_30 ⟨Nat.le_of_ble_eq_true rfl, Nat.le_of_ble_eq_true rfl⟩) hl (fun r_6 S_5 et1 H locs h hs1 hg1 hw hl => ?_)
      replace hst := hst.trans h5 hg hs1
      replace hg := hg.trans hg1
      have e_7 := hs1 (37) (sn_ne (xe_37 (S := S_2)))
      refine W.eq (g2 := F0 m 33 ls (va_rf (Option.map et1 r_6) :: [.int (x1), .ref (et1 (37))])) (by rw [e_7]) ?_
      generalize et1 = et at *
      obtain ⟨o_8, h⟩ := h
      obtain ⟨j_9, e_10, b_11, h⟩ := h
      refine xw_qst X hk hw hl (E := RX7) (r_6) (oS_T o_8) xe_37 rfl rfl e_10 b_11 (by decide) dX0_make_33 (fun H locs hw hl => ?_)
      obtain ⟨S_12, e_13⟩ : ∃ T : xs_T, T = sQ S_5 37 j_9 (r_6) := ⟨_, rfl⟩
      rw [← e_13] at hw
      replace h := h S_12 e_13
      have hN : S_12.2.2.2.2 = S_5.2.2.2.2 := by rw [e_13]; rfl
      have o_14 := oT_N hN o_8
      replace hg := hg.N hN
      refine lv_iconst (v := 0) X.1 X.2.1 dX0_make_34 (by decide) ?_
      exact xt_ai X hr hlocks hst hg hw hl h dX0_make_35
    · skip
      replace h := h.2 c_4
      refine lv_iconst (v := 4) X.1 X.2.1 dX0_make_17 (by decide) ?_
      refine W.widen (k := 2) (n := 66) (by omega) (by omega) ?_
      exact xt_ai X hr hlocks hst hg hw hl h dX0_make_18
  · skip
    replace h := h.2 c_1
    refine lv_iconst (v := 5) X.1 X.2.1 dX0_make_4 (by decide) ?_
    refine W.widen (k := 2) (n := 66) (by omega) (by omega) ?_
    exact xt_ai X hr hlocks hst hg hw hl h dX0_make_5
def v_X0_twin (x1 : Int32) (x2 : Int32) (S : xs_T) (K : Int32 → xs_T → Prop) : Prop := ∃ j_1 : Nat, x2 = nI j_1 ∧ j_1 < 10 ∧ ((xQ S 37 j_1 = none → K (1) S) ∧ (∀ u_5 : Nat, xQ S 37 j_1 = some u_5 → ∃ j_6 : Nat, x2 = nI j_6 ∧ j_6 < 10 ∧ oT S (xQ S 37 j_6) ∧ ((∀ u_10 : Nat, xQ S 37 j_6 = some u_10 → oR S u_10 → v_X6_hasRoomForRow ((nI (xN S (u_10 + 120)))) S (fun (r_14 : Int32) (S_13 : xs_T) => ((¬ r_14 = 0 → v_X6_makeRow ((xF S_13 u_10 0)) ((nI (xN S_13 (u_10 + 120)))) S_13 (fun (r_19 : Option Nat) (S_18 : xs_T) => ∃ u_24 : Nat, r_19 = some u_24 ∧ oR S_18 u_24 ∧ v_X5_copyTo (u_10) ((u_24 + 120)) S_18 (fun (S_27 : xs_T) => ∃ j_32 : Nat, x1 = nI j_32 ∧ j_32 < 10 ∧ ∀ S_35 : xs_T, S_35 = sQ S_27 37 j_32 (some (u_24)) → K (0) S_35))) ∧ (r_14 = 0 → K (4) S_13)))) ∧ (¬ iR S (xQ S 37 j_6) → K (2) S))))
set_option maxHeartbeats 4000000 in
set_option maxRecDepth 100000 in
theorem c_X0_twin (l : Launch) (Z : xz_T) (et : Nat → Nat) (S : xs_T) (x1 : Int32) (x2 : Int32) (K : Int32 → xs_T → Prop) (h5 : xN S 5 = 0) (h : v_X0_twin x1 x2 S K) : Met l yX0_twin (wq yX0_twin cX0_twin 5 (some .int)) { frames := 4, cells := 2, slots := 66, locals := 94 } (xPc Z et S [.ref (et (33)), .int (x1), .int (x2)]) (xAi Z et S K) 2 66 (fun q => Z.2.2.1 ≤ q) := by
  refine Met.ofW (cc := cX0_twin) (maxL := 5) (ret := (some .int)) (by decide +kernel) rfl ?_
  intro p e s m args below meth c s₁ B hml hv0
  obtain ⟨rfl, hk, hw⟩ := hv0
  have X : CallFix p m c cX0_twin 5 s _ (wq yX0_twin cX0_twin 5 (some .int)) RX0 := ⟨B.exec, B.bytes, hml, findClass_of_methodNamed B.named, atoms_spec (ws := (wq yX0_twin cX0_twin 5 (some .int))) B.pre⟩
  have hr := B.returns
  have hlocks := B.notSynchronized
  have hl : xl Z [] := fun _ h => by cases h
  have hst : xst Z et S et := fun _ _ => rfl
  have hg : xgr S S := xgr.refl h5
  have hv := lv_entry [.ref (et (33)), .int (x1), .int (x2)] (n := 5) (Nat.le_of_ble_eq_true rfl)
  rw [lg_entry_eq]
  generalize (lg_sl [.ref (et (33)), .int (x1), .int (x2)] ++ List.replicate (5 - (lg_sl [.ref (et (33)), .int (x1), .int (x2)]).length) Slot.unset).toArray = ls at hv ⊢
  replace hv : lv_has ls 5 [(0, .ref (et (33))), (1, .int (x1)), (2, .int (x2))] := hv
  unfold v_X0_twin at h
  refine lv_aload_n X.1 X.2.1 dX0_twin_0 rfl (lv_at hv 0 rfl) ?_
  refine xw_get X hk hw (i := 33) 0 xe_33 rfl tlX0 (by decide) rfl tw_96 dX0_twin_1 ?_
  refine lv_iload_n X.1 X.2.1 dX0_twin_4 rfl (lv_at hv 2 rfl) ?_
  obtain ⟨j_1, e_2, b_3, h⟩ := h
  refine xw_qld X hk hw xe_37 (C := RX7) rfl e_2 b_3 (by decide) dX0_twin_5 ?_
  refine xv_ifnonnull (tgt := 11) X.1 X.2.1 dX0_twin_6 (by decide) (fun u_5 c_4 => ?_) (fun c_4 => ?_)
  · skip
    replace h := h.2 u_5 c_4
    refine lv_aload_n X.1 X.2.1 dX0_twin_11 rfl (lv_at hv 0 rfl) ?_
    refine xw_get X hk hw (i := 33) 0 xe_33 rfl tlX0 (by decide) rfl tw_96 dX0_twin_12 ?_
    refine lv_iload_n X.1 X.2.1 dX0_twin_15 rfl (lv_at hv 2 rfl) ?_
    obtain ⟨j_6, e_7, b_8, h⟩ := h
    refine xw_qld X hk hw xe_37 (C := RX7) rfl e_7 b_8 (by decide) dX0_twin_16 ?_
    refine xv_astore (lv' := [(4, va_rf (Option.map et (xQ S 37 j_6))), (0, .ref (et (33))), (1, .int (x1)), (2, .int (x2))]) X.1 X.2.1 dX0_twin_17 hv (by decide) rfl (fun ls hv => ?_)
    refine xv_aload X.1 X.2.1 dX0_twin_19 (lv_at hv 0 rfl) ?_
    obtain ⟨o_9, h⟩ := h
    refine xw_instR X hk hw o_9 tw_241 dX0_twin_21 (fun u_10 c_11 o_12 => ?_) (fun c_11 => ?_)
    · skip
      replace h := h.1 u_10 c_11 o_12
      rw [c_11] at hv
      replace hv : lv_has ls 5 [(4, .ref (et (u_10))), (0, .ref (et (33))), (1, .int (x1)), (2, .int (x2))] := hv
      refine lv_if_eq (tgt := 36) X.1 X.2.1 dX0_twin_24 (by decide) (fun c => absurd c (by decide)) (fun _ => ?_)
      refine lv_aload X.1 X.2.1 dX0_twin_27 (lv_at hv 0 rfl) ?_
      refine xw_castR X hk hw o_12 tw_241 dX0_twin_29 ?_
      refine lv_astore_n (lv' := [(3, .ref (et (u_10))), (4, .ref (et (u_10))), (0, .ref (et (33))), (1, .int (x1)), (2, .int (x2))]) X.1 X.2.1 dX0_twin_32 rfl hv (by decide) rfl (fun ls hv => ?_)
      refine lv_goto (tgt := 38) X.1 X.2.1 dX0_twin_33 (by decide) ?_
      refine lv_aload_n X.1 X.2.1 dX0_twin_38 rfl (lv_at hv 2 rfl) ?_
      refine xw_get X hk hw (i := 33) 3 xe_33 rfl tlX0 (by decide) rfl tw_101 dX0_twin_39 ?_
      refine lv_aload_n X.1 X.2.1 dX0_twin_42 rfl (lv_at hv 0 rfl) ?_
      refine xw_getN X hk hw (i := u_10) 1 (xE_row o_12) rfl tlX5 (by decide) rfl xn_19 dX0_twin_43 ?_
      refine xw_len X hk hw (xE_arr o_12) dX0_twin_46 ?_
      refine xc_i (xr_V (n := 1) (As := [.int ((nI (xN S (u_10 + 120))))]) (i := 40) X hk hw hv.1 (c_X6_hasRoomForRow l Z et S ((nI (xN S (u_10 + 120)))) _ h) (tb_V tw_316 tw_313 tw_314 tw_315 tw_41) xe_40 rfl rfl rfl rfl (by decide +kernel) ⟨Nat.le_of_ble_eq_true rfl, Nat.le_of_ble_eq_true rfl⟩ rfl (Nat.le_of_ble_eq_true rfl) dX0_twin_47 ⟨Nat.le_of_ble_eq_true rfl, Nat.le_of_ble_eq_true rfl⟩) hl (fun r_14 S_13 H locs h hN hw hl => ?_)
      have o_15 := oT_N hN o_9
      have o_16 := oR_N hN o_12
      replace hg := hg.N hN
      refine lv_if_ne (tgt := 55) X.1 X.2.1 dX0_twin_50 (by decide) (fun c_17 => ?_) (fun c_17 => ?_)
      · skip
        replace h := h.1 c_17
        refine lv_aload_n X.1 X.2.1 dX0_twin_55 rfl (lv_at hv 2 rfl) ?_
        refine xw_get X hk hw (i := 33) 3 xe_33 rfl tlX0 (by decide) rfl tw_101 dX0_twin_56 ?_
        refine lv_aload_n X.1 X.2.1 dX0_twin_59 rfl (lv_at hv 0 rfl) ?_
        refine xw_getN X hk hw (i := u_10) 0 (xE_row o_16) rfl tlX5 (by decide) rfl xn_17 dX0_twin_60 ?_
        refine lv_aload_n X.1 X.2.1 dX0_twin_63 rfl (lv_at hv 0 rfl) ?_
        refine xw_getN X hk hw (i := u_10) 1 (xE_row o_16) rfl tlX5 (by decide) rfl xn_19 dX0_twin_64 ?_
        refine xw_len X hk hw (xE_arr o_16) dX0_twin_67 ?_
        replace hv : lv_has ls 5 [(3, .ref (et (u_10))), (0, .ref (et (33))), (1, .int (x1))] := lv_sub hv [0, 2, 3] rfl
        refine xc_aq (xr_V (n := 2) (As := [.int ((xF S_13 u_10 0)), .int ((nI (xN S_13 (u_10 + 120))))]) (i := 40) X hk hw hv.1 (c_X6_makeRow l Z et S_13 ((xF S_13 u_10 0)) ((nI (xN S_13 (u_10 + 120)))) _ (hg.2.2.2.1) h) (tb_V tw_320 tw_317 tw_318 tw_319 tw_41) xe_40 rfl rfl rfl rfl (by decide +kernel) ⟨Nat.le_of_ble_eq_true rfl, Nat.le_of_ble_eq_true rfl⟩ rfl (Nat.le_of_ble_eq_true rfl) dX0_twin_68 ⟨Nat.le_of_ble_eq_true rfl, Nat.le_of_ble_eq_true rfl⟩) hl (fun r_19 S_18 et1 H locs h hs1 hg1 hw hl => ?_)
        have o_20 := oT_g hg1 o_15
        have o_21 := oR_g hg1 o_16
        replace hst := hst.trans h5 hg hs1
        replace hg := hg.trans hg1
        have e_22 := hs1 (u_10) (sn_ne (xE_row o_16))
        have e_23 := hs1 (33) (sn_ne (xe_33 (S := S_13)))
        replace hv : lv_has ls 5 [(3, .ref (et1 (u_10))), (0, .ref (et1 (33))), (1, .int (x1))] := by rw [e_22, e_23]; exact hv
        generalize et1 = et at *
        refine xv_astore (lv' := [(4, va_rf (Option.map et (r_19))), (3, .ref (et (u_10))), (0, .ref (et (33))), (1, .int (x1))]) X.1 X.2.1 dX0_twin_71 hv (by decide) rfl (fun ls hv => ?_)
        refine lv_aload_n X.1 X.2.1 dX0_twin_73 rfl (lv_at hv 1 rfl) ?_
        refine xv_aload X.1 X.2.1 dX0_twin_74 (lv_at hv 0 rfl) ?_
        obtain ⟨u_24, c_25, h⟩ := h
        rw [c_25]
        rw [c_25] at hv
        replace hv : lv_has ls 5 [(4, .ref (et (u_24))), (3, .ref (et (u_10))), (0, .ref (et (33))), (1, .int (x1))] := hv
        obtain ⟨o_26, h⟩ := h
        refine xw_getN X hk hw (i := u_24) 1 (xE_row o_26) rfl tlX5 (by decide) rfl xn_19 dX0_twin_76 ?_
        refine xc_v (xr_V (n := 1) (As := [.ref (et ((u_24 + 120)))]) (i := u_10) X hk hw hv.1 (c_X5_copyTo l Z et S_18 (u_10) ((u_24 + 120)) _ h) (tb_V tw_229 tw_344 tw_227 tw_228 tw_48) (xE_row o_21) rfl rfl rfl rfl (by decide +kernel) ⟨Nat.le_of_ble_eq_true rfl, Nat.le_of_ble_eq_true rfl⟩ rfl (Nat.le_of_ble_eq_true rfl) dX0_twin_79 ⟨Nat.le_of_ble_eq_true rfl, Nat.le_of_ble_eq_true rfl⟩) hl (fun S_27 H locs h hN hw hl => ?_)
        have o_29 := oT_N hN o_20
        have o_30 := oR_N hN o_21
        have o_31 := oR_N hN o_26
        replace hg := hg.N hN
        refine lv_aload_n X.1 X.2.1 dX0_twin_82 rfl (lv_at hv 2 rfl) ?_
        refine xw_get X hk hw (i := 33) 0 xe_33 rfl tlX0 (by decide) rfl tw_96 dX0_twin_83 ?_
        refine lv_iload_n X.1 X.2.1 dX0_twin_86 rfl (lv_at hv 3 rfl) ?_
        refine lv_aload X.1 X.2.1 dX0_twin_87 (lv_at hv 0 rfl) ?_
        obtain ⟨j_32, e_33, b_34, h⟩ := h
        refine xw_qst X hk hw hl (E := RX7) (some (u_24)) (oS_T (Or.inr ⟨_, rfl, Or.inl o_31⟩)) xe_37 rfl rfl e_33 b_34 (by decide) dX0_twin_89 (fun H locs hw hl => ?_)
        obtain ⟨S_35, e_36⟩ : ∃ T : xs_T, T = sQ S_27 37 j_32 (some (u_24)) := ⟨_, rfl⟩
        rw [← e_36] at hw
        replace h := h S_35 e_36
        have hN : S_35.2.2.2.2 = S_27.2.2.2.2 := by rw [e_36]; rfl
        have o_37 := oT_N hN o_29
        have o_38 := oR_N hN o_30
        have o_39 := oR_N hN o_31
        replace hg := hg.N hN
        refine lv_iconst (v := 0) X.1 X.2.1 dX0_twin_90 (by decide) ?_
        exact xt_ai X hr hlocks hst hg hw hl h dX0_twin_91
      · skip
        replace h := h.2 c_17
        refine lv_iconst (v := 4) X.1 X.2.1 dX0_twin_53 (by decide) ?_
        refine W.widen (k := 2) (n := 66) (by omega) (by omega) ?_
        exact xt_ai X hr hlocks hst hg hw hl h dX0_twin_54
    · skip
      replace h := h.2 c_11
      refine lv_if_eq (tgt := 36) X.1 X.2.1 dX0_twin_24 (by decide) (fun _ => ?_) (fun c => absurd c (by decide))
      refine lv_iconst (v := 2) X.1 X.2.1 dX0_twin_36 (by decide) ?_
      refine W.widen (k := 2) (n := 66) (by omega) (by omega) ?_
      exact xt_ai X hr hlocks hst hg hw hl h dX0_twin_37
  · skip
    replace h := h.1 c_4
    refine lv_iconst (v := 1) X.1 X.2.1 dX0_twin_9 (by decide) ?_
    refine W.widen (k := 2) (n := 66) (by omega) (by omega) ?_
    exact xt_ai X hr hlocks hst hg hw hl h dX0_twin_10
def v_X0_hang (x1 : Int32) (x2 : Int32) (S : xs_T) (K : Int32 → xs_T → Prop) : Prop := ((¬ x2 = 0 → ((¬ x2 = 1 → v_X6_hasRoomForFigure  S (fun (r_4 : Int32) (S_3 : xs_T) => ((¬ r_4 = 0 → v_X6_makeFigure ((x2 - 1)) S_3 (fun (r_7 : Option Nat) (S_6 : xs_T) => oT S_6 (r_7) ∧ ∃ j_10 : Nat, x1 = nI j_10 ∧ j_10 < 10 ∧ ∀ S_13 : xs_T, S_13 = sQ S_6 37 j_10 (r_7) → K (0) S_13)) ∧ (r_4 = 0 → K (4) S_3)))) ∧ (x2 = 1 → (∀ i k : Nat, xQ S i k ≠ some (704 + xN S 2)) ∧ ∀ (u_18 : Nat) (S_19 : xs_T), u_18 = 704 + xN S 2 → S_19 = mkC S → v_X2_init (u_18) S_19 (fun (S_25 : xs_T) => ∃ j_28 : Nat, x1 = nI j_28 ∧ j_28 < 10 ∧ ∀ S_31 : xs_T, S_31 = sQ S_25 37 j_28 (some (u_18)) → K (0) S_31)))) ∧ (x2 = 0 → ∃ j_34 : Nat, x1 = nI j_34 ∧ j_34 < 10 ∧ ∀ S_37 : xs_T, S_37 = sQ S 37 j_34 none → K (0) S_37))
set_option maxHeartbeats 4000000 in
set_option maxRecDepth 100000 in
theorem c_X0_hang (l : Launch) (Z : xz_T) (et : Nat → Nat) (S : xs_T) (x1 : Int32) (x2 : Int32) (K : Int32 → xs_T → Prop) (h5 : xN S 5 = 0) (h : v_X0_hang x1 x2 S K) : Met l yX0_hang (wq yX0_hang cX0_hang 3 (some .int)) { frames := 4, cells := 1, slots := 2, locals := 94 } (xPc Z et S [.ref (et (33)), .int (x1), .int (x2)]) (xAi Z et S K) 1 2 (fun q => Z.2.2.1 ≤ q) := by
  refine Met.ofW (cc := cX0_hang) (maxL := 3) (ret := (some .int)) (by decide +kernel) rfl ?_
  intro p e s m args below meth c s₁ B hml hv0
  obtain ⟨rfl, hk, hw⟩ := hv0
  have X : CallFix p m c cX0_hang 3 s _ (wq yX0_hang cX0_hang 3 (some .int)) RX0 := ⟨B.exec, B.bytes, hml, findClass_of_methodNamed B.named, atoms_spec (ws := (wq yX0_hang cX0_hang 3 (some .int))) B.pre⟩
  have hr := B.returns
  have hlocks := B.notSynchronized
  have hl : xl Z [] := fun _ h => by cases h
  have hst : xst Z et S et := fun _ _ => rfl
  have hg : xgr S S := xgr.refl h5
  have hv := lv_entry [.ref (et (33)), .int (x1), .int (x2)] (n := 3) (Nat.le_of_ble_eq_true rfl)
  rw [lg_entry_eq]
  generalize (lg_sl [.ref (et (33)), .int (x1), .int (x2)] ++ List.replicate (3 - (lg_sl [.ref (et (33)), .int (x1), .int (x2)]).length) Slot.unset).toArray = ls at hv ⊢
  replace hv : lv_has ls 3 [(0, .ref (et (33))), (1, .int (x1)), (2, .int (x2))] := hv
  unfold v_X0_hang at h
  refine lv_iload_n X.1 X.2.1 dX0_hang_0 rfl (lv_at hv 2 rfl) ?_
  refine lv_if_ne (tgt := 13) X.1 X.2.1 dX0_hang_1 (by decide) (fun c_1 => ?_) (fun c_1 => ?_)
  · skip
    replace h := h.1 c_1
    refine lv_iload_n X.1 X.2.1 dX0_hang_13 rfl (lv_at hv 2 rfl) ?_
    refine lv_iconst (v := 1) X.1 X.2.1 dX0_hang_14 (by decide) ?_
    refine lv_icmp_ne (tgt := 33) X.1 X.2.1 dX0_hang_15 (by decide) (fun c_2 => ?_) (fun c_2 => ?_)
    · skip
      replace h := h.1 c_2
      refine lv_aload_n X.1 X.2.1 dX0_hang_33 rfl (lv_at hv 0 rfl) ?_
      refine xw_get X hk hw (i := 33) 3 xe_33 rfl tlX0 (by decide) rfl tw_101 dX0_hang_34 ?_
      refine xc_i (xr_V (n := 0) (As := []) (i := 40) X hk hw hv.1 (c_X6_hasRoomForFigure l Z et S  _ h) (tb_V tw_363 tw_360 tw_361 tw_362 tw_41) xe_40 rfl rfl rfl rfl (by decide +kernel) ⟨Nat.le_of_ble_eq_true rfl, Nat.le_of_ble_eq_true rfl⟩ rfl (Nat.le_of_ble_eq_true rfl) dX0_hang_37 ⟨Nat.le_of_ble_eq_true rfl, Nat.le_of_ble_eq_true rfl⟩) hl (fun r_4 S_3 H locs h hN hw hl => ?_)
      replace hg := hg.N hN
      refine lv_if_ne (tgt := 45) X.1 X.2.1 dX0_hang_40 (by decide) (fun c_5 => ?_) (fun c_5 => ?_)
      · skip
        replace h := h.1 c_5
        refine lv_aload_n X.1 X.2.1 dX0_hang_45 rfl (lv_at hv 0 rfl) ?_
        refine xw_get X hk hw (i := 33) 0 xe_33 rfl tlX0 (by decide) rfl tw_96 dX0_hang_46 ?_
        refine lv_iload_n X.1 X.2.1 dX0_hang_49 rfl (lv_at hv 1 rfl) ?_
        refine lv_aload_n X.1 X.2.1 dX0_hang_50 rfl (lv_at hv 0 rfl) ?_
        refine xw_get X hk hw (i := 33) 3 xe_33 rfl tlX0 (by decide) rfl tw_101 dX0_hang_51 ?_
        refine lv_iload_n X.1 X.2.1 dX0_hang_54 rfl (lv_at hv 2 rfl) ?_
        refine lv_iconst (v := 1) X.1 X.2.1 dX0_hang_55 (by decide) ?_
        refine lv_isub X.1 X.2.1 dX0_hang_56 ?_
        replace hv : lv_has ls 3 [] := lv_sub hv [] rfl
        refine xc_aq (xr_V (n := 1) (As := [.int ((x2 - 1))]) (i := 40) X hk hw hv.1 (c_X6_makeFigure l Z et S_3 ((x2 - 1)) _ (hg.2.2.2.1) h) (tb_V tw_367 tw_364 tw_365 tw_366 tw_41) xe_40 rfl rfl rfl rfl (by decide +kernel) ⟨Nat.le_of_ble_eq_true rfl, Nat.le_of_ble_eq_true rfl⟩ rfl (Nat.le_of_ble_eq_true rfl) dX0_hang_57 ⟨Nat.le_of_ble_eq_true rfl, Nat.le_of_ble_eq_true rfl⟩) hl (fun r_7 S_6 et1 H locs h hs1 hg1 hw hl => ?_)
        replace hst := hst.trans h5 hg hs1
        replace hg := hg.trans hg1
        have e_8 := hs1 (37) (sn_ne (xe_37 (S := S_3)))
        refine W.eq (g2 := F0 m 60 ls (va_rf (Option.map et1 r_7) :: [.int (x1), .ref (et1 (37))])) (by rw [e_8]) ?_
        generalize et1 = et at *
        obtain ⟨o_9, h⟩ := h
        obtain ⟨j_10, e_11, b_12, h⟩ := h
        refine xw_qst X hk hw hl (E := RX7) (r_7) (oS_T o_9) xe_37 rfl rfl e_11 b_12 (by decide) dX0_hang_60 (fun H locs hw hl => ?_)
        obtain ⟨S_13, e_14⟩ : ∃ T : xs_T, T = sQ S_6 37 j_10 (r_7) := ⟨_, rfl⟩
        rw [← e_14] at hw
        replace h := h S_13 e_14
        have hN : S_13.2.2.2.2 = S_6.2.2.2.2 := by rw [e_14]; rfl
        have o_15 := oT_N hN o_9
        replace hg := hg.N hN
        refine lv_iconst (v := 0) X.1 X.2.1 dX0_hang_61 (by decide) ?_
        exact xt_ai X hr hlocks hst hg hw hl h dX0_hang_62
      · skip
        replace h := h.2 c_5
        refine lv_iconst (v := 4) X.1 X.2.1 dX0_hang_43 (by decide) ?_
        refine W.widen (k := 1) (n := 2) (by omega) (by omega) ?_
        exact xt_ai X hr hlocks hst hg hw hl h dX0_hang_44
    · skip
      replace h := h.2 c_2
      refine lv_aload_n X.1 X.2.1 dX0_hang_18 rfl (lv_at hv 0 rfl) ?_
      refine xw_get X hk hw (i := 33) 0 xe_33 rfl tlX0 (by decide) rfl tw_96 dX0_hang_19 ?_
      refine lv_iload_n X.1 X.2.1 dX0_hang_22 rfl (lv_at hv 1 rfl) ?_
      obtain ⟨b_17, h⟩ := h
      refine xw_newC X hk hw b_17 tw_353 (Nat.le_of_ble_eq_true rfl) (Nat.le_of_ble_eq_true rfl) dX0_hang_23 (fun et1 H hs1 hw => ?_)
      obtain ⟨S_19, e_20⟩ : ∃ T : xs_T, T = mkC S := ⟨_, rfl⟩
      obtain ⟨u_18, e_21⟩ : ∃ n : Nat, n = 704 + xN S 2 := ⟨_, rfl⟩
      rw [← e_20] at hw
      rw [← e_21]
      replace h := h u_18 S_19 e_21 e_20
      replace hst := hst.trans h5 hg hs1
      have hg1 : xgr S S_19 := by rw [e_20]; exact mkC_g hg.2.2.2.1
      replace hg := hg.trans hg1
      have o_22 : oC S_19 u_18 := by rw [e_20, e_21]; exact mkC_o
      have e_23 := hs1 (33) (sn_ne (xe_33 (S := S)))
      have e_24 := hs1 (37) (sn_ne (xe_37 (S := S)))
      replace hv : lv_has ls 3 [(0, .ref (et1 (33))), (1, .int (x1)), (2, .int (x2))] := by rw [e_23]; exact hv
      refine W.eq (g2 := F0 m 26 ls (.ref (et1 (u_18)) :: [.int (x1), .ref (et1 (37))])) (by rw [e_24]) ?_
      generalize et1 = et at *
      refine lv_dup X.1 X.2.1 dX0_hang_26 rfl ?_
      refine xc_v (xr_IN (n := 0) (As := []) (i := u_18) X hk hw hv.1 (c_X2_init l Z et S_19 (u_18) _ h) (tb_wq tw_357) tw_49 xn_21 tw_356 rfl rfl rfl (by decide +kernel) ⟨Nat.le_of_ble_eq_true rfl, Nat.le_of_ble_eq_true rfl⟩ rfl (Nat.le_of_ble_eq_true rfl) dX0_hang_27 ⟨Nat.le_of_ble_eq_true rfl, Nat.le_of_ble_eq_true rfl⟩) hl (fun S_25 H locs h hN hw hl => ?_)
      have o_27 := oC_N hN o_22
      replace hg := hg.N hN
      obtain ⟨j_28, e_29, b_30, h⟩ := h
      refine xw_qst X hk hw hl (E := RX7) (some (u_18)) (oS_T (Or.inr ⟨_, rfl, Or.inr (Or.inr o_27)⟩)) xe_37 rfl rfl e_29 b_30 (by decide) dX0_hang_30 (fun H locs hw hl => ?_)
      obtain ⟨S_31, e_32⟩ : ∃ T : xs_T, T = sQ S_25 37 j_28 (some (u_18)) := ⟨_, rfl⟩
      rw [← e_32] at hw
      replace h := h S_31 e_32
      have hN : S_31.2.2.2.2 = S_25.2.2.2.2 := by rw [e_32]; rfl
      have o_33 := oC_N hN o_27
      replace hg := hg.N hN
      refine lv_iconst (v := 0) X.1 X.2.1 dX0_hang_31 (by decide) ?_
      refine W.widen (k := 1) (n := 2) (by omega) (by omega) ?_
      exact xt_ai X hr hlocks hst hg hw hl h dX0_hang_32
  · skip
    replace h := h.2 c_1
    refine lv_aload_n X.1 X.2.1 dX0_hang_4 rfl (lv_at hv 0 rfl) ?_
    refine xw_get X hk hw (i := 33) 0 xe_33 rfl tlX0 (by decide) rfl tw_96 dX0_hang_5 ?_
    refine lv_iload_n X.1 X.2.1 dX0_hang_8 rfl (lv_at hv 1 rfl) ?_
    refine lv_null X.1 X.2.1 dX0_hang_9 ?_
    obtain ⟨j_34, e_35, b_36, h⟩ := h
    refine xw_qst X hk hw hl (E := RX7) none (Or.inl rfl) xe_37 rfl rfl e_35 b_36 (by decide) dX0_hang_10 (fun H locs hw hl => ?_)
    obtain ⟨S_37, e_38⟩ : ∃ T : xs_T, T = sQ S 37 j_34 none := ⟨_, rfl⟩
    rw [← e_38] at hw
    replace h := h S_37 e_38
    have hN : S_37.2.2.2.2 = S.2.2.2.2 := by rw [e_38]; rfl
    replace hg := hg.N hN
    refine lv_iconst (v := 0) X.1 X.2.1 dX0_hang_11 (by decide) ?_
    refine W.widen (k := 1) (n := 2) (by omega) (by omega) ?_
    exact xt_ai X hr hlocks hst hg hw hl h dX0_hang_12
