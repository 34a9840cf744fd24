def v_J9_floorMod_7cf53 (x1 : Int32) (x2 : Int32) (S : xs_T) (K : Int32 → xs_T → Prop) : Prop := (¬ x2 = 0) ∧ ((0 ≤ (x1 ^^^ x2) → K ((x1 - x1 / x2 * x2)) S) ∧ (¬ 0 ≤ (x1 ^^^ x2) → (((x1 - x1 / x2 * x2) = 0 → K ((x1 - x1 / x2 * x2)) S) ∧ (¬ (x1 - x1 / x2 * x2) = 0 → K (((x1 - x1 / x2 * x2) + x2)) S))))
set_option maxHeartbeats 4000000 in
set_option maxRecDepth 100000 in
theorem c_J9_floorMod_7cf53 (l : Launch) (Z : xz_T) (et : Nat → Nat) (S : xs_T) (x1 : Int32) (x2 : Int32) (K : Int32 → xs_T → Prop) (h : v_J9_floorMod_7cf53 x1 x2 S K) : Met l yJ9_floorMod_7cf53 (wq yJ9_floorMod_7cf53 cJ9_floorMod_7cf53 3 (some .int)) { frames := 0, cells := 0, slots := 0, locals := 0 } (xPc Z et S [.int (x1), .int (x2)]) (xQi Z et S.2.2.2.2 K) 0 0 (fun q => Z.2.2.1 ≤ q) := by
  refine va_MetF (cc := cJ9_floorMod_7cf53) (maxL := 3) (ret := (some .int)) (by decide +kernel) rfl ?_
  intro p e s m args below meth c s₁ B hml hv0
  obtain ⟨rfl, hk, hw⟩ := hv0
  have X : CallFix p m c cJ9_floorMod_7cf53 3 s _ (wq yJ9_floorMod_7cf53 cJ9_floorMod_7cf53 3 (some .int)) RJ9 := ⟨B.exec, B.bytes, hml, findClass_of_methodNamed B.named, atoms_spec (ws := (wq yJ9_floorMod_7cf53 cJ9_floorMod_7cf53 3 (some .int))) B.pre⟩
  have hr := B.returns
  have hlocks := B.notSynchronized
  have hl : xl Z [] := fun _ h => by cases h
  have hNN : S.2.2.2.2 = S.2.2.2.2 := rfl
  have hv := lv_entry [.int (x1), .int (x2)] (n := 3) (Nat.le_of_ble_eq_true rfl)
  rw [lg_entry_eq]
  generalize (lg_sl [.int (x1), .int (x2)] ++ List.replicate (3 - (lg_sl [.int (x1), .int (x2)]).length) Slot.unset).toArray = ls at hv ⊢
  replace hv : lv_has ls 3 [(0, .int (x1)), (1, .int (x2))] := hv
  unfold v_J9_floorMod_7cf53 at h
  refine lv_iload_n X.1 X.2.1 dJ9_floorMod_7cf53_0 rfl (lv_at hv 0 rfl) ?_
  refine lv_iload_n X.1 X.2.1 dJ9_floorMod_7cf53_1 rfl (lv_at hv 1 rfl) ?_
  obtain ⟨c_1, h⟩ := h
  refine lv_irem X.1 X.2.1 dJ9_floorMod_7cf53_2 c_1 ?_
  refine lv_istore_n (lv' := [(2, .int ((x1 - x1 / x2 * x2))), (0, .int (x1)), (1, .int (x2))]) X.1 X.2.1 dJ9_floorMod_7cf53_3 rfl hv (by decide) rfl (fun ls hv => ?_)
  refine lv_iload_n X.1 X.2.1 dJ9_floorMod_7cf53_4 rfl (lv_at hv 1 rfl) ?_
  refine lv_iload_n X.1 X.2.1 dJ9_floorMod_7cf53_5 rfl (lv_at hv 2 rfl) ?_
  refine lv_ixor X.1 X.2.1 dJ9_floorMod_7cf53_6 ?_
  refine lv_if_ge (tgt := 18) X.1 X.2.1 dJ9_floorMod_7cf53_7 (by decide) (fun c_2 => ?_) (fun c_2 => ?_)
  · skip
    replace h := h.1 c_2
    refine lv_iload_n X.1 X.2.1 dJ9_floorMod_7cf53_18 rfl (lv_at hv 0 rfl) ?_
    exact xt_i X hr hlocks hNN hw hl h dJ9_floorMod_7cf53_19
  · skip
    replace h := h.2 c_2
    refine lv_iload_n X.1 X.2.1 dJ9_floorMod_7cf53_10 rfl (lv_at hv 0 rfl) ?_
    refine lv_if_eq (tgt := 18) X.1 X.2.1 dJ9_floorMod_7cf53_11 (by decide) (fun c_3 => ?_) (fun c_3 => ?_)
    · skip
      replace h := h.1 c_3
      refine lv_iload_n X.1 X.2.1 dJ9_floorMod_7cf53_18 rfl (lv_at hv 0 rfl) ?_
      exact xt_i X hr hlocks hNN hw hl h dJ9_floorMod_7cf53_19
    · skip
      replace h := h.2 c_3
      refine lv_iload_n X.1 X.2.1 dJ9_floorMod_7cf53_14 rfl (lv_at hv 0 rfl) ?_
      refine lv_iload_n X.1 X.2.1 dJ9_floorMod_7cf53_15 rfl (lv_at hv 2 rfl) ?_
      refine lv_iadd X.1 X.2.1 dJ9_floorMod_7cf53_16 ?_
      exact xt_i X hr hlocks hNN hw hl h dJ9_floorMod_7cf53_17
def v_J9_abs_067f4 (x1 : Int64) (S : xs_T) (K : Int64 → xs_T → Prop) : Prop := ((0 ≤ x1 → K (x1) S) ∧ (¬ 0 ≤ x1 → K ((-x1)) S))
set_option maxHeartbeats 4000000 in
set_option maxRecDepth 100000 in
theorem c_J9_abs_067f4 (l : Launch) (Z : xz_T) (et : Nat → Nat) (S : xs_T) (x1 : Int64) (K : Int64 → xs_T → Prop) (h : v_J9_abs_067f4 x1 S K) : Met l yJ9_abs_067f4 (wq yJ9_abs_067f4 cJ9_abs_067f4 2 (some .long)) { frames := 0, cells := 0, slots := 0, locals := 0 } (xPc Z et S [.long (x1)]) (xQl Z et S.2.2.2.2 K) 0 0 (fun q => Z.2.2.1 ≤ q) := by
  refine va_MetF (cc := cJ9_abs_067f4) (maxL := 2) (ret := (some .long)) (by decide +kernel) rfl ?_
  intro p e s m args below meth c s₁ B hml hv0
  obtain ⟨rfl, hk, hw⟩ := hv0
  have X : CallFix p m c cJ9_abs_067f4 2 s _ (wq yJ9_abs_067f4 cJ9_abs_067f4 2 (some .long)) RJ9 := ⟨B.exec, B.bytes, hml, findClass_of_methodNamed B.named, atoms_spec (ws := (wq yJ9_abs_067f4 cJ9_abs_067f4 2 (some .long))) B.pre⟩
  have hr := B.returns
  have hlocks := B.notSynchronized
  have hl : xl Z [] := fun _ h => by cases h
  have hNN : S.2.2.2.2 = S.2.2.2.2 := rfl
  have hv := lv_entry [.long (x1)] (n := 2) (Nat.le_of_ble_eq_true rfl)
  rw [lg_entry_eq]
  generalize (lg_sl [.long (x1)] ++ List.replicate (2 - (lg_sl [.long (x1)]).length) Slot.unset).toArray = ls at hv ⊢
  replace hv : lv_has ls 2 [(0, .long (x1))] := hv
  unfold v_J9_abs_067f4 at h
  refine lv_lload_n X.1 X.2.1 dJ9_abs_067f4_0 rfl (lv_at hv 0 rfl) ?_
  refine lv_lconst (v := 0) X.1 X.2.1 dJ9_abs_067f4_1 rfl ?_
  refine W.lcmp X.1 X.2.1 dJ9_abs_067f4_2 ?_
  refine lv_if_ge (tgt := 11) X.1 X.2.1 dJ9_abs_067f4_3 (by decide) (fun c_1 => ?_) (fun c_1 => ?_)
  · skip
    replace c_1 := (lg_cmp_ge _ _).mp c_1
    replace h := h.1 c_1
    refine lv_lload_n X.1 X.2.1 dJ9_abs_067f4_11 rfl (lv_at hv 0 rfl) ?_
    exact xt_l X hr hlocks hNN hw hl h dJ9_abs_067f4_12
  · skip
    replace c_1 := fun q => c_1 ((lg_cmp_ge _ _).mpr q)
    replace h := h.2 c_1
    refine lv_lload_n X.1 X.2.1 dJ9_abs_067f4_6 rfl (lv_at hv 0 rfl) ?_
    refine lv_lneg X.1 X.2.1 dJ9_abs_067f4_7 ?_
    refine lv_goto (tgt := 12) X.1 X.2.1 dJ9_abs_067f4_8 (by decide) ?_
    exact xt_l X hr hlocks hNN hw hl h dJ9_abs_067f4_12
def v_J9_min_7cf53 (x1 : Int32) (x2 : Int32) (S : xs_T) (K : Int32 → xs_T → Prop) : Prop := ((x2 < x1 → K (x2) S) ∧ (¬ x2 < x1 → K (x1) S))
set_option maxHeartbeats 4000000 in
set_option maxRecDepth 100000 in
theorem c_J9_min_7cf53 (l : Launch) (Z : xz_T) (et : Nat → Nat) (S : xs_T) (x1 : Int32) (x2 : Int32) (K : Int32 → xs_T → Prop) (h : v_J9_min_7cf53 x1 x2 S K) : Met l yJ9_min_7cf53 (wq yJ9_min_7cf53 cJ9_min_7cf53 2 (some .int)) { frames := 0, cells := 0, slots := 0, locals := 0 } (xPc Z et S [.int (x1), .int (x2)]) (xQi Z et S.2.2.2.2 K) 0 0 (fun q => Z.2.2.1 ≤ q) := by
  refine va_MetF (cc := cJ9_min_7cf53) (maxL := 2) (ret := (some .int)) (by decide +kernel) rfl ?_
  intro p e s m args below meth c s₁ B hml hv0
  obtain ⟨rfl, hk, hw⟩ := hv0
  have X : CallFix p m c cJ9_min_7cf53 2 s _ (wq yJ9_min_7cf53 cJ9_min_7cf53 2 (some .int)) RJ9 := ⟨B.exec, B.bytes, hml, findClass_of_methodNamed B.named, atoms_spec (ws := (wq yJ9_min_7cf53 cJ9_min_7cf53 2 (some .int))) B.pre⟩
  have hr := B.returns
  have hlocks := B.notSynchronized
  have hl : xl Z [] := fun _ h => by cases h
  have hNN : S.2.2.2.2 = S.2.2.2.2 := rfl
  have hv := lv_entry [.int (x1), .int (x2)] (n := 2) (Nat.le_of_ble_eq_true rfl)
  rw [lg_entry_eq]
  generalize (lg_sl [.int (x1), .int (x2)] ++ List.replicate (2 - (lg_sl [.int (x1), .int (x2)]).length) Slot.unset).toArray = ls at hv ⊢
  replace hv : lv_has ls 2 [(0, .int (x1)), (1, .int (x2))] := hv
  unfold v_J9_min_7cf53 at h
  refine lv_iload_n X.1 X.2.1 dJ9_min_7cf53_0 rfl (lv_at hv 0 rfl) ?_
  refine lv_iload_n X.1 X.2.1 dJ9_min_7cf53_1 rfl (lv_at hv 1 rfl) ?_
  refine lv_icmp_gt (tgt := 9) X.1 X.2.1 dJ9_min_7cf53_2 (by decide) (fun c_1 => ?_) (fun c_1 => ?_)
  · skip
    replace h := h.1 c_1
    refine lv_iload_n X.1 X.2.1 dJ9_min_7cf53_9 rfl (lv_at hv 1 rfl) ?_
    exact xt_i X hr hlocks hNN hw hl h dJ9_min_7cf53_10
  · skip
    replace h := h.2 c_1
    refine lv_iload_n X.1 X.2.1 dJ9_min_7cf53_5 rfl (lv_at hv 0 rfl) ?_
    refine lv_goto (tgt := 10) X.1 X.2.1 dJ9_min_7cf53_6 (by decide) ?_
    exact xt_i X hr hlocks hNN hw hl h dJ9_min_7cf53_10
def v_J9_max_7cf53 (x1 : Int32) (x2 : Int32) (S : xs_T) (K : Int32 → xs_T → Prop) : Prop := ((x1 < x2 → K (x2) S) ∧ (¬ x1 < x2 → K (x1) S))
set_option maxHeartbeats 4000000 in
set_option maxRecDepth 100000 in
theorem c_J9_max_7cf53 (l : Launch) (Z : xz_T) (et : Nat → Nat) (S : xs_T) (x1 : Int32) (x2 : Int32) (K : Int32 → xs_T → Prop) (h : v_J9_max_7cf53 x1 x2 S K) : Met l yJ9_max_7cf53 (wq yJ9_max_7cf53 cJ9_max_7cf53 2 (some .int)) { frames := 0, cells := 0, slots := 0, locals := 0 } (xPc Z et S [.int (x1), .int (x2)]) (xQi Z et S.2.2.2.2 K) 0 0 (fun q => Z.2.2.1 ≤ q) := by
  refine va_MetF (cc := cJ9_max_7cf53) (maxL := 2) (ret := (some .int)) (by decide +kernel) rfl ?_
  intro p e s m args below meth c s₁ B hml hv0
  obtain ⟨rfl, hk, hw⟩ := hv0
  have X : CallFix p m c cJ9_max_7cf53 2 s _ (wq yJ9_max_7cf53 cJ9_max_7cf53 2 (some .int)) RJ9 := ⟨B.exec, B.bytes, hml, findClass_of_methodNamed B.named, atoms_spec (ws := (wq yJ9_max_7cf53 cJ9_max_7cf53 2 (some .int))) B.pre⟩
  have hr := B.returns
  have hlocks := B.notSynchronized
  have hl : xl Z [] := fun _ h => by cases h
  have hNN : S.2.2.2.2 = S.2.2.2.2 := rfl
  have hv := lv_entry [.int (x1), .int (x2)] (n := 2) (Nat.le_of_ble_eq_true rfl)
  rw [lg_entry_eq]
  generalize (lg_sl [.int (x1), .int (x2)] ++ List.replicate (2 - (lg_sl [.int (x1), .int (x2)]).length) Slot.unset).toArray = ls at hv ⊢
  replace hv : lv_has ls 2 [(0, .int (x1)), (1, .int (x2))] := hv
  unfold v_J9_max_7cf53 at h
  refine lv_iload_n X.1 X.2.1 dJ9_max_7cf53_0 rfl (lv_at hv 0 rfl) ?_
  refine lv_iload_n X.1 X.2.1 dJ9_max_7cf53_1 rfl (lv_at hv 1 rfl) ?_
  refine lv_icmp_lt (tgt := 9) X.1 X.2.1 dJ9_max_7cf53_2 (by decide) (fun c_1 => ?_) (fun c_1 => ?_)
  · skip
    replace h := h.1 c_1
    refine lv_iload_n X.1 X.2.1 dJ9_max_7cf53_9 rfl (lv_at hv 1 rfl) ?_
    exact xt_i X hr hlocks hNN hw hl h dJ9_max_7cf53_10
  · skip
    replace h := h.2 c_1
    refine lv_iload_n X.1 X.2.1 dJ9_max_7cf53_5 rfl (lv_at hv 0 rfl) ?_
    refine lv_goto (tgt := 10) X.1 X.2.1 dJ9_max_7cf53_6 (by decide) ?_
    exact xt_i X hr hlocks hNN hw hl h dJ9_max_7cf53_10
def v_Jxf58ca_isNaN_12338 (x1 : UInt32) (S : xs_T) (K : Int32 → xs_T → Prop) : Prop := ((Op.cmpValue (FP.fcmp (x1) (x1)) .l = 0 → K (0) S) ∧ (¬ Op.cmpValue (FP.fcmp (x1) (x1)) .l = 0 → K (1) S))
set_option maxHeartbeats 4000000 in
set_option maxRecDepth 100000 in
theorem c_Jxf58ca_isNaN_12338 (l : Launch) (Z : xz_T) (et : Nat → Nat) (S : xs_T) (x1 : UInt32) (K : Int32 → xs_T → Prop) (h : v_Jxf58ca_isNaN_12338 x1 S K) : Met l yJxf58ca_isNaN_12338 (wq yJxf58ca_isNaN_12338 cJxf58ca_isNaN_12338 1 (some .boolean)) { frames := 0, cells := 0, slots := 0, locals := 0 } (xPc Z et S [.float (x1)]) (xQi Z et S.2.2.2.2 K) 0 0 (fun q => Z.2.2.1 ≤ q) := by
  refine va_MetF (cc := cJxf58ca_isNaN_12338) (maxL := 1) (ret := (some .boolean)) (by decide +kernel) rfl ?_
  intro p e s m args below meth c s₁ B hml hv0
  obtain ⟨rfl, hk, hw⟩ := hv0
  have X : CallFix p m c cJxf58ca_isNaN_12338 1 s _ (wq yJxf58ca_isNaN_12338 cJxf58ca_isNaN_12338 1 (some .boolean)) RJxf58ca := ⟨B.exec, B.bytes, hml, findClass_of_methodNamed B.named, atoms_spec (ws := (wq yJxf58ca_isNaN_12338 cJxf58ca_isNaN_12338 1 (some .boolean))) B.pre⟩
  have hr := B.returns
  have hlocks := B.notSynchronized
  have hl : xl Z [] := fun _ h => by cases h
  have hNN : S.2.2.2.2 = S.2.2.2.2 := rfl
  have hv := lv_entry [.float (x1)] (n := 1) (Nat.le_of_ble_eq_true rfl)
  rw [lg_entry_eq]
  generalize (lg_sl [.float (x1)] ++ List.replicate (1 - (lg_sl [.float (x1)]).length) Slot.unset).toArray = ls at hv ⊢
  replace hv : lv_has ls 1 [(0, .float (x1))] := hv
  unfold v_Jxf58ca_isNaN_12338 at h
  refine lv_fload_n X.1 X.2.1 dJxf58ca_isNaN_12338_0 rfl (lv_at hv 0 rfl) ?_
  refine lv_fload_n X.1 X.2.1 dJxf58ca_isNaN_12338_1 rfl (lv_at hv 0 rfl) ?_
  refine lv_fcmp X.1 X.2.1 dJxf58ca_isNaN_12338_2 ?_
  refine lv_if_eq (tgt := 10) X.1 X.2.1 dJxf58ca_isNaN_12338_3 (by decide) (fun c_1 => ?_) (fun c_1 => ?_)
  · skip
    replace h := h.1 c_1
    refine lv_iconst (v := 0) X.1 X.2.1 dJxf58ca_isNaN_12338_10 (by decide) ?_
    exact xt_z X hr hlocks hNN hw hl (by decide) h dJxf58ca_isNaN_12338_11
  · skip
    replace h := h.2 c_1
    refine lv_iconst (v := 1) X.1 X.2.1 dJxf58ca_isNaN_12338_6 (by decide) ?_
    refine lv_goto (tgt := 11) X.1 X.2.1 dJxf58ca_isNaN_12338_7 (by decide) ?_
    exact xt_z X hr hlocks hNN hw hl (by decide) h dJxf58ca_isNaN_12338_11
def v_Jxf58ca_floatToIntBits_5c35a (x1 : UInt32) (S : xs_T) (K : Int32 → xs_T → Prop) : Prop := v_Jxf58ca_isNaN_12338 (x1) S (fun (r_2 : Int32) (S_1 : xs_T) => ((¬ r_2 = 0 → K (2143289344) S_1) ∧ (r_2 = 0 → K ((x1).toInt32) S_1)))
set_option maxHeartbeats 4000000 in
set_option maxRecDepth 100000 in
theorem c_Jxf58ca_floatToIntBits_5c35a (l : Launch) (Z : xz_T) (et : Nat → Nat) (S : xs_T) (x1 : UInt32) (K : Int32 → xs_T → Prop) (h : v_Jxf58ca_floatToIntBits_5c35a x1 S K) : Met l yJxf58ca_floatToIntBits_5c35a (wq yJxf58ca_floatToIntBits_5c35a cJxf58ca_floatToIntBits_5c35a 1 (some .int)) { frames := 1, cells := 0, slots := 0, locals := 30 } (xPc Z et S [.float (x1)]) (xQi Z et S.2.2.2.2 K) 0 0 (fun q => Z.2.2.1 ≤ q) := by
  refine va_MetF (cc := cJxf58ca_floatToIntBits_5c35a) (maxL := 1) (ret := (some .int)) (by decide +kernel) rfl ?_
  intro p e s m args below meth c s₁ B hml hv0
  obtain ⟨rfl, hk, hw⟩ := hv0
  have X : CallFix p m c cJxf58ca_floatToIntBits_5c35a 1 s _ (wq yJxf58ca_floatToIntBits_5c35a cJxf58ca_floatToIntBits_5c35a 1 (some .int)) RJxf58ca := ⟨B.exec, B.bytes, hml, findClass_of_methodNamed B.named, atoms_spec (ws := (wq yJxf58ca_floatToIntBits_5c35a cJxf58ca_floatToIntBits_5c35a 1 (some .int))) B.pre⟩
  have hr := B.returns
  have hlocks := B.notSynchronized
  have hl : xl Z [] := fun _ h => by cases h
  have hNN : S.2.2.2.2 = S.2.2.2.2 := rfl
  have hv := lv_entry [.float (x1)] (n := 1) (Nat.le_of_ble_eq_true rfl)
  rw [lg_entry_eq]
  generalize (lg_sl [.float (x1)] ++ List.replicate (1 - (lg_sl [.float (x1)]).length) Slot.unset).toArray = ls at hv ⊢
  replace hv : lv_has ls 1 [(0, .float (x1))] := hv
  unfold v_Jxf58ca_floatToIntBits_5c35a at h
  refine lv_fload_n X.1 X.2.1 dJxf58ca_floatToIntBits_5c35a_0 rfl (lv_at hv 0 rfl) ?_
  refine xc_i (xr_S (n := 1) X hk hw hv.1 (c_Jxf58ca_isNaN_12338 l Z et S (x1) _ h) (tb_S tw_691 tw_689 tw_690 tw_52) rfl rfl (by decide +kernel) ⟨Nat.le_of_ble_eq_true rfl, Nat.le_of_ble_eq_true rfl⟩ rfl (Nat.le_of_ble_eq_true rfl) dJxf58ca_floatToIntBits_5c35a_1 ⟨Nat.le_of_ble_eq_true rfl, Nat.le_of_ble_eq_true rfl⟩) hl (fun r_2 S_1 H locs h hN hw hl => ?_)
  replace hNN := hN.trans hNN
  refine lv_if_ne (tgt := 12) X.1 X.2.1 dJxf58ca_floatToIntBits_5c35a_4 (by decide) (fun c_3 => ?_) (fun c_3 => ?_)
  · skip
    replace h := h.1 c_3
    refine lv_ldc X.1 X.2.1 X.2.2.2.1 (X.2.2.2.2 _ (List.mem_cons_of_mem _ tw_695)) dJxf58ca_floatToIntBits_5c35a_12 ?_
    exact xt_i X hr hlocks hNN hw hl h dJxf58ca_floatToIntBits_5c35a_14
  · skip
    replace h := h.2 c_3
    refine lv_fload_n X.1 X.2.1 dJxf58ca_floatToIntBits_5c35a_7 rfl (lv_at hv 0 rfl) ?_
    refine vn_f2i X.1 X.2.1 (by rw [X.2.2.1]; exact hv.1.symm) X.2.2.2.1 (X.2.2.2.2 _ (List.mem_cons_of_mem _ tw_692)) (X.2.2.2.2 _ (List.mem_cons_of_mem _ tw_694)) (X.2.2.2.2 _ (List.mem_cons_of_mem _ tw_693)) (X.2.2.2.2 _ (List.mem_cons_of_mem _ tw_52)) (Nat.le_of_ble_eq_true rfl) (Nat.le_of_ble_eq_true rfl) dJxf58ca_floatToIntBits_5c35a_8 ?_
    exact xt_i X hr hlocks hNN hw hl h dJxf58ca_floatToIntBits_5c35a_11
def v_Jxe99ae_isNaN_b9ae7 (x1 : UInt64) (S : xs_T) (K : Int32 → xs_T → Prop) : Prop := ((Op.cmpValue (FP.dcmp (x1) (x1)) .l = 0 → K (0) S) ∧ (¬ Op.cmpValue (FP.dcmp (x1) (x1)) .l = 0 → K (1) S))
set_option maxHeartbeats 4000000 in
set_option maxRecDepth 100000 in
theorem c_Jxe99ae_isNaN_b9ae7 (l : Launch) (Z : xz_T) (et : Nat → Nat) (S : xs_T) (x1 : UInt64) (K : Int32 → xs_T → Prop) (h : v_Jxe99ae_isNaN_b9ae7 x1 S K) : Met l yJxe99ae_isNaN_b9ae7 (wq yJxe99ae_isNaN_b9ae7 cJxe99ae_isNaN_b9ae7 2 (some .boolean)) { frames := 0, cells := 0, slots := 0, locals := 0 } (xPc Z et S [.double (x1)]) (xQi Z et S.2.2.2.2 K) 0 0 (fun q => Z.2.2.1 ≤ q) := by
  refine va_MetF (cc := cJxe99ae_isNaN_b9ae7) (maxL := 2) (ret := (some .boolean)) (by decide +kernel) rfl ?_
  intro p e s m args below meth c s₁ B hml hv0
  obtain ⟨rfl, hk, hw⟩ := hv0
  have X : CallFix p m c cJxe99ae_isNaN_b9ae7 2 s _ (wq yJxe99ae_isNaN_b9ae7 cJxe99ae_isNaN_b9ae7 2 (some .boolean)) RJxe99ae := ⟨B.exec, B.bytes, hml, findClass_of_methodNamed B.named, atoms_spec (ws := (wq yJxe99ae_isNaN_b9ae7 cJxe99ae_isNaN_b9ae7 2 (some .boolean))) B.pre⟩
  have hr := B.returns
  have hlocks := B.notSynchronized
  have hl : xl Z [] := fun _ h => by cases h
  have hNN : S.2.2.2.2 = S.2.2.2.2 := rfl
  have hv := lv_entry [.double (x1)] (n := 2) (Nat.le_of_ble_eq_true rfl)
  rw [lg_entry_eq]
  generalize (lg_sl [.double (x1)] ++ List.replicate (2 - (lg_sl [.double (x1)]).length) Slot.unset).toArray = ls at hv ⊢
  replace hv : lv_has ls 2 [(0, .double (x1))] := hv
  unfold v_Jxe99ae_isNaN_b9ae7 at h
  refine lv_dload_n X.1 X.2.1 dJxe99ae_isNaN_b9ae7_0 rfl (lv_at hv 0 rfl) ?_
  refine lv_dload_n X.1 X.2.1 dJxe99ae_isNaN_b9ae7_1 rfl (lv_at hv 0 rfl) ?_
  refine lv_dcmp X.1 X.2.1 dJxe99ae_isNaN_b9ae7_2 ?_
  refine lv_if_eq (tgt := 10) X.1 X.2.1 dJxe99ae_isNaN_b9ae7_3 (by decide) (fun c_1 => ?_) (fun c_1 => ?_)
  · skip
    replace h := h.1 c_1
    refine lv_iconst (v := 0) X.1 X.2.1 dJxe99ae_isNaN_b9ae7_10 (by decide) ?_
    exact xt_z X hr hlocks hNN hw hl (by decide) h dJxe99ae_isNaN_b9ae7_11
  · skip
    replace h := h.2 c_1
    refine lv_iconst (v := 1) X.1 X.2.1 dJxe99ae_isNaN_b9ae7_6 (by decide) ?_
    refine lv_goto (tgt := 11) X.1 X.2.1 dJxe99ae_isNaN_b9ae7_7 (by decide) ?_
    exact xt_z X hr hlocks hNN hw hl (by decide) h dJxe99ae_isNaN_b9ae7_11
def v_Jxe99ae_doubleToLongBits_ccdee (x1 : UInt64) (S : xs_T) (K : Int64 → xs_T → Prop) : Prop := v_Jxe99ae_isNaN_b9ae7 (x1) S (fun (r_2 : Int32) (S_1 : xs_T) => ((¬ r_2 = 0 → K (9221120237041090560) S_1) ∧ (r_2 = 0 → K ((x1).toInt64) S_1)))
set_option maxHeartbeats 4000000 in
set_option maxRecDepth 100000 in
theorem c_Jxe99ae_doubleToLongBits_ccdee (l : Launch) (Z : xz_T) (et : Nat → Nat) (S : xs_T) (x1 : UInt64) (K : Int64 → xs_T → Prop) (h : v_Jxe99ae_doubleToLongBits_ccdee x1 S K) : Met l yJxe99ae_doubleToLongBits_ccdee (wq yJxe99ae_doubleToLongBits_ccdee cJxe99ae_doubleToLongBits_ccdee 2 (some .long)) { frames := 1, cells := 0, slots := 0, locals := 30 } (xPc Z et S [.double (x1)]) (xQl Z et S.2.2.2.2 K) 0 0 (fun q => Z.2.2.1 ≤ q) := by
  refine va_MetF (cc := cJxe99ae_doubleToLongBits_ccdee) (maxL := 2) (ret := (some .long)) (by decide +kernel) rfl ?_
  intro p e s m args below meth c s₁ B hml hv0
  obtain ⟨rfl, hk, hw⟩ := hv0
  have X : CallFix p m c cJxe99ae_doubleToLongBits_ccdee 2 s _ (wq yJxe99ae_doubleToLongBits_ccdee cJxe99ae_doubleToLongBits_ccdee 2 (some .long)) RJxe99ae := ⟨B.exec, B.bytes, hml, findClass_of_methodNamed B.named, atoms_spec (ws := (wq yJxe99ae_doubleToLongBits_ccdee cJxe99ae_doubleToLongBits_ccdee 2 (some .long))) B.pre⟩
  have hr := B.returns
  have hlocks := B.notSynchronized
  have hl : xl Z [] := fun _ h => by cases h
  have hNN : S.2.2.2.2 = S.2.2.2.2 := rfl
  have hv := lv_entry [.double (x1)] (n := 2) (Nat.le_of_ble_eq_true rfl)
  rw [lg_entry_eq]
  generalize (lg_sl [.double (x1)] ++ List.replicate (2 - (lg_sl [.double (x1)]).length) Slot.unset).toArray = ls at hv ⊢
  replace hv : lv_has ls 2 [(0, .double (x1))] := hv
  unfold v_Jxe99ae_doubleToLongBits_ccdee at h
  refine lv_dload_n X.1 X.2.1 dJxe99ae_doubleToLongBits_ccdee_0 rfl (lv_at hv 0 rfl) ?_
  refine xc_i (xr_S (n := 1) X hk hw hv.1 (c_Jxe99ae_isNaN_b9ae7 l Z et S (x1) _ h) (tb_S tw_701 tw_699 tw_700 tw_53) rfl rfl (by decide +kernel) ⟨Nat.le_of_ble_eq_true rfl, Nat.le_of_ble_eq_true rfl⟩ rfl (Nat.le_of_ble_eq_true rfl) dJxe99ae_doubleToLongBits_ccdee_1 ⟨Nat.le_of_ble_eq_true rfl, Nat.le_of_ble_eq_true rfl⟩) hl (fun r_2 S_1 H locs h hN hw hl => ?_)
  replace hNN := hN.trans hNN
  refine lv_if_ne (tgt := 12) X.1 X.2.1 dJxe99ae_doubleToLongBits_ccdee_4 (by decide) (fun c_3 => ?_) (fun c_3 => ?_)
  · skip
    replace h := h.1 c_3
    refine lv_ldc2 X.1 X.2.1 X.2.2.2.1 (X.2.2.2.2 _ (List.mem_cons_of_mem _ tw_705)) dJxe99ae_doubleToLongBits_ccdee_12 ?_
    exact xt_l X hr hlocks hNN hw hl h dJxe99ae_doubleToLongBits_ccdee_15
  · skip
    replace h := h.2 c_3
    refine lv_dload_n X.1 X.2.1 dJxe99ae_doubleToLongBits_ccdee_7 rfl (lv_at hv 0 rfl) ?_
    refine vn_d2l X.1 X.2.1 (by rw [X.2.2.1]; exact hv.1.symm) X.2.2.2.1 (X.2.2.2.2 _ (List.mem_cons_of_mem _ tw_702)) (X.2.2.2.2 _ (List.mem_cons_of_mem _ tw_704)) (X.2.2.2.2 _ (List.mem_cons_of_mem _ tw_703)) (X.2.2.2.2 _ (List.mem_cons_of_mem _ tw_53)) (Nat.le_of_ble_eq_true rfl) (Nat.le_of_ble_eq_true rfl) dJxe99ae_doubleToLongBits_ccdee_8 ?_
    exact xt_l X hr hlocks hNN hw hl h dJxe99ae_doubleToLongBits_ccdee_11
def v_X10_in (x1 : Int32) (x2 : Int32) (x3 : Int32) (S : xs_T) (K : Int32 → xs_T → Prop) : Prop := ((x1 < x2 → K (0) S) ∧ (¬ x1 < x2 → ((x3 < x1 → K (0) S) ∧ (¬ x3 < x1 → K (1) S))))
set_option maxHeartbeats 4000000 in
set_option maxRecDepth 100000 in
theorem c_X10_in (l : Launch) (Z : xz_T) (et : Nat → Nat) (S : xs_T) (x1 : Int32) (x2 : Int32) (x3 : Int32) (K : Int32 → xs_T → Prop) (h : v_X10_in x1 x2 x3 S K) : Met l yX10_in (wq yX10_in cX10_in 3 (some .boolean)) { frames := 0, cells := 0, slots := 0, locals := 0 } (xPc Z et S [.int (x1), .int (x2), .int (x3)]) (xQi Z et S.2.2.2.2 K) 0 0 (fun q => Z.2.2.1 ≤ q) := by
  refine Met.ofW (cc := cX10_in) (maxL := 3) (ret := (some .boolean)) (by decide +kernel) rfl ?_
  intro p e s m args below meth c s₁ B hml hv0
  obtain ⟨rfl, hk, hw⟩ := hv0
  have X : CallFix p m c cX10_in 3 s _ (wq yX10_in cX10_in 3 (some .boolean)) RX10 := ⟨B.exec, B.bytes, hml, findClass_of_methodNamed B.named, atoms_spec (ws := (wq yX10_in cX10_in 3 (some .boolean))) B.pre⟩
  have hr := B.returns
  have hlocks := B.notSynchronized
  have hl : xl Z [] := fun _ h => by cases h
  have hNN : S.2.2.2.2 = S.2.2.2.2 := rfl
  have hv := lv_entry [.int (x1), .int (x2), .int (x3)] (n := 3) (Nat.le_of_ble_eq_true rfl)
  rw [lg_entry_eq]
  generalize (lg_sl [.int (x1), .int (x2), .int (x3)] ++ List.replicate (3 - (lg_sl [.int (x1), .int (x2), .int (x3)]).length) Slot.unset).toArray = ls at hv ⊢
  replace hv : lv_has ls 3 [(0, .int (x1)), (1, .int (x2)), (2, .int (x3))] := hv
  unfold v_X10_in at h
  refine lv_iload_n X.1 X.2.1 dX10_in_0 rfl (lv_at hv 0 rfl) ?_
  refine lv_iload_n X.1 X.2.1 dX10_in_1 rfl (lv_at hv 1 rfl) ?_
  refine lv_icmp_lt (tgt := 14) X.1 X.2.1 dX10_in_2 (by decide) (fun c_1 => ?_) (fun c_1 => ?_)
  · skip
    replace h := h.1 c_1
    refine lv_iconst (v := 0) X.1 X.2.1 dX10_in_14 (by decide) ?_
    exact xt_z X hr hlocks hNN hw hl (by decide) h dX10_in_15
  · skip
    replace h := h.2 c_1
    refine lv_iload_n X.1 X.2.1 dX10_in_5 rfl (lv_at hv 0 rfl) ?_
    refine lv_iload_n X.1 X.2.1 dX10_in_6 rfl (lv_at hv 2 rfl) ?_
    refine lv_icmp_gt (tgt := 14) X.1 X.2.1 dX10_in_7 (by decide) (fun c_2 => ?_) (fun c_2 => ?_)
    · skip
      replace h := h.1 c_2
      refine lv_iconst (v := 0) X.1 X.2.1 dX10_in_14 (by decide) ?_
      exact xt_z X hr hlocks hNN hw hl (by decide) h dX10_in_15
    · skip
      replace h := h.2 c_2
      refine lv_iconst (v := 1) X.1 X.2.1 dX10_in_10 (by decide) ?_
      refine lv_goto (tgt := 15) X.1 X.2.1 dX10_in_11 (by decide) ?_
      exact xt_z X hr hlocks hNN hw hl (by decide) h dX10_in_15
def v_X10_isOrder_155 (K : Int32 → xs_T → Prop) (a0 : Int32) (a1 : Int32) (t0 : Int32) (S : xs_T) : Prop := v_X10_in (a0) (0) (12) S (fun (r_32 : Int32) (S_31 : xs_T) => ((r_32 = 0 → K (0) S_31) ∧ (¬ r_32 = 0 → v_X10_in (a1) (0) (9) S_31 (fun (r_35 : Int32) (S_34 : xs_T) => ((r_35 = 0 → K (0) S_34) ∧ (¬ r_35 = 0 → ((t0 = 0 → K (0) S_34) ∧ (¬ t0 = 0 → K (1) S_34))))))))
def v_X10_isOrder_150 (K : Int32 → xs_T → Prop) (a0 : Int32) (a1 : Int32) (S : xs_T) : Prop := v_X10_isOrder_155 K (a0) (a1) (1) S
def v_X10_isOrder_103 (K : Int32 → xs_T → Prop) (a0 : Int32) (a1 : Int32) (a2 : Int32) (t0 : Int32) (S : xs_T) : Prop := ((t0 = 0 → ((¬ a0 = 5 → ((¬ a0 = 9 → v_X10_isOrder_150 K (a0) (a1) S) ∧ (a0 = 9 → v_X10_in (a2) (0) (5) S (fun (r_25 : Int32) (S_24 : xs_T) => ((r_25 = 0 → v_X10_isOrder_155 K (a0) (a1) (0) S_24) ∧ (¬ r_25 = 0 → v_X10_isOrder_150 K (a0) (a1) S_24)))))) ∧ (a0 = 5 → v_X10_in (a2) (0) (11) S (fun (r_28 : Int32) (S_27 : xs_T) => v_X10_isOrder_155 K (a0) (a1) (r_28) S_27)))) ∧ (¬ t0 = 0 → v_X10_in (a2) (0) (9) S (fun (r_30 : Int32) (S_29 : xs_T) => v_X10_isOrder_155 K (a0) (a1) (r_30) S_29)))
def v_X10_isOrder_98 (K : Int32 → xs_T → Prop) (a0 : Int32) (a1 : Int32) (a2 : Int32) (S : xs_T) : Prop := v_X10_isOrder_103 K (a0) (a1) (a2) (1) S
def v_X10_isOrder (x1 : Int32) (x2 : Int32) (x3 : Int32) (x4 : Int32) (S : xs_T) (K : Int32 → xs_T → Prop) : Prop := ((¬ x1 = 13 → ((¬ x1 = 14 → ((x1 = 1 → v_X10_isOrder_98 K (x1) (x2) (x3) S) ∧ (¬ x1 = 1 → ((x1 = 6 → v_X10_isOrder_98 K (x1) (x2) (x3) S) ∧ (¬ x1 = 6 → ((x1 = 7 → v_X10_isOrder_98 K (x1) (x2) (x3) S) ∧ (¬ x1 = 7 → ((x1 = 8 → v_X10_isOrder_98 K (x1) (x2) (x3) S) ∧ (¬ x1 = 8 → ((x1 = 11 → v_X10_isOrder_98 K (x1) (x2) (x3) S) ∧ (¬ x1 = 11 → ((¬ x1 = 12 → v_X10_isOrder_103 K (x1) (x2) (x3) (0) S) ∧ (x1 = 12 → v_X10_isOrder_98 K (x1) (x2) (x3) S))))))))))))) ∧ (x1 = 14 → v_X10_in (x3) (1) (60) S (fun (r_10 : Int32) (S_9 : xs_T) => ((r_10 = 0 → K (0) S_9) ∧ (¬ r_10 = 0 → v_X10_in (x4) (0) (20) S_9 (fun (r_13 : Int32) (S_12 : xs_T) => ((r_13 = 0 → K (0) S_12) ∧ (¬ r_13 = 0 → K (1) S_12))))))))) ∧ (x1 = 13 → v_X10_in (x2) (0) (5) S (fun (r_16 : Int32) (S_15 : xs_T) => ((r_16 = 0 → K (0) S_15) ∧ (¬ r_16 = 0 → v_X10_in (x4) (0) (60) S_15 (fun (r_19 : Int32) (S_18 : xs_T) => ((r_19 = 0 → K (0) S_18) ∧ (¬ r_19 = 0 → K (1) S_18))))))))
set_option maxHeartbeats 4000000 in
set_option maxRecDepth 100000 in
theorem j_X10_isOrder_155 {l : Launch} {p : Program} {e : Env} {s : State} {m : MethodId} {args : Array Value} {below : List Frame} {meth : Method} {c : Code} {Z : xz_T} {et : Nat → Nat} {Nn : Nat → Nat} {K : Int32 → xs_T → Prop} (X : CallFix p m c cX10_isOrder 6 s args (wq yX10_isOrder cX10_isOrder 6 (some .boolean)) RX10) (hk : xk Z s) (hr : meth.sig.returnType = (some .boolean)) (hlocks : meth.locks = false) : ∀ (a0 : Int32) (a1 : Int32) (t0 : Int32) (S : xs_T) (H : Heap) (locs : List Loc) (ls : Array Slot), v_X10_isOrder_155 K a0 a1 t0 S → S.2.2.2.2 = Nn → wd Z et S H → xl Z locs → lv_has ls 6 [(0, .int (a0)), (1, .int (a1))] → W p l e (headSpec (wq yX10_isOrder cX10_isOrder 6 (some .boolean)) { frames := 1, cells := 0, slots := 0, locals := 22 }).room s m args below meth c H locs 0 0 (MQ below (xQi Z et Nn K) args s 0 0 (fun q => Z.2.2.1 ≤ q)) (F0 m 155 ls [.int (t0)]) := by
  intro a0 a1 t0 S H locs ls h hNN hw hl hv
  unfold v_X10_isOrder_155 at h
  refine lv_istore (lv' := [(5, .int (t0)), (0, .int (a0)), (1, .int (a1))]) X.1 X.2.1 dX10_isOrder_155 hv (by decide) rfl (fun ls hv => ?_)
  refine lv_iload_n X.1 X.2.1 dX10_isOrder_157 rfl (lv_at hv 1 rfl) ?_
  refine lv_iconst (v := 0) X.1 X.2.1 dX10_isOrder_158 (by decide) ?_
  refine lv_bipush (v := 12) X.1 X.2.1 dX10_isOrder_159 (by decide) ?_
  refine xc_i (xr_S (n := 3) X hk hw hv.1 (c_X10_in l Z et S (a0) (0) (12) _ h) (tb_S tw_613 tw_611 tw_612 tw_44) rfl rfl (by decide +kernel) ⟨Nat.le_of_ble_eq_true rfl, Nat.le_of_ble_eq_true rfl⟩ rfl (Nat.le_of_ble_eq_true rfl) dX10_isOrder_161 ⟨Nat.le_of_ble_eq_true rfl, Nat.le_of_ble_eq_true rfl⟩) hl (fun r_32 S_31 H locs h hN hw hl => ?_)
  replace hNN := hN.trans hNN
  refine lv_if_eq (tgt := 186) X.1 X.2.1 dX10_isOrder_164 (by decide) (fun c_33 => ?_) (fun c_33 => ?_)
  · skip
    replace h := h.1 c_33
    refine lv_iconst (v := 0) X.1 X.2.1 dX10_isOrder_186 (by decide) ?_
    exact xt_z X hr hlocks hNN hw hl (by decide) h dX10_isOrder_187
  · skip
    replace h := h.2 c_33
    refine lv_iload_n X.1 X.2.1 dX10_isOrder_167 rfl (lv_at hv 2 rfl) ?_
    refine lv_iconst (v := 0) X.1 X.2.1 dX10_isOrder_168 (by decide) ?_
    refine lv_bipush (v := 9) X.1 X.2.1 dX10_isOrder_169 (by decide) ?_
    refine xc_i (xr_S (n := 3) X hk hw hv.1 (c_X10_in l Z et S_31 (a1) (0) (9) _ h) (tb_S tw_613 tw_611 tw_612 tw_44) rfl rfl (by decide +kernel) ⟨Nat.le_of_ble_eq_true rfl, Nat.le_of_ble_eq_true rfl⟩ rfl (Nat.le_of_ble_eq_true rfl) dX10_isOrder_171 ⟨Nat.le_of_ble_eq_true rfl, Nat.le_of_ble_eq_true rfl⟩) hl (fun r_35 S_34 H locs h hN hw hl => ?_)
    replace hNN := hN.trans hNN
    refine lv_if_eq (tgt := 186) X.1 X.2.1 dX10_isOrder_174 (by decide) (fun c_36 => ?_) (fun c_36 => ?_)
    · skip
      replace h := h.1 c_36
      refine lv_iconst (v := 0) X.1 X.2.1 dX10_isOrder_186 (by decide) ?_
      exact xt_z X hr hlocks hNN hw hl (by decide) h dX10_isOrder_187
    · skip
      replace h := h.2 c_36
      refine lv_iload X.1 X.2.1 dX10_isOrder_177 (lv_at hv 0 rfl) ?_
      refine lv_if_eq (tgt := 186) X.1 X.2.1 dX10_isOrder_179 (by decide) (fun c_37 => ?_) (fun c_37 => ?_)
      · skip
        replace h := h.1 c_37
        refine lv_iconst (v := 0) X.1 X.2.1 dX10_isOrder_186 (by decide) ?_
        exact xt_z X hr hlocks hNN hw hl (by decide) h dX10_isOrder_187
      · skip
        replace h := h.2 c_37
        refine lv_iconst (v := 1) X.1 X.2.1 dX10_isOrder_182 (by decide) ?_
        refine lv_goto (tgt := 187) X.1 X.2.1 dX10_isOrder_183 (by decide) ?_
        exact xt_z X hr hlocks hNN hw hl (by decide) h dX10_isOrder_187
set_option maxHeartbeats 4000000 in
set_option maxRecDepth 100000 in
theorem j_X10_isOrder_150 {l : Launch} {p : Program} {e : Env} {s : State} {m : MethodId} {args : Array Value} {below : List Frame} {meth : Method} {c : Code} {Z : xz_T} {et : Nat → Nat} {Nn : Nat → Nat} {K : Int32 → xs_T → Prop} (X : CallFix p m c cX10_isOrder 6 s args (wq yX10_isOrder cX10_isOrder 6 (some .boolean)) RX10) (hk : xk Z s) (hr : meth.sig.returnType = (some .boolean)) (hlocks : meth.locks = false) : ∀ (a0 : Int32) (a1 : Int32) (S : xs_T) (H : Heap) (locs : List Loc) (ls : Array Slot), v_X10_isOrder_150 K a0 a1 S → S.2.2.2.2 = Nn → wd Z et S H → xl Z locs → lv_has ls 6 [(0, .int (a0)), (1, .int (a1))] → W p l e (headSpec (wq yX10_isOrder cX10_isOrder 6 (some .boolean)) { frames := 1, cells := 0, slots := 0, locals := 22 }).room s m args below meth c H locs 0 0 (MQ below (xQi Z et Nn K) args s 0 0 (fun q => Z.2.2.1 ≤ q)) (F0 m 150 ls []) := by
  intro a0 a1 S H locs ls h hNN hw hl hv
  unfold v_X10_isOrder_150 at h
  refine lv_iconst (v := 1) X.1 X.2.1 dX10_isOrder_150 (by decide) ?_
  refine lv_goto (tgt := 155) X.1 X.2.1 dX10_isOrder_151 (by decide) ?_
  exact j_X10_isOrder_155 X hk hr hlocks (a0) (a1) (1) S _ _ _ h hNN hw hl (lv_sub hv [0, 1] rfl)
set_option maxHeartbeats 4000000 in
set_option maxRecDepth 100000 in
theorem j_X10_isOrder_103 {l : Launch} {p : Program} {e : Env} {s : State} {m : MethodId} {args : Array Value} {below : List Frame} {meth : Method} {c : Code} {Z : xz_T} {et : Nat → Nat} {Nn : Nat → Nat} {K : Int32 → xs_T → Prop} (X : CallFix p m c cX10_isOrder 6 s args (wq yX10_isOrder cX10_isOrder 6 (some .boolean)) RX10) (hk : xk Z s) (hr : meth.sig.returnType = (some .boolean)) (hlocks : meth.locks = false) : ∀ (a0 : Int32) (a1 : Int32) (a2 : Int32) (t0 : Int32) (S : xs_T) (H : Heap) (locs : List Loc) (ls : Array Slot), v_X10_isOrder_103 K a0 a1 a2 t0 S → S.2.2.2.2 = Nn → wd Z et S H → xl Z locs → lv_has ls 6 [(0, .int (a0)), (1, .int (a1)), (2, .int (a2))] → W p l e (headSpec (wq yX10_isOrder cX10_isOrder 6 (some .boolean)) { frames := 1, cells := 0, slots := 0, locals := 22 }).room s m args below meth c H locs 0 0 (MQ below (xQi Z et Nn K) args s 0 0 (fun q => Z.2.2.1 ≤ q)) (F0 m 103 ls [.int (t0)]) := by
  intro a0 a1 a2 t0 S H locs ls h hNN hw hl hv
  unfold v_X10_isOrder_103 at h
  refine lv_istore (lv' := [(4, .int (t0)), (0, .int (a0)), (1, .int (a1)), (2, .int (a2))]) X.1 X.2.1 dX10_isOrder_103 hv (by decide) rfl (fun ls hv => ?_)
  refine lv_iload X.1 X.2.1 dX10_isOrder_105 (lv_at hv 0 rfl) ?_
  refine lv_if_eq (tgt := 120) X.1 X.2.1 dX10_isOrder_107 (by decide) (fun c_21 => ?_) (fun c_21 => ?_)
  · skip
    replace h := h.1 c_21
    refine lv_iload_n X.1 X.2.1 dX10_isOrder_120 rfl (lv_at hv 1 rfl) ?_
    refine lv_iconst (v := 5) X.1 X.2.1 dX10_isOrder_121 (by decide) ?_
    refine lv_icmp_ne (tgt := 135) X.1 X.2.1 dX10_isOrder_122 (by decide) (fun c_22 => ?_) (fun c_22 => ?_)
    · skip
      replace h := h.1 c_22
      refine lv_iload_n X.1 X.2.1 dX10_isOrder_135 rfl (lv_at hv 1 rfl) ?_
      refine lv_bipush (v := 9) X.1 X.2.1 dX10_isOrder_136 (by decide) ?_
      refine lv_icmp_ne (tgt := 150) X.1 X.2.1 dX10_isOrder_138 (by decide) (fun c_23 => ?_) (fun c_23 => ?_)
      · skip
        replace h := h.1 c_23
        exact j_X10_isOrder_150 X hk hr hlocks (a0) (a1) S _ _ _ h hNN hw hl (lv_sub hv [1, 2] rfl)
      · skip
        replace h := h.2 c_23
        refine lv_iload_n X.1 X.2.1 dX10_isOrder_141 rfl (lv_at hv 3 rfl) ?_
        refine lv_iconst (v := 0) X.1 X.2.1 dX10_isOrder_142 (by decide) ?_
        refine lv_iconst (v := 5) X.1 X.2.1 dX10_isOrder_143 (by decide) ?_
        refine xc_i (xr_S (n := 3) X hk hw hv.1 (c_X10_in l Z et S (a2) (0) (5) _ h) (tb_S tw_613 tw_611 tw_612 tw_44) rfl rfl (by decide +kernel) ⟨Nat.le_of_ble_eq_true rfl, Nat.le_of_ble_eq_true rfl⟩ rfl (Nat.le_of_ble_eq_true rfl) dX10_isOrder_144 ⟨Nat.le_of_ble_eq_true rfl, Nat.le_of_ble_eq_true rfl⟩) hl (fun r_25 S_24 H locs h hN hw hl => ?_)
        replace hNN := hN.trans hNN
        refine lv_if_eq (tgt := 154) X.1 X.2.1 dX10_isOrder_147 (by decide) (fun c_26 => ?_) (fun c_26 => ?_)
        · skip
          replace h := h.1 c_26
          refine lv_iconst (v := 0) X.1 X.2.1 dX10_isOrder_154 (by decide) ?_
          exact j_X10_isOrder_155 X hk hr hlocks (a0) (a1) (0) S_24 _ _ _ h hNN hw hl (lv_sub hv [1, 2] rfl)
        · skip
          replace h := h.2 c_26
          exact j_X10_isOrder_150 X hk hr hlocks (a0) (a1) S_24 _ _ _ h hNN hw hl (lv_sub hv [1, 2] rfl)
    · skip
      replace h := h.2 c_22
      refine lv_iload_n X.1 X.2.1 dX10_isOrder_125 rfl (lv_at hv 3 rfl) ?_
      refine lv_iconst (v := 0) X.1 X.2.1 dX10_isOrder_126 (by decide) ?_
      refine lv_bipush (v := 11) X.1 X.2.1 dX10_isOrder_127 (by decide) ?_
      refine xc_i (xr_S (n := 3) X hk hw hv.1 (c_X10_in l Z et S (a2) (0) (11) _ h) (tb_S tw_613 tw_611 tw_612 tw_44) rfl rfl (by decide +kernel) ⟨Nat.le_of_ble_eq_true rfl, Nat.le_of_ble_eq_true rfl⟩ rfl (Nat.le_of_ble_eq_true rfl) dX10_isOrder_129 ⟨Nat.le_of_ble_eq_true rfl, Nat.le_of_ble_eq_true rfl⟩) hl (fun r_28 S_27 H locs h hN hw hl => ?_)
      replace hNN := hN.trans hNN
      refine lv_goto (tgt := 155) X.1 X.2.1 dX10_isOrder_132 (by decide) ?_
      exact j_X10_isOrder_155 X hk hr hlocks (a0) (a1) (r_28) S_27 _ _ _ h hNN hw hl (lv_sub hv [1, 2] rfl)
  · skip
    replace h := h.2 c_21
    refine lv_iload_n X.1 X.2.1 dX10_isOrder_110 rfl (lv_at hv 3 rfl) ?_
    refine lv_iconst (v := 0) X.1 X.2.1 dX10_isOrder_111 (by decide) ?_
    refine lv_bipush (v := 9) X.1 X.2.1 dX10_isOrder_112 (by decide) ?_
    refine xc_i (xr_S (n := 3) X hk hw hv.1 (c_X10_in l Z et S (a2) (0) (9) _ h) (tb_S tw_613 tw_611 tw_612 tw_44) rfl rfl (by decide +kernel) ⟨Nat.le_of_ble_eq_true rfl, Nat.le_of_ble_eq_true rfl⟩ rfl (Nat.le_of_ble_eq_true rfl) dX10_isOrder_114 ⟨Nat.le_of_ble_eq_true rfl, Nat.le_of_ble_eq_true rfl⟩) hl (fun r_30 S_29 H locs h hN hw hl => ?_)
    replace hNN := hN.trans hNN
    refine lv_goto (tgt := 155) X.1 X.2.1 dX10_isOrder_117 (by decide) ?_
    exact j_X10_isOrder_155 X hk hr hlocks (a0) (a1) (r_30) S_29 _ _ _ h hNN hw hl (lv_sub hv [1, 2] rfl)
set_option maxHeartbeats 4000000 in
set_option maxRecDepth 100000 in
theorem j_X10_isOrder_98 {l : Launch} {p : Program} {e : Env} {s : State} {m : MethodId} {args : Array Value} {below : List Frame} {meth : Method} {c : Code} {Z : xz_T} {et : Nat → Nat} {Nn : Nat → Nat} {K : Int32 → xs_T → Prop} (X : CallFix p m c cX10_isOrder 6 s args (wq yX10_isOrder cX10_isOrder 6 (some .boolean)) RX10) (hk : xk Z s) (hr : meth.sig.returnType = (some .boolean)) (hlocks : meth.locks = false) : ∀ (a0 : Int32) (a1 : Int32) (a2 : Int32) (S : xs_T) (H : Heap) (locs : List Loc) (ls : Array Slot), v_X10_isOrder_98 K a0 a1 a2 S → S.2.2.2.2 = Nn → wd Z et S H → xl Z locs → lv_has ls 6 [(0, .int (a0)), (1, .int (a1)), (2, .int (a2))] → W p l e (headSpec (wq yX10_isOrder cX10_isOrder 6 (some .boolean)) { frames := 1, cells := 0, slots := 0, locals := 22 }).room s m args below meth c H locs 0 0 (MQ below (xQi Z et Nn K) args s 0 0 (fun q => Z.2.2.1 ≤ q)) (F0 m 98 ls []) := by
  intro a0 a1 a2 S H locs ls h hNN hw hl hv
  unfold v_X10_isOrder_98 at h
  refine lv_iconst (v := 1) X.1 X.2.1 dX10_isOrder_98 (by decide) ?_
  refine lv_goto (tgt := 103) X.1 X.2.1 dX10_isOrder_99 (by decide) ?_
  exact j_X10_isOrder_103 X hk hr hlocks (a0) (a1) (a2) (1) S _ _ _ h hNN hw hl (lv_sub hv [0, 1, 2] rfl)
set_option maxHeartbeats 4000000 in
set_option maxRecDepth 100000 in
theorem c_X10_isOrder (l : Launch) (Z : xz_T) (et : Nat → Nat) (S : xs_T) (x1 : Int32) (x2 : Int32) (x3 : Int32) (x4 : Int32) (K : Int32 → xs_T → Prop) (h : v_X10_isOrder x1 x2 x3 x4 S K) : Met l yX10_isOrder (wq yX10_isOrder cX10_isOrder 6 (some .boolean)) { frames := 1, cells := 0, slots := 0, locals := 22 } (xPc Z et S [.int (x1), .int (x2), .int (x3), .int (x4)]) (xQi Z et S.2.2.2.2 K) 0 0 (fun q => Z.2.2.1 ≤ q) := by
  refine Met.ofW (cc := cX10_isOrder) (maxL := 6) (ret := (some .boolean)) (by decide +kernel) rfl ?_
  intro p e s m args below meth c s₁ B hml hv0
  obtain ⟨rfl, hk, hw⟩ := hv0
  have X : CallFix p m c cX10_isOrder 6 s _ (wq yX10_isOrder cX10_isOrder 6 (some .boolean)) RX10 := ⟨B.exec, B.bytes, hml, findClass_of_methodNamed B.named, atoms_spec (ws := (wq yX10_isOrder cX10_isOrder 6 (some .boolean))) B.pre⟩
  have hr := B.returns
  have hlocks := B.notSynchronized
  have hl : xl Z [] := fun _ h => by cases h
  have hNN : S.2.2.2.2 = S.2.2.2.2 := rfl
  have hv := lv_entry [.int (x1), .int (x2), .int (x3), .int (x4)] (n := 6) (Nat.le_of_ble_eq_true rfl)
  rw [lg_entry_eq]
  generalize (lg_sl [.int (x1), .int (x2), .int (x3), .int (x4)] ++ List.replicate (6 - (lg_sl [.int (x1), .int (x2), .int (x3), .int (x4)]).length) Slot.unset).toArray = ls at hv ⊢
  replace hv : lv_has ls 6 [(0, .int (x1)), (1, .int (x2)), (2, .int (x3)), (3, .int (x4))] := hv
  unfold v_X10_isOrder at h
  refine lv_iload_n X.1 X.2.1 dX10_isOrder_0 rfl (lv_at hv 0 rfl) ?_
  refine lv_bipush (v := 13) X.1 X.2.1 dX10_isOrder_1 (by decide) ?_
  refine lv_icmp_ne (tgt := 31) X.1 X.2.1 dX10_isOrder_3 (by decide) (fun c_1 => ?_) (fun c_1 => ?_)
  · skip
    replace h := h.1 c_1
    refine lv_iload_n X.1 X.2.1 dX10_isOrder_31 rfl (lv_at hv 0 rfl) ?_
    refine lv_bipush (v := 14) X.1 X.2.1 dX10_isOrder_32 (by decide) ?_
    refine lv_icmp_ne (tgt := 63) X.1 X.2.1 dX10_isOrder_34 (by decide) (fun c_2 => ?_) (fun c_2 => ?_)
    · skip
      replace h := h.1 c_2
      refine lv_iload_n X.1 X.2.1 dX10_isOrder_63 rfl (lv_at hv 0 rfl) ?_
      refine lv_iconst (v := 1) X.1 X.2.1 dX10_isOrder_64 (by decide) ?_
      refine lv_icmp_eq (tgt := 98) X.1 X.2.1 dX10_isOrder_65 (by decide) (fun c_3 => ?_) (fun c_3 => ?_)
      · skip
        replace h := h.1 c_3
        exact j_X10_isOrder_98 X hk hr hlocks (x1) (x2) (x3) S _ _ _ h hNN hw hl (lv_sub hv [0, 1, 2] rfl)
      · skip
        replace h := h.2 c_3
        refine lv_iload_n X.1 X.2.1 dX10_isOrder_68 rfl (lv_at hv 0 rfl) ?_
        refine lv_bipush (v := 6) X.1 X.2.1 dX10_isOrder_69 (by decide) ?_
        refine lv_icmp_eq (tgt := 98) X.1 X.2.1 dX10_isOrder_71 (by decide) (fun c_4 => ?_) (fun c_4 => ?_)
        · skip
          replace h := h.1 c_4
          exact j_X10_isOrder_98 X hk hr hlocks (x1) (x2) (x3) S _ _ _ h hNN hw hl (lv_sub hv [0, 1, 2] rfl)
        · skip
          replace h := h.2 c_4
          refine lv_iload_n X.1 X.2.1 dX10_isOrder_74 rfl (lv_at hv 0 rfl) ?_
          refine lv_bipush (v := 7) X.1 X.2.1 dX10_isOrder_75 (by decide) ?_
          refine lv_icmp_eq (tgt := 98) X.1 X.2.1 dX10_isOrder_77 (by decide) (fun c_5 => ?_) (fun c_5 => ?_)
          · skip
            replace h := h.1 c_5
            exact j_X10_isOrder_98 X hk hr hlocks (x1) (x2) (x3) S _ _ _ h hNN hw hl (lv_sub hv [0, 1, 2] rfl)
          · skip
            replace h := h.2 c_5
            refine lv_iload_n X.1 X.2.1 dX10_isOrder_80 rfl (lv_at hv 0 rfl) ?_
            refine lv_bipush (v := 8) X.1 X.2.1 dX10_isOrder_81 (by decide) ?_
            refine lv_icmp_eq (tgt := 98) X.1 X.2.1 dX10_isOrder_83 (by decide) (fun c_6 => ?_) (fun c_6 => ?_)
            · skip
              replace h := h.1 c_6
              exact j_X10_isOrder_98 X hk hr hlocks (x1) (x2) (x3) S _ _ _ h hNN hw hl (lv_sub hv [0, 1, 2] rfl)
            · skip
              replace h := h.2 c_6
              refine lv_iload_n X.1 X.2.1 dX10_isOrder_86 rfl (lv_at hv 0 rfl) ?_
              refine lv_bipush (v := 11) X.1 X.2.1 dX10_isOrder_87 (by decide) ?_
              refine lv_icmp_eq (tgt := 98) X.1 X.2.1 dX10_isOrder_89 (by decide) (fun c_7 => ?_) (fun c_7 => ?_)
              · skip
                replace h := h.1 c_7
                exact j_X10_isOrder_98 X hk hr hlocks (x1) (x2) (x3) S _ _ _ h hNN hw hl (lv_sub hv [0, 1, 2] rfl)
              · skip
                replace h := h.2 c_7
                refine lv_iload_n X.1 X.2.1 dX10_isOrder_92 rfl (lv_at hv 0 rfl) ?_
                refine lv_bipush (v := 12) X.1 X.2.1 dX10_isOrder_93 (by decide) ?_
                refine lv_icmp_ne (tgt := 102) X.1 X.2.1 dX10_isOrder_95 (by decide) (fun c_8 => ?_) (fun c_8 => ?_)
                · skip
                  replace h := h.1 c_8
                  refine lv_iconst (v := 0) X.1 X.2.1 dX10_isOrder_102 (by decide) ?_
                  exact j_X10_isOrder_103 X hk hr hlocks (x1) (x2) (x3) (0) S _ _ _ h hNN hw hl (lv_sub hv [0, 1, 2] rfl)
                · skip
                  replace h := h.2 c_8
                  exact j_X10_isOrder_98 X hk hr hlocks (x1) (x2) (x3) S _ _ _ h hNN hw hl (lv_sub hv [0, 1, 2] rfl)
    · skip
      replace h := h.2 c_2
      refine lv_iload_n X.1 X.2.1 dX10_isOrder_37 rfl (lv_at hv 2 rfl) ?_
      refine lv_iconst (v := 1) X.1 X.2.1 dX10_isOrder_38 (by decide) ?_
      refine lv_bipush (v := 60) X.1 X.2.1 dX10_isOrder_39 (by decide) ?_
      refine xc_i (xr_S (n := 3) X hk hw hv.1 (c_X10_in l Z et S (x3) (1) (60) _ h) (tb_S tw_613 tw_611 tw_612 tw_44) rfl rfl (by decide +kernel) ⟨Nat.le_of_ble_eq_true rfl, Nat.le_of_ble_eq_true rfl⟩ rfl (Nat.le_of_ble_eq_true rfl) dX10_isOrder_41 ⟨Nat.le_of_ble_eq_true rfl, Nat.le_of_ble_eq_true rfl⟩) hl (fun r_10 S_9 H locs h hN hw hl => ?_)
      replace hNN := hN.trans hNN
      refine lv_if_eq (tgt := 61) X.1 X.2.1 dX10_isOrder_44 (by decide) (fun c_11 => ?_) (fun c_11 => ?_)
      · skip
        replace h := h.1 c_11
        refine lv_iconst (v := 0) X.1 X.2.1 dX10_isOrder_61 (by decide) ?_
        exact xt_z X hr hlocks hNN hw hl (by decide) h dX10_isOrder_62
      · skip
        replace h := h.2 c_11
        refine lv_iload_n X.1 X.2.1 dX10_isOrder_47 rfl (lv_at hv 3 rfl) ?_
        refine lv_iconst (v := 0) X.1 X.2.1 dX10_isOrder_48 (by decide) ?_
        refine lv_bipush (v := 20) X.1 X.2.1 dX10_isOrder_49 (by decide) ?_
        refine xc_i (xr_S (n := 3) X hk hw hv.1 (c_X10_in l Z et S_9 (x4) (0) (20) _ h) (tb_S tw_613 tw_611 tw_612 tw_44) rfl rfl (by decide +kernel) ⟨Nat.le_of_ble_eq_true rfl, Nat.le_of_ble_eq_true rfl⟩ rfl (Nat.le_of_ble_eq_true rfl) dX10_isOrder_51 ⟨Nat.le_of_ble_eq_true rfl, Nat.le_of_ble_eq_true rfl⟩) hl (fun r_13 S_12 H locs h hN hw hl => ?_)
        replace hNN := hN.trans hNN
        refine lv_if_eq (tgt := 61) X.1 X.2.1 dX10_isOrder_54 (by decide) (fun c_14 => ?_) (fun c_14 => ?_)
        · skip
          replace h := h.1 c_14
          refine lv_iconst (v := 0) X.1 X.2.1 dX10_isOrder_61 (by decide) ?_
          exact xt_z X hr hlocks hNN hw hl (by decide) h dX10_isOrder_62
        · skip
          replace h := h.2 c_14
          refine lv_iconst (v := 1) X.1 X.2.1 dX10_isOrder_57 (by decide) ?_
          refine lv_goto (tgt := 62) X.1 X.2.1 dX10_isOrder_58 (by decide) ?_
          exact xt_z X hr hlocks hNN hw hl (by decide) h dX10_isOrder_62
  · skip
    replace h := h.2 c_1
    refine lv_iload_n X.1 X.2.1 dX10_isOrder_6 rfl (lv_at hv 1 rfl) ?_
    refine lv_iconst (v := 0) X.1 X.2.1 dX10_isOrder_7 (by decide) ?_
    refine lv_iconst (v := 5) X.1 X.2.1 dX10_isOrder_8 (by decide) ?_
    refine xc_i (xr_S (n := 3) X hk hw hv.1 (c_X10_in l Z et S (x2) (0) (5) _ h) (tb_S tw_613 tw_611 tw_612 tw_44) rfl rfl (by decide +kernel) ⟨Nat.le_of_ble_eq_true rfl, Nat.le_of_ble_eq_true rfl⟩ rfl (Nat.le_of_ble_eq_true rfl) dX10_isOrder_9 ⟨Nat.le_of_ble_eq_true rfl, Nat.le_of_ble_eq_true rfl⟩) hl (fun r_16 S_15 H locs h hN hw hl => ?_)
    replace hNN := hN.trans hNN
    refine lv_if_eq (tgt := 29) X.1 X.2.1 dX10_isOrder_12 (by decide) (fun c_17 => ?_) (fun c_17 => ?_)
    · skip
      replace h := h.1 c_17
      refine lv_iconst (v := 0) X.1 X.2.1 dX10_isOrder_29 (by decide) ?_
      exact xt_z X hr hlocks hNN hw hl (by decide) h dX10_isOrder_30
    · skip
      replace h := h.2 c_17
      refine lv_iload_n X.1 X.2.1 dX10_isOrder_15 rfl (lv_at hv 3 rfl) ?_
      refine lv_iconst (v := 0) X.1 X.2.1 dX10_isOrder_16 (by decide) ?_
      refine lv_bipush (v := 60) X.1 X.2.1 dX10_isOrder_17 (by decide) ?_
      refine xc_i (xr_S (n := 3) X hk hw hv.1 (c_X10_in l Z et S_15 (x4) (0) (60) _ h) (tb_S tw_613 tw_611 tw_612 tw_44) rfl rfl (by decide +kernel) ⟨Nat.le_of_ble_eq_true rfl, Nat.le_of_ble_eq_true rfl⟩ rfl (Nat.le_of_ble_eq_true rfl) dX10_isOrder_19 ⟨Nat.le_of_ble_eq_true rfl, Nat.le_of_ble_eq_true rfl⟩) hl (fun r_19 S_18 H locs h hN hw hl => ?_)
      replace hNN := hN.trans hNN
      refine lv_if_eq (tgt := 29) X.1 X.2.1 dX10_isOrder_22 (by decide) (fun c_20 => ?_) (fun c_20 => ?_)
      · skip
        replace h := h.1 c_20
        refine lv_iconst (v := 0) X.1 X.2.1 dX10_isOrder_29 (by decide) ?_
        exact xt_z X hr hlocks hNN hw hl (by decide) h dX10_isOrder_30
      · skip
        replace h := h.2 c_20
        refine lv_iconst (v := 1) X.1 X.2.1 dX10_isOrder_25 (by decide) ?_
        refine lv_goto (tgt := 30) X.1 X.2.1 dX10_isOrder_26 (by decide) ?_
        exact xt_z X hr hlocks hNN hw hl (by decide) h dX10_isOrder_30
def v_X10_order (x1 : Int32) (x2 : Int32) (x3 : Int32) (x4 : Int32) (S : xs_T) (K : Int32 → xs_T → Prop) : Prop := (((xF S 0 12) = 60 → K ((-1)) S) ∧ (¬ (xF S 0 12) = 60 → v_X10_isOrder (x1) (x2) (x3) (x4) S (fun (r_3 : Int32) (S_2 : xs_T) => ((¬ r_3 = 0 → ∃ j_5 : Nat, (xF S_2 0 12) = nI j_5 ∧ j_5 < 60 ∧ ∀ S_8 : xs_T, S_8 = sI S_2 13 j_5 (x1) → ∃ j_10 : Nat, (xF S_8 0 12) = nI j_10 ∧ j_10 < 60 ∧ ∀ S_13 : xs_T, S_13 = sI S_8 14 j_10 (x2) → ∃ j_15 : Nat, (xF S_13 0 12) = nI j_15 ∧ j_15 < 60 ∧ ∀ S_18 : xs_T, S_18 = sI S_13 15 j_15 (x3) → ∃ j_20 : Nat, (xF S_18 0 12) = nI j_20 ∧ j_20 < 60 ∧ ∀ S_23 : xs_T, S_23 = sI S_18 16 j_20 (x4) → ∀ S_25 : xs_T, S_25 = sF S_23 0 12 (((xF S_23 0 12) + 1)) → K (((xF S_25 0 12) - 1)) S_25) ∧ (r_3 = 0 → K ((-1)) S_2)))))
set_option maxHeartbeats 4000000 in
set_option maxRecDepth 100000 in
theorem c_X10_order (l : Launch) (Z : xz_T) (et : Nat → Nat) (S : xs_T) (x1 : Int32) (x2 : Int32) (x3 : Int32) (x4 : Int32) (K : Int32 → xs_T → Prop) (h : v_X10_order x1 x2 x3 x4 S K) : Met l yX10_order (wq yX10_order cX10_order 5 (some .int)) { frames := 2, cells := 0, slots := 0, locals := 47 } (xPc Z et S [.ref (et (0)), .int (x1), .int (x2), .int (x3), .int (x4)]) (xQi Z et S.2.2.2.2 K) 0 0 (fun q => Z.2.2.1 ≤ q) := by
  refine Met.ofW (cc := cX10_order) (maxL := 5) (ret := (some .int)) (by decide +kernel) rfl ?_
  intro p e s m args below meth c s₁ B hml hv0
  obtain ⟨rfl, hk, hw⟩ := hv0
  have X : CallFix p m c cX10_order 5 s _ (wq yX10_order cX10_order 5 (some .int)) RX10 := ⟨B.exec, B.bytes, hml, findClass_of_methodNamed B.named, atoms_spec (ws := (wq yX10_order cX10_order 5 (some .int))) B.pre⟩
  have hr := B.returns
  have hlocks := B.notSynchronized
  have hl : xl Z [] := fun _ h => by cases h
  have hNN : S.2.2.2.2 = S.2.2.2.2 := rfl
  have hv := lv_entry [.ref (et (0)), .int (x1), .int (x2), .int (x3), .int (x4)] (n := 5) (Nat.le_of_ble_eq_true rfl)
  rw [lg_entry_eq]
  generalize (lg_sl [.ref (et (0)), .int (x1), .int (x2), .int (x3), .int (x4)] ++ List.replicate (5 - (lg_sl [.ref (et (0)), .int (x1), .int (x2), .int (x3), .int (x4)]).length) Slot.unset).toArray = ls at hv ⊢
  replace hv : lv_has ls 5 [(0, .ref (et (0))), (1, .int (x1)), (2, .int (x2)), (3, .int (x3)), (4, .int (x4))] := hv
  unfold v_X10_order at h
  refine lv_aload_n X.1 X.2.1 dX10_order_0 rfl (lv_at hv 0 rfl) ?_
  refine xw_get X hk hw (i := 0) 12 xe_0 rfl tlX10 (by decide) rfl tw_531 dX10_order_1 ?_
  refine lv_bipush (v := 60) X.1 X.2.1 dX10_order_4 (by decide) ?_
  refine lv_icmp_eq (tgt := 20) X.1 X.2.1 dX10_order_6 (by decide) (fun c_1 => ?_) (fun c_1 => ?_)
  · skip
    replace h := h.1 c_1
    refine lv_iconst (v := (-1)) X.1 X.2.1 dX10_order_20 (by decide) ?_
    exact xt_i X hr hlocks hNN hw hl h dX10_order_21
  · skip
    replace h := h.2 c_1
    refine lv_iload_n X.1 X.2.1 dX10_order_9 rfl (lv_at hv 1 rfl) ?_
    refine lv_iload_n X.1 X.2.1 dX10_order_10 rfl (lv_at hv 2 rfl) ?_
    refine lv_iload_n X.1 X.2.1 dX10_order_11 rfl (lv_at hv 3 rfl) ?_
    refine lv_iload X.1 X.2.1 dX10_order_12 (lv_at hv 4 rfl) ?_
    refine xc_i (xr_S (n := 4) X hk hw hv.1 (c_X10_isOrder l Z et S (x1) (x2) (x3) (x4) _ h) (tb_S tw_610 tw_608 tw_609 tw_44) rfl rfl (by decide +kernel) ⟨Nat.le_of_ble_eq_true rfl, Nat.le_of_ble_eq_true rfl⟩ rfl (Nat.le_of_ble_eq_true rfl) dX10_order_14 ⟨Nat.le_of_ble_eq_true rfl, Nat.le_of_ble_eq_true rfl⟩) hl (fun r_3 S_2 H locs h hN hw hl => ?_)
    replace hNN := hN.trans hNN
    refine lv_if_ne (tgt := 22) X.1 X.2.1 dX10_order_17 (by decide) (fun c_4 => ?_) (fun c_4 => ?_)
    · skip
      replace h := h.1 c_4
      refine lv_aload_n X.1 X.2.1 dX10_order_22 rfl (lv_at hv 0 rfl) ?_
      refine xw_get X hk hw (i := 0) 13 xe_0 rfl tlX10 (by decide) rfl tw_532 dX10_order_23 ?_
      refine lv_aload_n X.1 X.2.1 dX10_order_26 rfl (lv_at hv 0 rfl) ?_
      refine xw_get X hk hw (i := 0) 12 xe_0 rfl tlX10 (by decide) rfl tw_531 dX10_order_27 ?_
      refine lv_iload_n X.1 X.2.1 dX10_order_30 rfl (lv_at hv 1 rfl) ?_
      obtain ⟨j_5, e_6, b_7, h⟩ := h
      refine xw_ist X hk hw hl xe_13 rfl e_6 b_7 (by decide) dX10_order_31 (fun H locs hw hl => ?_)
      obtain ⟨S_8, e_9⟩ : ∃ T : xs_T, T = sI S_2 13 j_5 (x1) := ⟨_, rfl⟩
      rw [← e_9] at hw
      replace h := h S_8 e_9
      have hN : S_8.2.2.2.2 = S_2.2.2.2.2 := by rw [e_9]; rfl
      replace hNN := hN.trans hNN
      refine lv_aload_n X.1 X.2.1 dX10_order_32 rfl (lv_at hv 0 rfl) ?_
      refine xw_get X hk hw (i := 0) 14 xe_0 rfl tlX10 (by decide) rfl tw_533 dX10_order_33 ?_
      refine lv_aload_n X.1 X.2.1 dX10_order_36 rfl (lv_at hv 0 rfl) ?_
      refine xw_get X hk hw (i := 0) 12 xe_0 rfl tlX10 (by decide) rfl tw_531 dX10_order_37 ?_
      refine lv_iload_n X.1 X.2.1 dX10_order_40 rfl (lv_at hv 2 rfl) ?_
      obtain ⟨j_10, e_11, b_12, h⟩ := h
      refine xw_ist X hk hw hl xe_14 rfl e_11 b_12 (by decide) dX10_order_41 (fun H locs hw hl => ?_)
      obtain ⟨S_13, e_14⟩ : ∃ T : xs_T, T = sI S_8 14 j_10 (x2) := ⟨_, rfl⟩
      rw [← e_14] at hw
      replace h := h S_13 e_14
      have hN : S_13.2.2.2.2 = S_8.2.2.2.2 := by rw [e_14]; rfl
      replace hNN := hN.trans hNN
      refine lv_aload_n X.1 X.2.1 dX10_order_42 rfl (lv_at hv 0 rfl) ?_
      refine xw_get X hk hw (i := 0) 15 xe_0 rfl tlX10 (by decide) rfl tw_534 dX10_order_43 ?_
      refine lv_aload_n X.1 X.2.1 dX10_order_46 rfl (lv_at hv 0 rfl) ?_
      refine xw_get X hk hw (i := 0) 12 xe_0 rfl tlX10 (by decide) rfl tw_531 dX10_order_47 ?_
      refine lv_iload_n X.1 X.2.1 dX10_order_50 rfl (lv_at hv 3 rfl) ?_
      obtain ⟨j_15, e_16, b_17, h⟩ := h
      refine xw_ist X hk hw hl xe_15 rfl e_16 b_17 (by decide) dX10_order_51 (fun H locs hw hl => ?_)
      obtain ⟨S_18, e_19⟩ : ∃ T : xs_T, T = sI S_13 15 j_15 (x3) := ⟨_, rfl⟩
      rw [← e_19] at hw
      replace h := h S_18 e_19
      have hN : S_18.2.2.2.2 = S_13.2.2.2.2 := by rw [e_19]; rfl
      replace hNN := hN.trans hNN
      refine lv_aload_n X.1 X.2.1 dX10_order_52 rfl (lv_at hv 0 rfl) ?_
      refine xw_get X hk hw (i := 0) 16 xe_0 rfl tlX10 (by decide) rfl tw_535 dX10_order_53 ?_
      refine lv_aload_n X.1 X.2.1 dX10_order_56 rfl (lv_at hv 0 rfl) ?_
      refine xw_get X hk hw (i := 0) 12 xe_0 rfl tlX10 (by decide) rfl tw_531 dX10_order_57 ?_
      refine lv_iload X.1 X.2.1 dX10_order_60 (lv_at hv 4 rfl) ?_
      obtain ⟨j_20, e_21, b_22, h⟩ := h
      refine xw_ist X hk hw hl xe_16 rfl e_21 b_22 (by decide) dX10_order_62 (fun H locs hw hl => ?_)
      obtain ⟨S_23, e_24⟩ : ∃ T : xs_T, T = sI S_18 16 j_20 (x4) := ⟨_, rfl⟩
      rw [← e_24] at hw
      replace h := h S_23 e_24
      have hN : S_23.2.2.2.2 = S_18.2.2.2.2 := by rw [e_24]; rfl
      replace hNN := hN.trans hNN
      refine lv_aload_n X.1 X.2.1 dX10_order_63 rfl (lv_at hv 0 rfl) ?_
      refine lv_dup X.1 X.2.1 dX10_order_64 rfl ?_
      refine xw_get X hk hw (i := 0) 12 xe_0 rfl tlX10 (by decide) rfl tw_531 dX10_order_65 ?_
      refine lv_iconst (v := 1) X.1 X.2.1 dX10_order_68 (by decide) ?_
      refine lv_iadd X.1 X.2.1 dX10_order_69 ?_
      refine xw_put X hk hw hl (i := 0) 12 xe_0 rfl rfl tlX10 tyX10 tyX10_ok nmX10 (by decide) tw_531 rfl rfl (Nat.le_of_ble_eq_true rfl) dX10_order_70 (fun H locs hw hl => ?_)
      obtain ⟨S_25, e_26⟩ : ∃ T : xs_T, T = sF S_23 0 12 (((xF S_23 0 12) + 1)) := ⟨_, rfl⟩
      rw [← e_26] at hw
      replace h := h S_25 e_26
      have hN : S_25.2.2.2.2 = S_23.2.2.2.2 := by rw [e_26]; rfl
      replace hNN := hN.trans hNN
      refine lv_aload_n X.1 X.2.1 dX10_order_73 rfl (lv_at hv 0 rfl) ?_
      refine xw_get X hk hw (i := 0) 12 xe_0 rfl tlX10 (by decide) rfl tw_531 dX10_order_74 ?_
      refine lv_iconst (v := 1) X.1 X.2.1 dX10_order_77 (by decide) ?_
      refine lv_isub X.1 X.2.1 dX10_order_78 ?_
      exact xt_i X hr hlocks hNN hw hl h dX10_order_79
    · skip
      replace h := h.2 c_4
      refine lv_iconst (v := (-1)) X.1 X.2.1 dX10_order_20 (by decide) ?_
      exact xt_i X hr hlocks hNN hw hl h dX10_order_21
def v_X10_cut (x1 : Int32) (S : xs_T) (K : Int32 → xs_T → Prop) : Prop := v_X10_in (x1) (0) ((xF S 0 12)) S (fun (r_2 : Int32) (S_1 : xs_T) => ((¬ r_2 = 0 → ∀ S_4 : xs_T, S_4 = sF S_1 0 12 (x1) → K (1) S_4) ∧ (r_2 = 0 → K (0) S_1)))
set_option maxHeartbeats 4000000 in
set_option maxRecDepth 100000 in
theorem c_X10_cut (l : Launch) (Z : xz_T) (et : Nat → Nat) (S : xs_T) (x1 : Int32) (K : Int32 → xs_T → Prop) (h : v_X10_cut x1 S K) : Met l yX10_cut (wq yX10_cut cX10_cut 2 (some .boolean)) { frames := 1, cells := 0, slots := 0, locals := 22 } (xPc Z et S [.ref (et (0)), .int (x1)]) (xQi Z et S.2.2.2.2 K) 0 0 (fun q => Z.2.2.1 ≤ q) := by
  refine Met.ofW (cc := cX10_cut) (maxL := 2) (ret := (some .boolean)) (by decide +kernel) rfl ?_
  intro p e s m args below meth c s₁ B hml hv0
  obtain ⟨rfl, hk, hw⟩ := hv0
  have X : CallFix p m c cX10_cut 2 s _ (wq yX10_cut cX10_cut 2 (some .boolean)) RX10 := ⟨B.exec, B.bytes, hml, findClass_of_methodNamed B.named, atoms_spec (ws := (wq yX10_cut cX10_cut 2 (some .boolean))) B.pre⟩
  have hr := B.returns
  have hlocks := B.notSynchronized
  have hl : xl Z [] := fun _ h => by cases h
  have hNN : S.2.2.2.2 = S.2.2.2.2 := rfl
  have hv := lv_entry [.ref (et (0)), .int (x1)] (n := 2) (Nat.le_of_ble_eq_true rfl)
  rw [lg_entry_eq]
  generalize (lg_sl [.ref (et (0)), .int (x1)] ++ List.replicate (2 - (lg_sl [.ref (et (0)), .int (x1)]).length) Slot.unset).toArray = ls at hv ⊢
  replace hv : lv_has ls 2 [(0, .ref (et (0))), (1, .int (x1))] := hv
  unfold v_X10_cut at h
  refine lv_iload_n X.1 X.2.1 dX10_cut_0 rfl (lv_at hv 1 rfl) ?_
  refine lv_iconst (v := 0) X.1 X.2.1 dX10_cut_1 (by decide) ?_
  refine lv_aload_n X.1 X.2.1 dX10_cut_2 rfl (lv_at hv 0 rfl) ?_
  refine xw_get X hk hw (i := 0) 12 xe_0 rfl tlX10 (by decide) rfl tw_531 dX10_cut_3 ?_
  refine xc_i (xr_S (n := 3) X hk hw hv.1 (c_X10_in l Z et S (x1) (0) ((xF S 0 12)) _ h) (tb_S tw_613 tw_611 tw_612 tw_44) rfl rfl (by decide +kernel) ⟨Nat.le_of_ble_eq_true rfl, Nat.le_of_ble_eq_true rfl⟩ rfl (Nat.le_of_ble_eq_true rfl) dX10_cut_6 ⟨Nat.le_of_ble_eq_true rfl, Nat.le_of_ble_eq_true rfl⟩) hl (fun r_2 S_1 H locs h hN hw hl => ?_)
  replace hNN := hN.trans hNN
  refine lv_if_ne (tgt := 14) X.1 X.2.1 dX10_cut_9 (by decide) (fun c_3 => ?_) (fun c_3 => ?_)
  · skip
    replace h := h.1 c_3
    refine lv_aload_n X.1 X.2.1 dX10_cut_14 rfl (lv_at hv 0 rfl) ?_
    refine lv_iload_n X.1 X.2.1 dX10_cut_15 rfl (lv_at hv 1 rfl) ?_
    refine xw_put X hk hw hl (i := 0) 12 xe_0 rfl rfl tlX10 tyX10 tyX10_ok nmX10 (by decide) tw_531 rfl rfl (Nat.le_of_ble_eq_true rfl) dX10_cut_16 (fun H locs hw hl => ?_)
    obtain ⟨S_4, e_5⟩ : ∃ T : xs_T, T = sF S_1 0 12 (x1) := ⟨_, rfl⟩
    rw [← e_5] at hw
    replace h := h S_4 e_5
    have hN : S_4.2.2.2.2 = S_1.2.2.2.2 := by rw [e_5]; rfl
    replace hNN := hN.trans hNN
    refine lv_iconst (v := 1) X.1 X.2.1 dX10_cut_19 (by decide) ?_
    exact xt_z X hr hlocks hNN hw hl (by decide) h dX10_cut_20
  · skip
    replace h := h.2 c_3
    refine lv_iconst (v := 0) X.1 X.2.1 dX10_cut_12 (by decide) ?_
    exact xt_z X hr hlocks hNN hw hl (by decide) h dX10_cut_13
def v_X10_hold (x1 : Int32) (x2 : Int32) (x3 : Int32) (S : xs_T) (K : xs_T → Prop) : Prop := ∃ j_1 : Nat, x1 = nI j_1 ∧ j_1 < 10 ∧ ∀ S_4 : xs_T, S_4 = sI S 9 j_1 (x2) → ∃ j_6 : Nat, x1 = nI j_6 ∧ j_6 < 10 ∧ ∀ S_9 : xs_T, S_9 = sI S_4 10 j_6 (x3) → K S_9
set_option maxHeartbeats 4000000 in
set_option maxRecDepth 100000 in
theorem c_X10_hold (l : Launch) (Z : xz_T) (et : Nat → Nat) (S : xs_T) (x1 : Int32) (x2 : Int32) (x3 : Int32) (K : xs_T → Prop) (h : v_X10_hold x1 x2 x3 S K) : Met l yX10_hold (wq yX10_hold cX10_hold 4 none) { frames := 0, cells := 0, slots := 0, locals := 0 } (xPc Z et S [.ref (et (0)), .int (x1), .int (x2), .int (x3)]) (xQv Z et S.2.2.2.2 K) 0 0 (fun q => Z.2.2.1 ≤ q) := by
  refine Met.ofW (cc := cX10_hold) (maxL := 4) (ret := none) (by decide +kernel) rfl ?_
  intro p e s m args below meth c s₁ B hml hv0
  obtain ⟨rfl, hk, hw⟩ := hv0
  have X : CallFix p m c cX10_hold 4 s _ (wq yX10_hold cX10_hold 4 none) RX10 := ⟨B.exec, B.bytes, hml, findClass_of_methodNamed B.named, atoms_spec (ws := (wq yX10_hold cX10_hold 4 none)) B.pre⟩
  have hr := B.returns
  have hlocks := B.notSynchronized
  have hl : xl Z [] := fun _ h => by cases h
  have hNN : S.2.2.2.2 = S.2.2.2.2 := rfl
  have hv := lv_entry [.ref (et (0)), .int (x1), .int (x2), .int (x3)] (n := 4) (Nat.le_of_ble_eq_true rfl)
  rw [lg_entry_eq]
  generalize (lg_sl [.ref (et (0)), .int (x1), .int (x2), .int (x3)] ++ List.replicate (4 - (lg_sl [.ref (et (0)), .int (x1), .int (x2), .int (x3)]).length) Slot.unset).toArray = ls at hv ⊢
  replace hv : lv_has ls 4 [(0, .ref (et (0))), (1, .int (x1)), (2, .int (x2)), (3, .int (x3))] := hv
  unfold v_X10_hold at h
  refine lv_aload_n X.1 X.2.1 dX10_hold_0 rfl (lv_at hv 0 rfl) ?_
  refine xw_get X hk hw (i := 0) 9 xe_0 rfl tlX10 (by decide) rfl tw_528 dX10_hold_1 ?_
  refine lv_iload_n X.1 X.2.1 dX10_hold_4 rfl (lv_at hv 1 rfl) ?_
  refine lv_iload_n X.1 X.2.1 dX10_hold_5 rfl (lv_at hv 2 rfl) ?_
  obtain ⟨j_1, e_2, b_3, h⟩ := h
  refine xw_ist X hk hw hl xe_9 rfl e_2 b_3 (by decide) dX10_hold_6 (fun H locs hw hl => ?_)
  obtain ⟨S_4, e_5⟩ : ∃ T : xs_T, T = sI S 9 j_1 (x2) := ⟨_, rfl⟩
  rw [← e_5] at hw
  replace h := h S_4 e_5
  have hN : S_4.2.2.2.2 = S.2.2.2.2 := by rw [e_5]; rfl
  replace hNN := hN.trans hNN
  refine lv_aload_n X.1 X.2.1 dX10_hold_7 rfl (lv_at hv 0 rfl) ?_
  refine xw_get X hk hw (i := 0) 10 xe_0 rfl tlX10 (by decide) rfl tw_529 dX10_hold_8 ?_
  refine lv_iload_n X.1 X.2.1 dX10_hold_11 rfl (lv_at hv 1 rfl) ?_
  refine lv_iload_n X.1 X.2.1 dX10_hold_12 rfl (lv_at hv 3 rfl) ?_
  obtain ⟨j_6, e_7, b_8, h⟩ := h
  refine xw_ist X hk hw hl xe_10 rfl e_7 b_8 (by decide) dX10_hold_13 (fun H locs hw hl => ?_)
  obtain ⟨S_9, e_10⟩ : ∃ T : xs_T, T = sI S_4 10 j_6 (x3) := ⟨_, rfl⟩
  rw [← e_10] at hw
  replace h := h S_9 e_10
  have hN : S_9.2.2.2.2 = S_4.2.2.2.2 := by rw [e_10]; rfl
  replace hNN := hN.trans hNN
  exact xt_v X hr hlocks hNN hw hl h dX10_hold_14
def v_X10_hang_17 (K : Int32 → xs_T → Prop) (a1 : Int32) (a2 : Int32) (S : xs_T) : Prop := ((¬ a2 = 0 → ((¬ a2 = 1 → ∀ S_5 : xs_T, S_5 = sF S 0 6 (((xF S 0 6) + 1)) → ∃ j_7 : Nat, (xF S_5 0 6) = nI j_7 ∧ j_7 < 401 ∧ ∀ S_10 : xs_T, S_10 = sI S_5 7 j_7 ((a2 - 1)) → v_X10_hold (a1) (3) ((xF S_10 0 6)) S_10 (fun (S_12 : xs_T) => K (0) S_12)) ∧ (a2 = 1 → ∀ S_14 : xs_T, S_14 = sF S 0 8 (((xF S 0 8) + 1)) → v_X10_hold (a1) (2) ((xF S_14 0 8)) S_14 (fun (S_16 : xs_T) => K (0) S_16)))) ∧ (a2 = 0 → v_X10_hold (a1) (0) (0) S (fun (S_18 : xs_T) => K (0) S_18)))
def v_X10_hang (x1 : Int32) (x2 : Int32) (S : xs_T) (K : Int32 → xs_T → Prop) : Prop := ((x2 ≤ 1 → v_X10_hang_17 K (x1) (x2) S) ∧ (¬ x2 ≤ 1 → ((¬ (xF S 0 6) = 400 → v_X10_hang_17 K (x1) (x2) S) ∧ ((xF S 0 6) = 400 → K (4) S))))
set_option maxHeartbeats 4000000 in
set_option maxRecDepth 100000 in
theorem j_X10_hang_17 {l : Launch} {p : Program} {e : Env} {s : State} {m : MethodId} {args : Array Value} {below : List Frame} {meth : Method} {c : Code} {Z : xz_T} {et : Nat → Nat} {Nn : Nat → Nat} {K : Int32 → xs_T → Prop} (X : CallFix p m c cX10_hang 3 s args (wq yX10_hang cX10_hang 3 (some .int)) RX10) (hk : xk Z s) (hr : meth.sig.returnType = (some .int)) (hlocks : meth.locks = false) : ∀ (a1 : Int32) (a2 : Int32) (S : xs_T) (H : Heap) (locs : List Loc) (ls : Array Slot), v_X10_hang_17 K a1 a2 S → S.2.2.2.2 = Nn → wd Z et S H → xl Z locs → lv_has ls 3 [(0, .ref (et (0))), (1, .int (a1)), (2, .int (a2))] → W p l e (headSpec (wq yX10_hang cX10_hang 3 (some .int)) { frames := 1, cells := 0, slots := 0, locals := 23 }).room s m args below meth c H locs 0 0 (MQ below (xQi Z et Nn K) args s 0 0 (fun q => Z.2.2.1 ≤ q)) (F0 m 17 ls []) := by
  intro a1 a2 S H locs ls h hNN hw hl hv
  unfold v_X10_hang_17 at h
  refine lv_iload_n X.1 X.2.1 dX10_hang_17 rfl (lv_at hv 2 rfl) ?_
  refine lv_if_ne (tgt := 31) X.1 X.2.1 dX10_hang_18 (by decide) (fun c_3 => ?_) (fun c_3 => ?_)
  · skip
    replace h := h.1 c_3
    refine lv_iload_n X.1 X.2.1 dX10_hang_31 rfl (lv_at hv 2 rfl) ?_
    refine lv_iconst (v := 1) X.1 X.2.1 dX10_hang_32 (by decide) ?_
    refine lv_icmp_ne (tgt := 59) X.1 X.2.1 dX10_hang_33 (by decide) (fun c_4 => ?_) (fun c_4 => ?_)
    · skip
      replace h := h.1 c_4
      refine lv_aload_n X.1 X.2.1 dX10_hang_59 rfl (lv_at hv 0 rfl) ?_
      refine lv_dup X.1 X.2.1 dX10_hang_60 rfl ?_
      refine xw_get X hk hw (i := 0) 6 xe_0 rfl tlX10 (by decide) rfl tw_525 dX10_hang_61 ?_
      refine lv_iconst (v := 1) X.1 X.2.1 dX10_hang_64 (by decide) ?_
      refine lv_iadd X.1 X.2.1 dX10_hang_65 ?_
      refine xw_put X hk hw hl (i := 0) 6 xe_0 rfl rfl tlX10 tyX10 tyX10_ok nmX10 (by decide) tw_525 rfl rfl (Nat.le_of_ble_eq_true rfl) dX10_hang_66 (fun H locs hw hl => ?_)
      obtain ⟨S_5, e_6⟩ : ∃ T : xs_T, T = sF S 0 6 (((xF S 0 6) + 1)) := ⟨_, rfl⟩
      rw [← e_6] at hw
      replace h := h S_5 e_6
      have hN : S_5.2.2.2.2 = S.2.2.2.2 := by rw [e_6]; rfl
      replace hNN := hN.trans hNN
      refine lv_aload_n X.1 X.2.1 dX10_hang_69 rfl (lv_at hv 0 rfl) ?_
      refine xw_get X hk hw (i := 0) 7 xe_0 rfl tlX10 (by decide) rfl tw_526 dX10_hang_70 ?_
      refine lv_aload_n X.1 X.2.1 dX10_hang_73 rfl (lv_at hv 0 rfl) ?_
      refine xw_get X hk hw (i := 0) 6 xe_0 rfl tlX10 (by decide) rfl tw_525 dX10_hang_74 ?_
      refine lv_iload_n X.1 X.2.1 dX10_hang_77 rfl (lv_at hv 2 rfl) ?_
      refine lv_iconst (v := 1) X.1 X.2.1 dX10_hang_78 (by decide) ?_
      refine lv_isub X.1 X.2.1 dX10_hang_79 ?_
      obtain ⟨j_7, e_8, b_9, h⟩ := h
      refine xw_ist X hk hw hl xe_7 rfl e_8 b_9 (by decide) dX10_hang_80 (fun H locs hw hl => ?_)
      obtain ⟨S_10, e_11⟩ : ∃ T : xs_T, T = sI S_5 7 j_7 ((a2 - 1)) := ⟨_, rfl⟩
      rw [← e_11] at hw
      replace h := h S_10 e_11
      have hN : S_10.2.2.2.2 = S_5.2.2.2.2 := by rw [e_11]; rfl
      replace hNN := hN.trans hNN
      refine lv_aload_n X.1 X.2.1 dX10_hang_81 rfl (lv_at hv 0 rfl) ?_
      refine lv_iload_n X.1 X.2.1 dX10_hang_82 rfl (lv_at hv 1 rfl) ?_
      refine lv_iconst (v := 3) X.1 X.2.1 dX10_hang_83 (by decide) ?_
      refine lv_aload_n X.1 X.2.1 dX10_hang_84 rfl (lv_at hv 0 rfl) ?_
      refine xw_get X hk hw (i := 0) 6 xe_0 rfl tlX10 (by decide) rfl tw_525 dX10_hang_85 ?_
      refine xc_v (xr_V (n := 3) (As := [.int (a1), .int (3), .int ((xF S_10 0 6))]) (i := 0) X hk hw hv.1 (c_X10_hold l Z et S_10 (a1) (3) ((xF S_10 0 6)) _ h) (tb_V tw_665 tw_662 tw_664 tw_27 tw_44) xe_0 rfl rfl rfl rfl (by decide +kernel) ⟨Nat.le_of_ble_eq_true rfl, Nat.le_of_ble_eq_true rfl⟩ rfl (Nat.le_of_ble_eq_true rfl) dX10_hang_88 ⟨Nat.le_of_ble_eq_true rfl, Nat.le_of_ble_eq_true rfl⟩) hl (fun S_12 H locs h hN hw hl => ?_)
      replace hNN := hN.trans hNN
      refine lv_iconst (v := 0) X.1 X.2.1 dX10_hang_91 (by decide) ?_
      exact xt_i X hr hlocks hNN hw hl h dX10_hang_92
    · skip
      replace h := h.2 c_4
      refine lv_aload_n X.1 X.2.1 dX10_hang_36 rfl (lv_at hv 0 rfl) ?_
      refine lv_dup X.1 X.2.1 dX10_hang_37 rfl ?_
      refine xw_get X hk hw (i := 0) 8 xe_0 rfl tlX10 (by decide) rfl tw_527 dX10_hang_38 ?_
      refine lv_iconst (v := 1) X.1 X.2.1 dX10_hang_41 (by decide) ?_
      refine lv_iadd X.1 X.2.1 dX10_hang_42 ?_
      refine xw_put X hk hw hl (i := 0) 8 xe_0 rfl rfl tlX10 tyX10 tyX10_ok nmX10 (by decide) tw_527 rfl rfl (Nat.le_of_ble_eq_true rfl) dX10_hang_43 (fun H locs hw hl => ?_)
      obtain ⟨S_14, e_15⟩ : ∃ T : xs_T, T = sF S 0 8 (((xF S 0 8) + 1)) := ⟨_, rfl⟩
      rw [← e_15] at hw
      replace h := h S_14 e_15
      have hN : S_14.2.2.2.2 = S.2.2.2.2 := by rw [e_15]; rfl
      replace hNN := hN.trans hNN
      refine lv_aload_n X.1 X.2.1 dX10_hang_46 rfl (lv_at hv 0 rfl) ?_
      refine lv_iload_n X.1 X.2.1 dX10_hang_47 rfl (lv_at hv 1 rfl) ?_
      refine lv_iconst (v := 2) X.1 X.2.1 dX10_hang_48 (by decide) ?_
      refine lv_aload_n X.1 X.2.1 dX10_hang_49 rfl (lv_at hv 0 rfl) ?_
      refine xw_get X hk hw (i := 0) 8 xe_0 rfl tlX10 (by decide) rfl tw_527 dX10_hang_50 ?_
      refine xc_v (xr_V (n := 3) (As := [.int (a1), .int (2), .int ((xF S_14 0 8))]) (i := 0) X hk hw hv.1 (c_X10_hold l Z et S_14 (a1) (2) ((xF S_14 0 8)) _ h) (tb_V tw_665 tw_662 tw_664 tw_27 tw_44) xe_0 rfl rfl rfl rfl (by decide +kernel) ⟨Nat.le_of_ble_eq_true rfl, Nat.le_of_ble_eq_true rfl⟩ rfl (Nat.le_of_ble_eq_true rfl) dX10_hang_53 ⟨Nat.le_of_ble_eq_true rfl, Nat.le_of_ble_eq_true rfl⟩) hl (fun S_16 H locs h hN hw hl => ?_)
      replace hNN := hN.trans hNN
      refine lv_goto (tgt := 91) X.1 X.2.1 dX10_hang_56 (by decide) ?_
      refine lv_iconst (v := 0) X.1 X.2.1 dX10_hang_91 (by decide) ?_
      exact xt_i X hr hlocks hNN hw hl h dX10_hang_92
  · skip
    replace h := h.2 c_3
    refine lv_aload_n X.1 X.2.1 dX10_hang_21 rfl (lv_at hv 0 rfl) ?_
    refine lv_iload_n X.1 X.2.1 dX10_hang_22 rfl (lv_at hv 1 rfl) ?_
    refine lv_iconst (v := 0) X.1 X.2.1 dX10_hang_23 (by decide) ?_
    refine lv_iconst (v := 0) X.1 X.2.1 dX10_hang_24 (by decide) ?_
    refine xc_v (xr_V (n := 3) (As := [.int (a1), .int (0), .int (0)]) (i := 0) X hk hw hv.1 (c_X10_hold l Z et S (a1) (0) (0) _ h) (tb_V tw_665 tw_662 tw_664 tw_27 tw_44) xe_0 rfl rfl rfl rfl (by decide +kernel) ⟨Nat.le_of_ble_eq_true rfl, Nat.le_of_ble_eq_true rfl⟩ rfl (Nat.le_of_ble_eq_true rfl) dX10_hang_25 ⟨Nat.le_of_ble_eq_true rfl, Nat.le_of_ble_eq_true rfl⟩) hl (fun S_18 H locs h hN hw hl => ?_)
    replace hNN := hN.trans hNN
    refine lv_goto (tgt := 91) X.1 X.2.1 dX10_hang_28 (by decide) ?_
    refine lv_iconst (v := 0) X.1 X.2.1 dX10_hang_91 (by decide) ?_
    exact xt_i X hr hlocks hNN hw hl h dX10_hang_92
set_option maxHeartbeats 4000000 in
set_option maxRecDepth 100000 in
theorem c_X10_hang (l : Launch) (Z : xz_T) (et : Nat → Nat) (S : xs_T) (x1 : Int32) (x2 : Int32) (K : Int32 → xs_T → Prop) (h : v_X10_hang x1 x2 S K) : Met l yX10_hang (wq yX10_hang cX10_hang 3 (some .int)) { frames := 1, cells := 0, slots := 0, locals := 23 } (xPc Z et S [.ref (et (0)), .int (x1), .int (x2)]) (xQi Z et S.2.2.2.2 K) 0 0 (fun q => Z.2.2.1 ≤ q) := by
  refine Met.ofW (cc := cX10_hang) (maxL := 3) (ret := (some .int)) (by decide +kernel) rfl ?_
  intro p e s m args below meth c s₁ B hml hv0
  obtain ⟨rfl, hk, hw⟩ := hv0
  have X : CallFix p m c cX10_hang 3 s _ (wq yX10_hang cX10_hang 3 (some .int)) RX10 := ⟨B.exec, B.bytes, hml, findClass_of_methodNamed B.named, atoms_spec (ws := (wq yX10_hang cX10_hang 3 (some .int))) B.pre⟩
  have hr := B.returns
  have hlocks := B.notSynchronized
  have hl : xl Z [] := fun _ h => by cases h
  have hNN : S.2.2.2.2 = S.2.2.2.2 := rfl
  have hv := lv_entry [.ref (et (0)), .int (x1), .int (x2)] (n := 3) (Nat.le_of_ble_eq_true rfl)
  rw [lg_entry_eq]
  generalize (lg_sl [.ref (et (0)), .int (x1), .int (x2)] ++ List.replicate (3 - (lg_sl [.ref (et (0)), .int (x1), .int (x2)]).length) Slot.unset).toArray = ls at hv ⊢
  replace hv : lv_has ls 3 [(0, .ref (et (0))), (1, .int (x1)), (2, .int (x2))] := hv
  unfold v_X10_hang at h
  refine lv_iload_n X.1 X.2.1 dX10_hang_0 rfl (lv_at hv 2 rfl) ?_
  refine lv_iconst (v := 1) X.1 X.2.1 dX10_hang_1 (by decide) ?_
  refine lv_icmp_le (tgt := 17) X.1 X.2.1 dX10_hang_2 (by decide) (fun c_1 => ?_) (fun c_1 => ?_)
  · skip
    replace h := h.1 c_1
    exact j_X10_hang_17 X hk hr hlocks (x1) (x2) S _ _ _ h hNN hw hl (lv_sub hv [0, 1, 2] rfl)
  · skip
    replace h := h.2 c_1
    refine lv_aload_n X.1 X.2.1 dX10_hang_5 rfl (lv_at hv 0 rfl) ?_
    refine xw_get X hk hw (i := 0) 6 xe_0 rfl tlX10 (by decide) rfl tw_525 dX10_hang_6 ?_
    refine lv_sipush (v := 400) X.1 X.2.1 dX10_hang_9 (by decide) ?_
    refine lv_icmp_ne (tgt := 17) X.1 X.2.1 dX10_hang_12 (by decide) (fun c_2 => ?_) (fun c_2 => ?_)
    · skip
      replace h := h.1 c_2
      exact j_X10_hang_17 X hk hr hlocks (x1) (x2) S _ _ _ h hNN hw hl (lv_sub hv [0, 1, 2] rfl)
    · skip
      replace h := h.2 c_2
      refine lv_iconst (v := 4) X.1 X.2.1 dX10_hang_15 (by decide) ?_
      exact xt_i X hr hlocks hNN hw hl h dX10_hang_16
def v_X10_rowOn (x1 : Int32) (S : xs_T) (K : Int32 → xs_T → Prop) : Prop := ∃ j_1 : Nat, x1 = nI j_1 ∧ j_1 < 10 ∧ ((¬ (xI S 9 j_1) = 1 → K ((-1)) S) ∧ ((xI S 9 j_1) = 1 → ∃ j_5 : Nat, x1 = nI j_5 ∧ j_5 < 10 ∧ K ((xI S 10 j_5)) S))
set_option maxHeartbeats 4000000 in
set_option maxRecDepth 100000 in
theorem c_X10_rowOn (l : Launch) (Z : xz_T) (et : Nat → Nat) (S : xs_T) (x1 : Int32) (K : Int32 → xs_T → Prop) (h : v_X10_rowOn x1 S K) : Met l yX10_rowOn (wq yX10_rowOn cX10_rowOn 2 (some .int)) { frames := 0, cells := 0, slots := 0, locals := 0 } (xPc Z et S [.ref (et (0)), .int (x1)]) (xQi Z et S.2.2.2.2 K) 0 0 (fun q => Z.2.2.1 ≤ q) := by
  refine Met.ofW (cc := cX10_rowOn) (maxL := 2) (ret := (some .int)) (by decide +kernel) rfl ?_
  intro p e s m args below meth c s₁ B hml hv0
  obtain ⟨rfl, hk, hw⟩ := hv0
  have X : CallFix p m c cX10_rowOn 2 s _ (wq yX10_rowOn cX10_rowOn 2 (some .int)) RX10 := ⟨B.exec, B.bytes, hml, findClass_of_methodNamed B.named, atoms_spec (ws := (wq yX10_rowOn cX10_rowOn 2 (some .int))) B.pre⟩
  have hr := B.returns
  have hlocks := B.notSynchronized
  have hl : xl Z [] := fun _ h => by cases h
  have hNN : S.2.2.2.2 = S.2.2.2.2 := rfl
  have hv := lv_entry [.ref (et (0)), .int (x1)] (n := 2) (Nat.le_of_ble_eq_true rfl)
  rw [lg_entry_eq]
  generalize (lg_sl [.ref (et (0)), .int (x1)] ++ List.replicate (2 - (lg_sl [.ref (et (0)), .int (x1)]).length) Slot.unset).toArray = ls at hv ⊢
  replace hv : lv_has ls 2 [(0, .ref (et (0))), (1, .int (x1))] := hv
  unfold v_X10_rowOn at h
  refine lv_aload_n X.1 X.2.1 dX10_rowOn_0 rfl (lv_at hv 0 rfl) ?_
  refine xw_get X hk hw (i := 0) 9 xe_0 rfl tlX10 (by decide) rfl tw_528 dX10_rowOn_1 ?_
  refine lv_iload_n X.1 X.2.1 dX10_rowOn_4 rfl (lv_at hv 1 rfl) ?_
  obtain ⟨j_1, e_2, b_3, h⟩ := h
  refine xw_ild X hk hw xe_9 e_2 b_3 (by decide) dX10_rowOn_5 ?_
  refine lv_iconst (v := 1) X.1 X.2.1 dX10_rowOn_6 (by decide) ?_
  refine lv_icmp_ne (tgt := 19) X.1 X.2.1 dX10_rowOn_7 (by decide) (fun c_4 => ?_) (fun c_4 => ?_)
  · skip
    replace h := h.1 c_4
    refine lv_iconst (v := (-1)) X.1 X.2.1 dX10_rowOn_19 (by decide) ?_
    exact xt_i X hr hlocks hNN hw hl h dX10_rowOn_20
  · skip
    replace h := h.2 c_4
    refine lv_aload_n X.1 X.2.1 dX10_rowOn_10 rfl (lv_at hv 0 rfl) ?_
    refine xw_get X hk hw (i := 0) 10 xe_0 rfl tlX10 (by decide) rfl tw_529 dX10_rowOn_11 ?_
    refine lv_iload_n X.1 X.2.1 dX10_rowOn_14 rfl (lv_at hv 1 rfl) ?_
    obtain ⟨j_5, e_6, b_7, h⟩ := h
    refine xw_ild X hk hw xe_10 e_6 b_7 (by decide) dX10_rowOn_15 ?_
    refine lv_goto (tgt := 20) X.1 X.2.1 dX10_rowOn_16 (by decide) ?_
    exact xt_i X hr hlocks hNN hw hl h dX10_rowOn_20
def v_X10_lift (x1 : Int32) (x2 : Int32) (S : xs_T) (K : Int32 → xs_T → Prop) : Prop := ∃ j_1 : Nat, x1 = nI j_1 ∧ j_1 < 10 ∧ ((¬ (xI S 9 j_1) = 0 → v_X10_rowOn (x1) S (fun (r_6 : Int32) (S_5 : xs_T) => ((r_6 < 0 → K (2) S_5) ∧ (¬ r_6 < 0 → ∃ j_8 : Nat, r_6 = nI j_8 ∧ j_8 < 120 ∧ ((8 ≤ (xI S_5 1 j_8) → ∃ j_12 : Nat, x1 = nI j_12 ∧ j_12 < 10 ∧ ∃ j_15 : Nat, r_6 = nI j_15 ∧ j_15 < 120 ∧ v_X10_in ((xI S_5 11 j_12)) (0) (((xI S_5 2 j_15) - 1)) S_5 (fun (r_19 : Int32) (S_18 : xs_T) => ((¬ r_19 = 0 → ∃ j_21 : Nat, r_6 = nI j_21 ∧ j_21 < 120 ∧ ∃ j_24 : Nat, x1 = nI j_24 ∧ j_24 < 10 ∧ ∃ j_27 : Nat, ((xI S_18 3 j_21) + (xI S_18 11 j_24)) = nI j_27 ∧ j_27 < 3000 ∧ ((¬ ((xL S_18 5 j_27)).toInt32 = 0 → v_X10_hold (x2) (3) (((xL S_18 5 j_27)).toInt32) S_18 (fun (S_31 : xs_T) => K (0) S_31)) ∧ (((xL S_18 5 j_27)).toInt32 = 0 → v_X10_hold (x2) (0) (((xL S_18 5 j_27)).toInt32) S_18 (fun (S_33 : xs_T) => K (0) S_33)))) ∧ (r_19 = 0 → K (3) S_18)))) ∧ (¬ 8 ≤ (xI S_5 1 j_8) → K (2) S_5)))))) ∧ ((xI S 9 j_1) = 0 → K (1) S))
set_option maxHeartbeats 4000000 in
set_option maxRecDepth 100000 in
theorem c_X10_lift (l : Launch) (Z : xz_T) (et : Nat → Nat) (S : xs_T) (x1 : Int32) (x2 : Int32) (K : Int32 → xs_T → Prop) (h : v_X10_lift x1 x2 S K) : Met l yX10_lift (wq yX10_lift cX10_lift 5 (some .int)) { frames := 1, cells := 0, slots := 0, locals := 23 } (xPc Z et S [.ref (et (0)), .int (x1), .int (x2)]) (xQi Z et S.2.2.2.2 K) 0 0 (fun q => Z.2.2.1 ≤ q) := by
  refine Met.ofW (cc := cX10_lift) (maxL := 5) (ret := (some .int)) (by decide +kernel) rfl ?_
  intro p e s m args below meth c s₁ B hml hv0
  obtain ⟨rfl, hk, hw⟩ := hv0
  have X : CallFix p m c cX10_lift 5 s _ (wq yX10_lift cX10_lift 5 (some .int)) RX10 := ⟨B.exec, B.bytes, hml, findClass_of_methodNamed B.named, atoms_spec (ws := (wq yX10_lift cX10_lift 5 (some .int))) B.pre⟩
  have hr := B.returns
  have hlocks := B.notSynchronized
  have hl : xl Z [] := fun _ h => by cases h
  have hNN : S.2.2.2.2 = S.2.2.2.2 := rfl
  have hv := lv_entry [.ref (et (0)), .int (x1), .int (x2)] (n := 5) (Nat.le_of_ble_eq_true rfl)
  rw [lg_entry_eq]
  generalize (lg_sl [.ref (et (0)), .int (x1), .int (x2)] ++ List.replicate (5 - (lg_sl [.ref (et (0)), .int (x1), .int (x2)]).length) Slot.unset).toArray = ls at hv ⊢
  replace hv : lv_has ls 5 [(0, .ref (et (0))), (1, .int (x1)), (2, .int (x2))] := hv
  unfold v_X10_lift at h
  refine lv_aload_n X.1 X.2.1 dX10_lift_0 rfl (lv_at hv 0 rfl) ?_
  refine xw_get X hk hw (i := 0) 9 xe_0 rfl tlX10 (by decide) rfl tw_528 dX10_lift_1 ?_
  refine lv_iload_n X.1 X.2.1 dX10_lift_4 rfl (lv_at hv 1 rfl) ?_
  obtain ⟨j_1, e_2, b_3, h⟩ := h
  refine xw_ild X hk hw xe_9 e_2 b_3 (by decide) dX10_lift_5 ?_
  refine lv_if_ne (tgt := 11) X.1 X.2.1 dX10_lift_6 (by decide) (fun c_4 => ?_) (fun c_4 => ?_)
  · skip
    replace h := h.1 c_4
    refine lv_aload_n X.1 X.2.1 dX10_lift_11 rfl (lv_at hv 0 rfl) ?_
    refine lv_iload_n X.1 X.2.1 dX10_lift_12 rfl (lv_at hv 1 rfl) ?_
    refine xc_i (xr_V (n := 1) (As := [.int (x1)]) (i := 0) X hk hw hv.1 (c_X10_rowOn l Z et S (x1) _ h) (tb_V tw_629 tw_626 tw_628 tw_18 tw_44) xe_0 rfl rfl rfl rfl (by decide +kernel) ⟨Nat.le_of_ble_eq_true rfl, Nat.le_of_ble_eq_true rfl⟩ rfl (Nat.le_of_ble_eq_true rfl) dX10_lift_13 ⟨Nat.le_of_ble_eq_true rfl, Nat.le_of_ble_eq_true rfl⟩) hl (fun r_6 S_5 H locs h hN hw hl => ?_)
    replace hNN := hN.trans hNN
    refine lv_istore_n (lv' := [(3, .int (r_6)), (0, .ref (et (0))), (1, .int (x1)), (2, .int (x2))]) X.1 X.2.1 dX10_lift_16 rfl hv (by decide) rfl (fun ls hv => ?_)
    refine lv_iload_n X.1 X.2.1 dX10_lift_17 rfl (lv_at hv 0 rfl) ?_
    refine lv_if_lt (tgt := 32) X.1 X.2.1 dX10_lift_18 (by decide) (fun c_7 => ?_) (fun c_7 => ?_)
    · skip
      replace h := h.1 c_7
      refine lv_iconst (v := 2) X.1 X.2.1 dX10_lift_32 (by decide) ?_
      exact xt_i X hr hlocks hNN hw hl h dX10_lift_33
    · skip
      replace h := h.2 c_7
      refine lv_aload_n X.1 X.2.1 dX10_lift_21 rfl (lv_at hv 1 rfl) ?_
      refine xw_get X hk hw (i := 0) 1 xe_0 rfl tlX10 (by decide) rfl tw_520 dX10_lift_22 ?_
      refine lv_iload_n X.1 X.2.1 dX10_lift_25 rfl (lv_at hv 0 rfl) ?_
      obtain ⟨j_8, e_9, b_10, h⟩ := h
      refine xw_ild X hk hw xe_1 e_9 b_10 (by decide) dX10_lift_26 ?_
      refine lv_bipush (v := 8) X.1 X.2.1 dX10_lift_27 (by decide) ?_
      refine lv_icmp_ge (tgt := 34) X.1 X.2.1 dX10_lift_29 (by decide) (fun c_11 => ?_) (fun c_11 => ?_)
      · skip
        replace h := h.1 c_11
        refine lv_aload_n X.1 X.2.1 dX10_lift_34 rfl (lv_at hv 1 rfl) ?_
        refine xw_get X hk hw (i := 0) 11 xe_0 rfl tlX10 (by decide) rfl tw_530 dX10_lift_35 ?_
        refine lv_iload_n X.1 X.2.1 dX10_lift_38 rfl (lv_at hv 2 rfl) ?_
        obtain ⟨j_12, e_13, b_14, h⟩ := h
        refine xw_ild X hk hw xe_11 e_13 b_14 (by decide) dX10_lift_39 ?_
        refine lv_iconst (v := 0) X.1 X.2.1 dX10_lift_40 (by decide) ?_
        refine lv_aload_n X.1 X.2.1 dX10_lift_41 rfl (lv_at hv 1 rfl) ?_
        refine xw_get X hk hw (i := 0) 2 xe_0 rfl tlX10 (by decide) rfl tw_521 dX10_lift_42 ?_
        refine lv_iload_n X.1 X.2.1 dX10_lift_45 rfl (lv_at hv 0 rfl) ?_
        obtain ⟨j_15, e_16, b_17, h⟩ := h
        refine xw_ild X hk hw xe_2 e_16 b_17 (by decide) dX10_lift_46 ?_
        refine lv_iconst (v := 1) X.1 X.2.1 dX10_lift_47 (by decide) ?_
        refine lv_isub X.1 X.2.1 dX10_lift_48 ?_
        refine xc_i (xr_S (n := 3) X hk hw hv.1 (c_X10_in l Z et S_5 ((xI S_5 11 j_12)) (0) (((xI S_5 2 j_15) - 1)) _ h) (tb_S tw_613 tw_611 tw_612 tw_44) rfl rfl (by decide +kernel) ⟨Nat.le_of_ble_eq_true rfl, Nat.le_of_ble_eq_true rfl⟩ rfl (Nat.le_of_ble_eq_true rfl) dX10_lift_49 ⟨Nat.le_of_ble_eq_true rfl, Nat.le_of_ble_eq_true rfl⟩) hl (fun r_19 S_18 H locs h hN hw hl => ?_)
        replace hNN := hN.trans hNN
        refine lv_if_ne (tgt := 57) X.1 X.2.1 dX10_lift_52 (by decide) (fun c_20 => ?_) (fun c_20 => ?_)
        · skip
          replace h := h.1 c_20
          refine lv_aload_n X.1 X.2.1 dX10_lift_57 rfl (lv_at hv 1 rfl) ?_
          refine xw_get X hk hw (i := 0) 5 xe_0 rfl tlX10 (by decide) rfl tw_524 dX10_lift_58 ?_
          refine lv_aload_n X.1 X.2.1 dX10_lift_61 rfl (lv_at hv 1 rfl) ?_
          refine xw_get X hk hw (i := 0) 3 xe_0 rfl tlX10 (by decide) rfl tw_522 dX10_lift_62 ?_
          refine lv_iload_n X.1 X.2.1 dX10_lift_65 rfl (lv_at hv 0 rfl) ?_
          obtain ⟨j_21, e_22, b_23, h⟩ := h
          refine xw_ild X hk hw xe_3 e_22 b_23 (by decide) dX10_lift_66 ?_
          refine lv_aload_n X.1 X.2.1 dX10_lift_67 rfl (lv_at hv 1 rfl) ?_
          refine xw_get X hk hw (i := 0) 11 xe_0 rfl tlX10 (by decide) rfl tw_530 dX10_lift_68 ?_
          refine lv_iload_n X.1 X.2.1 dX10_lift_71 rfl (lv_at hv 2 rfl) ?_
          obtain ⟨j_24, e_25, b_26, h⟩ := h
          refine xw_ild X hk hw xe_11 e_25 b_26 (by decide) dX10_lift_72 ?_
          refine lv_iadd X.1 X.2.1 dX10_lift_73 ?_
          obtain ⟨j_27, e_28, b_29, h⟩ := h
          refine xw_lld X hk hw xe_5 e_28 b_29 (by decide) dX10_lift_74 ?_
          refine lv_l2i (v := ((xL S_18 5 j_27)).toInt32) X.1 X.2.1 dX10_lift_75 rfl ?_
          refine lv_istore (lv' := [(4, .int (((xL S_18 5 j_27)).toInt32)), (3, .int (r_6)), (0, .ref (et (0))), (1, .int (x1)), (2, .int (x2))]) X.1 X.2.1 dX10_lift_76 hv (by decide) rfl (fun ls hv => ?_)
          refine lv_aload_n X.1 X.2.1 dX10_lift_78 rfl (lv_at hv 2 rfl) ?_
          refine lv_iload_n X.1 X.2.1 dX10_lift_79 rfl (lv_at hv 4 rfl) ?_
          refine lv_iload X.1 X.2.1 dX10_lift_80 (lv_at hv 0 rfl) ?_
          refine lv_if_ne (tgt := 89) X.1 X.2.1 dX10_lift_82 (by decide) (fun c_30 => ?_) (fun c_30 => ?_)
          · skip
            replace h := h.1 c_30
            refine lv_iconst (v := 3) X.1 X.2.1 dX10_lift_89 (by decide) ?_
            refine lv_iload X.1 X.2.1 dX10_lift_90 (lv_at hv 0 rfl) ?_
            refine xc_v (xr_V (n := 3) (As := [.int (x2), .int (3), .int (((xL S_18 5 j_27)).toInt32)]) (i := 0) X hk hw hv.1 (c_X10_hold l Z et S_18 (x2) (3) (((xL S_18 5 j_27)).toInt32) _ h) (tb_V tw_665 tw_662 tw_664 tw_27 tw_44) xe_0 rfl rfl rfl rfl (by decide +kernel) ⟨Nat.le_of_ble_eq_true rfl, Nat.le_of_ble_eq_true rfl⟩ rfl (Nat.le_of_ble_eq_true rfl) dX10_lift_92 ⟨Nat.le_of_ble_eq_true rfl, Nat.le_of_ble_eq_true rfl⟩) hl (fun S_31 H locs h hN hw hl => ?_)
            replace hNN := hN.trans hNN
            refine lv_iconst (v := 0) X.1 X.2.1 dX10_lift_95 (by decide) ?_
            exact xt_i X hr hlocks hNN hw hl h dX10_lift_96
          · skip
            replace h := h.2 c_30
            refine lv_iconst (v := 0) X.1 X.2.1 dX10_lift_85 (by decide) ?_
            refine lv_goto (tgt := 90) X.1 X.2.1 dX10_lift_86 (by decide) ?_
            refine lv_iload X.1 X.2.1 dX10_lift_90 (lv_at hv 0 rfl) ?_
            refine xc_v (xr_V (n := 3) (As := [.int (x2), .int (0), .int (((xL S_18 5 j_27)).toInt32)]) (i := 0) X hk hw hv.1 (c_X10_hold l Z et S_18 (x2) (0) (((xL S_18 5 j_27)).toInt32) _ h) (tb_V tw_665 tw_662 tw_664 tw_27 tw_44) xe_0 rfl rfl rfl rfl (by decide +kernel) ⟨Nat.le_of_ble_eq_true rfl, Nat.le_of_ble_eq_true rfl⟩ rfl (Nat.le_of_ble_eq_true rfl) dX10_lift_92 ⟨Nat.le_of_ble_eq_true rfl, Nat.le_of_ble_eq_true rfl⟩) hl (fun S_33 H locs h hN hw hl => ?_)
            replace hNN := hN.trans hNN
            refine lv_iconst (v := 0) X.1 X.2.1 dX10_lift_95 (by decide) ?_
            exact xt_i X hr hlocks hNN hw hl h dX10_lift_96
        · skip
          replace h := h.2 c_20
          refine lv_iconst (v := 3) X.1 X.2.1 dX10_lift_55 (by decide) ?_
          exact xt_i X hr hlocks hNN hw hl h dX10_lift_56
      · skip
        replace h := h.2 c_11
        refine lv_iconst (v := 2) X.1 X.2.1 dX10_lift_32 (by decide) ?_
        exact xt_i X hr hlocks hNN hw hl h dX10_lift_33
  · skip
    replace h := h.2 c_4
    refine lv_iconst (v := 1) X.1 X.2.1 dX10_lift_9 (by decide) ?_
    exact xt_i X hr hlocks hNN hw hl h dX10_lift_10
