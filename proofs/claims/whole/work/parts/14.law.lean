/-! THE CLAIM OUT OF ONE WALK OF THE LAW'S BODY. Your part is whole_start (and what it stands on); all else here is the same for every law, but numbers. -/
def R_law : String := "PinBarrelsLaw"
def lw_P (b : Addr) (xs : List Int32) (args : Array Value) (s : State) : Prop := args = #[.ref b] ∧ s.IntsAt b xs ∧ xs.length ≤ 2560 ∧ (Jvm.Cond.and given_1 narrow_1).before args s = true
def lw_Q (_ : Array Value) (s : State) (o : Outcome) (t : State) : Prop := o = .returned (some (.int 1)) ∧ Framed s o t [] 603733 7291048
def lw_Z (below : List Frame) (a : Array Value) (s : State) : State → Prop := fun t => ∃ o, t.status = .running ∧ Ended t below o ∧ lw_Q a s o t
/-- the law's own end, with 1 on the stack, nothing written that was there before, its room as the claim has it -/
theorem lw_ret {p : Program} {l : Launch} {e : Env} {s : State} {m : MethodId} {below : List Frame} {meth : Method} {c : Code} {b : Nat} (hx : p.tables.exec = Jvm.exec) (hb : c.code = code) (hr : meth.sig.returnType = ret) (hlocks : meth.locks = false) {pc : Nat} {H : Heap} {ls : Array Slot} (hdg : decode code pc = .ok (.ireturn, 1)) : W p l e room_1 s m #[Value.ref b] below meth c H [] 603733 7291048 (lw_Z below #[Value.ref b] s) (F0 m pc ls [.int 1]) := by
  intro T hT X
  obtain ⟨fs, hret, hrun, hended, hW, hframe⟩ := X.leave (v := some (.int 1)) (hlocks := hlocks) (fun h => by rw [hr] at h; cases h)
  have hmeth' : T.vm.method? m = some meth := X.method'
  refine ⟨T.setFrames fs, ?_, .returned (some (.int 1)), hrun, hended, rfl, ⟨_, rfl⟩, hW, hframe⟩
  jvm_step X.here [X.here.top, hx, hb, hdg, hmeth', hr, ret, narrow_b1]
  (try refine ⟨rfl, ?_⟩); (try refine ⟨rfl, ?_⟩)
  first | (intro acts; rw [hret _ acts rfl rfl rfl]) | rw [hret _ _ rfl rfl rfl]
  exact Steps.refl _
/-- what holds at the law's entry: the machine, the code, the tables' words (any of lw_tbl by 'hts w (by decide +kernel)'), the script of L ints xs at the cell b, what the Statement gives of the start (any of its parts by flat_of_before) -/
def lw_At (p : Program) (s : State) (m : MethodId) (meth : Method) (c : Code) (b L : Nat) (xs : Nat → Int32) : Prop :=
  p.tables.exec = Jvm.exec ∧ c.code = code ∧ meth.sig.returnType = ret ∧ c.maxLocals = 4 ∧ s.vm.findClass R_law = some m.cls ∧ (∀ w ∈ lw_tbl, w.before #[Value.ref b] s = true) ∧ va_X b L xs s s.heap ∧ b < s.heap.size ∧ meth.locks = false ∧ (Jvm.Cond.and given_1 narrow_1).before #[Value.ref b] s = true
/-- the script -/
theorem xs_ld {p : Program} {l : Launch} {e : Env} {R : Room} {s : State} {m : MethodId} {args : Array Value} {below : List Frame} {meth : Method} {c : Code} {H : Heap} {locs : List Loc} {cells slots : Nat} {Q : State → Prop} {cc : ByteArray} {pc nL : Nat} {ls : Array Slot} {rest : List Value} {Z : xz_T} {et : Nat → Nat} {S : xs_T} {c0 : Cond} {own : String} (X : CallFix p m c cc nL s args (c0 :: TB) own) {b L : Nat} {xs : Nat → Int32} (hX : va_X b L xs s s.heap) (hbl : b < s.heap.size) (hz1 : Z.2.2.1 = s.heap.size) (hz2 : Z.2.2.2 = s.heap) (hw : wd Z et S H) {x : Int32} {j : Nat} (hx : x = nI j) (hj : j < L) (hL : L ≤ 2560) (hdg : decode cc pc = .ok (.iaload, 1))
    (kk : W p l e R s m args below meth c H locs cells slots Q (F0 m (pc + 1) ls (.int (xs j) :: rest))) : W p l e R s m args below meth c H locs cells slots Q (F0 m pc ls (.int x :: .ref b :: rest)) := by
  subst hx
  obtain ⟨scr, h1, h2, h3, h4, h5⟩ := hX
  have hc : (nI j).toNatClampNeg = j := nI_clamp (by omega)
  have hb := hw.2.2.2 b (by rw [hz1]; exact hbl)
  rw [hz2] at hb
  exact W.iald (v := .int (xs j)) X.1 X.2.1 (by rw [hb]; exact h1) h2 h3 (by rw [h4]; exact vp_in_nI hj (by omega)) (by rw [hc]; exact h5 _ hj) rfl rfl hdg kk
theorem xs_len {p : Program} {l : Launch} {e : Env} {R : Room} {s : State} {m : MethodId} {args : Array Value} {below : List Frame} {meth : Method} {c : Code} {H : Heap} {locs : List Loc} {cells slots : Nat} {Q : State → Prop} {cc : ByteArray} {pc nL : Nat} {ls : Array Slot} {rest : List Value} {Z : xz_T} {et : Nat → Nat} {S : xs_T} {c0 : Cond} {own : String} (X : CallFix p m c cc nL s args (c0 :: TB) own) {b L : Nat} {xs : Nat → Int32} (hX : va_X b L xs s s.heap) (hbl : b < s.heap.size) (hz1 : Z.2.2.1 = s.heap.size) (hz2 : Z.2.2.2 = s.heap) (hw : wd Z et S H) (hdg : decode cc pc = .ok (.arraylength, 1))
    (kk : W p l e R s m args below meth c H locs cells slots Q (F0 m (pc + 1) ls (.int (nI L) :: rest))) : W p l e R s m args below meth c H locs cells slots Q (F0 m pc ls (.ref b :: rest)) := by
  obtain ⟨scr, h1, h2, h3, h4, h5⟩ := hX
  have hb := hw.2.2.2 b (by rw [hz1]; exact hbl)
  rw [hz2] at hb
  exact W.alen (n := nI L) X.1 X.2.1 (by rw [hb]; exact h1) h2 (by rw [h4]; rfl) rfl rfl hdg kk
def v_law (L : Nat) (xs : Nat → Int32) : Nat → Nat → Int32 → xs_T → Prop
  | 0, _, _, _ => False
  | n + 1, k9, a3, S => ((((nI L) - 5) < a3 → True) ∧ (¬ ((nI L) - 5) < a3 → ∃ j_2 : Nat, a3 = nI j_2 ∧ j_2 < L ∧ (((((xs j_2) &&& 15) = 0) → ∃ j_5 : Nat, (a3 + 1) = nI j_5 ∧ j_5 < L ∧ ∃ j_8 : Nat, (a3 + 2) = nI j_8 ∧ j_8 < L ∧ ∃ j_11 : Nat, (a3 + 3) = nI j_11 ∧ j_11 < L ∧ ∃ j_14 : Nat, (a3 + 4) = nI j_14 ∧ j_14 < L ∧ v_X9_order ((xs j_5)) ((xs j_8)) ((xs j_11)) ((xs j_14)) S (fun (r_18 : Int32) (S_17 : xs_T) => ∃ j_19 : Nat, (a3 + 1) = nI j_19 ∧ j_19 < L ∧ ∃ j_22 : Nat, (a3 + 2) = nI j_22 ∧ j_22 < L ∧ ∃ j_25 : Nat, (a3 + 3) = nI j_25 ∧ j_25 < L ∧ ∃ j_28 : Nat, (a3 + 4) = nI j_28 ∧ j_28 < L ∧ v_X10_order ((xs j_19)) ((xs j_22)) ((xs j_25)) ((xs j_28)) S_17 (fun (r_32 : Int32) (S_31 : xs_T) => ((r_18 = r_32 → v_law L xs n (k9) ((a3 + 5)) S_31) ∧ (¬ r_18 = r_32 → False))))) ∧ ((((xs j_2) &&& 15) = 1) → ∃ j_34 : Nat, (a3 + 1) = nI j_34 ∧ j_34 < L ∧ v_X9_cut ((xs j_34)) S (fun (r_38 : Int32) (S_37 : xs_T) => ∃ j_39 : Nat, (a3 + 1) = nI j_39 ∧ j_39 < L ∧ v_X10_cut ((xs j_39)) S_37 (fun (r_43 : Int32) (S_42 : xs_T) => ((r_38 = r_43 → v_law L xs n (k9) ((a3 + 5)) S_42) ∧ (¬ r_38 = r_43 → False))))) ∧ ((((xs j_2) &&& 15) = 2) → ∃ j_45 : Nat, (a3 + 1) = nI j_45 ∧ j_45 < L ∧ ∃ j_48 : Nat, (a3 + 2) = nI j_48 ∧ j_48 < L ∧ ∃ j_51 : Nat, (a3 + 3) = nI j_51 ∧ j_51 < L ∧ ∃ j_54 : Nat, (a3 + 4) = nI j_54 ∧ j_54 < L ∧ k9 + 1 ≤ 100000 ∧ v_X9_act ((xs j_45)) ((xs j_48)) ((xs j_51)) ((xs j_54)) S (fun (r_59 : Int32) (S_58 : xs_T) => ∃ j_62 : Nat, (a3 + 1) = nI j_62 ∧ j_62 < L ∧ ∃ j_65 : Nat, (a3 + 2) = nI j_65 ∧ j_65 < L ∧ ∃ j_68 : Nat, (a3 + 3) = nI j_68 ∧ j_68 < L ∧ ∃ j_71 : Nat, (a3 + 4) = nI j_71 ∧ j_71 < L ∧ v_X10_act ((xs j_62)) ((xs j_65)) ((xs j_68)) ((xs j_71)) S_58 (fun (r_75 : Int32) (S_74 : xs_T) => ((r_59 = r_75 → v_law L xs n ((k9 + 1)) ((a3 + 5)) S_74) ∧ (¬ r_59 = r_75 → False))))) ∧ ((((xs j_2) &&& 15) = 3) → ∃ j_77 : Nat, (a3 + 1) = nI j_77 ∧ j_77 < L ∧ ∃ nu_80 : Nat, k9 + nu_80 ≤ 100000 ∧ v_X9_run nu_80 ((xs j_77)) S (fun (r_83 : Int32) (S_82 : xs_T) => ∃ j_86 : Nat, (a3 + 1) = nI j_86 ∧ j_86 < L ∧ v_X10_run ((xs j_86)) S_82 (fun (r_90 : Int32) (S_89 : xs_T) => ((r_83 = r_90 → v_law L xs n ((k9 + nu_80)) ((a3 + 5)) S_89) ∧ (¬ r_83 = r_90 → False))))) ∧ ((((xs j_2) &&& 15) = 4) → v_X9_back  S (fun (r_93 : Int32) (S_92 : xs_T) => v_X10_back  S_92 (fun (r_95 : Int32) (S_94 : xs_T) => ((r_93 = r_95 → v_law L xs n (k9) ((a3 + 5)) S_94) ∧ (¬ r_93 = r_95 → False))))) ∧ ((((xs j_2) &&& 15) = 5) → ∃ j_97 : Nat, (a3 + 1) = nI j_97 ∧ j_97 < L ∧ ∃ j_100 : Nat, (a3 + 2) = nI j_100 ∧ j_100 < L ∧ v_X9_look ((xs j_97)) ((xs j_100)) S (fun (r_104 : Int32) (S_103 : xs_T) => ∃ j_105 : Nat, (a3 + 1) = nI j_105 ∧ j_105 < L ∧ ∃ j_108 : Nat, (a3 + 2) = nI j_108 ∧ j_108 < L ∧ v_X10_look ((xs j_105)) ((xs j_108)) S_103 (fun (r_112 : Int32) (S_111 : xs_T) => ((r_104 = r_112 → v_law L xs n (k9) ((a3 + 5)) S_111) ∧ (¬ r_104 = r_112 → False))))) ∧ ((((xs j_2) &&& 15) = 6) → ∃ j_114 : Nat, (a3 + 1) = nI j_114 ∧ j_114 < L ∧ ∃ j_117 : Nat, (a3 + 2) = nI j_117 ∧ j_117 < L ∧ v_X9_cell ((xs j_114)) ((xs j_117)) S (fun (r_121 : Int64) (S_120 : xs_T) => ∃ j_122 : Nat, (a3 + 1) = nI j_122 ∧ j_122 < L ∧ ∃ j_125 : Nat, (a3 + 2) = nI j_125 ∧ j_125 < L ∧ v_X10_cell ((xs j_122)) ((xs j_125)) S_120 (fun (r_129 : Int64) (S_128 : xs_T) => ((r_121 = r_129 → v_law L xs n (k9) ((a3 + 5)) S_128) ∧ (¬ r_121 = r_129 → False))))) ∧ ((((xs j_2) &&& 15) = 7) → ∃ j_131 : Nat, (a3 + 1) = nI j_131 ∧ j_131 < L ∧ v_X9_sort ((xs j_131)) S (fun (r_135 : Int32) (S_134 : xs_T) => ∃ j_136 : Nat, (a3 + 1) = nI j_136 ∧ j_136 < L ∧ v_X10_sort ((xs j_136)) S_134 (fun (r_140 : Int32) (S_139 : xs_T) => ((r_135 = r_140 → v_law L xs n (k9) ((a3 + 5)) S_139) ∧ (¬ r_135 = r_140 → False))))) ∧ ((((xs j_2) &&& 15) = 8) → ∃ j_142 : Nat, (a3 + 1) = nI j_142 ∧ j_142 < L ∧ v_X9_count ((xs j_142)) S (fun (r_146 : Int32) (S_145 : xs_T) => ∃ j_147 : Nat, (a3 + 1) = nI j_147 ∧ j_147 < L ∧ v_X10_count ((xs j_147)) S_145 (fun (r_151 : Int32) (S_150 : xs_T) => ((r_146 = r_151 → v_law L xs n (k9) ((a3 + 5)) S_150) ∧ (¬ r_146 = r_151 → False))))) ∧ (¬ ((xs j_2) &&& 15) = 0 → ¬ ((xs j_2) &&& 15) = 1 → ¬ ((xs j_2) &&& 15) = 2 → ¬ ((xs j_2) &&& 15) = 3 → ¬ ((xs j_2) &&& 15) = 4 → ¬ ((xs j_2) &&& 15) = 5 → ¬ ((xs j_2) &&& 15) = 6 → ¬ ((xs j_2) &&& 15) = 7 → ¬ ((xs j_2) &&& 15) = 8 → v_law L xs n (k9) ((a3 + 5)) S))))
set_option maxHeartbeats 4000000 in
set_option maxRecDepth 100000 in
theorem j_law {l : Launch} {p : Program} {e : Env} {s : State} {m : MethodId} {below : List Frame} {meth : Method} {c : Code} {Z : xz_T} {b L : Nat} {xs : Nat → Int32} {c0 : Cond} (X : CallFix p m c code 4 s #[Value.ref b] (c0 :: TB) RL) (hk : xk Z s) (hr : meth.sig.returnType = ret) (hlocks : meth.locks = false) (hX : va_X b L xs s s.heap) (hbl : b < s.heap.size) (hL : L ≤ 2560) (hz1 : Z.2.2.1 = s.heap.size) (hz2 : Z.2.2.2 = s.heap) : ∀ (n k9 : Nat) (a3 : Int32) (S : xs_T) (et : Nat → Nat) (H : Heap) (locs : List Loc) (ls : Array Slot), v_law L xs n k9 a3 S → xN S 5 = 0 → k9 ≤ 100000 → wd Z et S H → xl Z locs → lv_has ls 4 [(0, .ref b), (1, .ref (et 32)), (2, .ref (et 0)), (3, .int a3)] → W p l e room_1 s m #[Value.ref b] below meth c H locs (100 + 2 * k9) (10000 + 66 * k9) (lw_Z below #[Value.ref b] s) (F0 m 18 ls []) := by
  intro n
  induction n with
  | zero =>
    intro k9 a3 S et H locs ls h
    exact False.elim h
  | succ n ih =>
    intro k9 a3 S et H locs ls h h5 hku hw hl hv
    rw [v_law] at h
    refine lv_iload_n X.1 X.2.1 dL_law_18 rfl (lv_at hv 3 rfl) ?_
    refine lv_aload_n X.1 X.2.1 dL_law_19 rfl (lv_at hv 0 rfl) ?_
    refine xs_len X hX hbl hz1 hz2 hw dL_law_20 ?_
    refine lv_iconst (v := 5) X.1 X.2.1 dL_law_21 (by decide) ?_
    refine lv_isub X.1 X.2.1 dL_law_22 ?_
    refine lv_icmp_gt (tgt := 368) X.1 X.2.1 dL_law_23 (by decide) (fun c_1 => ?_) (fun c_1 => ?_)
    · skip
      replace h := h.1 c_1
      refine lv_iconst (v := 1) X.1 X.2.1 dL_law_368 (by decide) ?_
      refine va_forget (fun q hq => by have := hl q hq; omega) ?_
      refine W.widen (k := 603733) (n := 7291048) (by omega) (by omega) ?_
      exact lw_ret X.1 X.2.1 hr hlocks dL_law_369
    · skip
      replace h := h.2 c_1
      refine lv_aload_n X.1 X.2.1 dL_law_26 rfl (lv_at hv 0 rfl) ?_
      refine lv_iload_n X.1 X.2.1 dL_law_27 rfl (lv_at hv 3 rfl) ?_
      obtain ⟨j_2, e_3, b_4, h⟩ := h
      refine xs_ld X hX hbl hz1 hz2 hw e_3 b_4 hL dL_law_28 ?_
      refine lv_bipush (v := 15) X.1 X.2.1 dL_law_29 (by decide) ?_
      refine lv_iand X.1 X.2.1 dL_law_31 ?_
      have hsw := h
      by_cases k_0 : ((xs j_2) &&& 15) = 0
      · have h := hsw.1 k_0
        refine lv_tableIn (off := 52) (tgt := 84) X.1 X.2.1 dL_law_32 (by rw [k_0]; decide) (by rw [k_0]; decide) (by rw [k_0]; rfl) (by decide) ?_
        refine lv_aload_n X.1 X.2.1 dL_law_84 rfl (lv_at hv 1 rfl) ?_
        refine lv_aload_n X.1 X.2.1 dL_law_85 rfl (lv_at hv 0 rfl) ?_
        refine lv_iload_n X.1 X.2.1 dL_law_86 rfl (lv_at hv 3 rfl) ?_
        refine lv_iconst (v := 1) X.1 X.2.1 dL_law_87 (by decide) ?_
        refine lv_iadd X.1 X.2.1 dL_law_88 ?_
        obtain ⟨j_5, e_6, b_7, h⟩ := h
        refine xs_ld X hX hbl hz1 hz2 hw e_6 b_7 hL dL_law_89 ?_
        refine lv_aload_n X.1 X.2.1 dL_law_90 rfl (lv_at hv 0 rfl) ?_
        refine lv_iload_n X.1 X.2.1 dL_law_91 rfl (lv_at hv 3 rfl) ?_
        refine lv_iconst (v := 2) X.1 X.2.1 dL_law_92 (by decide) ?_
        refine lv_iadd X.1 X.2.1 dL_law_93 ?_
        obtain ⟨j_8, e_9, b_10, h⟩ := h
        refine xs_ld X hX hbl hz1 hz2 hw e_9 b_10 hL dL_law_94 ?_
        refine lv_aload_n X.1 X.2.1 dL_law_95 rfl (lv_at hv 0 rfl) ?_
        refine lv_iload_n X.1 X.2.1 dL_law_96 rfl (lv_at hv 3 rfl) ?_
        refine lv_iconst (v := 3) X.1 X.2.1 dL_law_97 (by decide) ?_
        refine lv_iadd X.1 X.2.1 dL_law_98 ?_
        obtain ⟨j_11, e_12, b_13, h⟩ := h
        refine xs_ld X hX hbl hz1 hz2 hw e_12 b_13 hL dL_law_99 ?_
        refine lv_aload_n X.1 X.2.1 dL_law_100 rfl (lv_at hv 0 rfl) ?_
        refine lv_iload_n X.1 X.2.1 dL_law_101 rfl (lv_at hv 3 rfl) ?_
        refine lv_iconst (v := 4) X.1 X.2.1 dL_law_102 (by decide) ?_
        refine lv_iadd X.1 X.2.1 dL_law_103 ?_
        obtain ⟨j_14, e_15, b_16, h⟩ := h
        refine xs_ld X hX hbl hz1 hz2 hw e_15 b_16 hL dL_law_104 ?_
        refine xc_i (xr_V (n := 4) (As := [.int ((xs j_5)), .int ((xs j_8)), .int ((xs j_11)), .int ((xs j_14))]) (i := 32) X hk hw hv.1 (c_X9_order l Z et S ((xs j_5)) ((xs j_8)) ((xs j_11)) ((xs j_14)) _ h) (tb_V tw_195 tw_192 tw_193 tw_194 tw_39) xe_32 rfl rfl rfl rfl (by decide +kernel) ⟨Nat.le_of_ble_eq_true rfl, Nat.le_of_ble_eq_true rfl⟩ rfl (Nat.le_of_ble_eq_true rfl) dL_law_105 ⟨by show 100 + 2 * k9 + 0 ≤ 603733; omega, by show 10000 + 66 * k9 + 0 ≤ 7291048; omega⟩) hl (fun r_18 S_17 H locs h hN hw hl => ?_)
        replace h5 := (congrFun hN 5).trans h5
        refine lv_aload_n X.1 X.2.1 dL_law_108 rfl (lv_at hv 2 rfl) ?_
        refine lv_aload_n X.1 X.2.1 dL_law_109 rfl (lv_at hv 0 rfl) ?_
        refine lv_iload_n X.1 X.2.1 dL_law_110 rfl (lv_at hv 3 rfl) ?_
        refine lv_iconst (v := 1) X.1 X.2.1 dL_law_111 (by decide) ?_
        refine lv_iadd X.1 X.2.1 dL_law_112 ?_
        obtain ⟨j_19, e_20, b_21, h⟩ := h
        refine xs_ld X hX hbl hz1 hz2 hw e_20 b_21 hL dL_law_113 ?_
        refine lv_aload_n X.1 X.2.1 dL_law_114 rfl (lv_at hv 0 rfl) ?_
        refine lv_iload_n X.1 X.2.1 dL_law_115 rfl (lv_at hv 3 rfl) ?_
        refine lv_iconst (v := 2) X.1 X.2.1 dL_law_116 (by decide) ?_
        refine lv_iadd X.1 X.2.1 dL_law_117 ?_
        obtain ⟨j_22, e_23, b_24, h⟩ := h
        refine xs_ld X hX hbl hz1 hz2 hw e_23 b_24 hL dL_law_118 ?_
        refine lv_aload_n X.1 X.2.1 dL_law_119 rfl (lv_at hv 0 rfl) ?_
        refine lv_iload_n X.1 X.2.1 dL_law_120 rfl (lv_at hv 3 rfl) ?_
        refine lv_iconst (v := 3) X.1 X.2.1 dL_law_121 (by decide) ?_
        refine lv_iadd X.1 X.2.1 dL_law_122 ?_
        obtain ⟨j_25, e_26, b_27, h⟩ := h
        refine xs_ld X hX hbl hz1 hz2 hw e_26 b_27 hL dL_law_123 ?_
        refine lv_aload_n X.1 X.2.1 dL_law_124 rfl (lv_at hv 0 rfl) ?_
        refine lv_iload_n X.1 X.2.1 dL_law_125 rfl (lv_at hv 3 rfl) ?_
        refine lv_iconst (v := 4) X.1 X.2.1 dL_law_126 (by decide) ?_
        refine lv_iadd X.1 X.2.1 dL_law_127 ?_
        obtain ⟨j_28, e_29, b_30, h⟩ := h
        refine xs_ld X hX hbl hz1 hz2 hw e_29 b_30 hL dL_law_128 ?_
        refine xc_i (xr_V (n := 4) (As := [.int ((xs j_19)), .int ((xs j_22)), .int ((xs j_25)), .int ((xs j_28))]) (i := 0) X hk hw hv.1 (c_X10_order l Z et S_17 ((xs j_19)) ((xs j_22)) ((xs j_25)) ((xs j_28)) _ h) (tb_V tw_607 tw_604 tw_605 tw_606 tw_44) xe_0 rfl rfl rfl rfl (by decide +kernel) ⟨Nat.le_of_ble_eq_true rfl, Nat.le_of_ble_eq_true rfl⟩ rfl (Nat.le_of_ble_eq_true rfl) dL_law_129 ⟨by show 100 + 2 * k9 + 0 ≤ 603733; omega, by show 10000 + 66 * k9 + 0 ≤ 7291048; omega⟩) hl (fun r_32 S_31 H locs h hN hw hl => ?_)
        replace h5 := (congrFun hN 5).trans h5
        refine lv_icmp_eq (tgt := 362) X.1 X.2.1 dL_law_132 (by decide) (fun c_33 => ?_) (fun c_33 => ?_)
        · skip
          replace h := h.1 c_33
          refine lv_iinc (v := (a3 + 5)) (lv' := [(3, .int ((a3 + 5))), (0, .ref b), (1, .ref (et (32))), (2, .ref (et (0)))]) X.1 X.2.1 dL_law_362 hv (k := 3) rfl rfl (by decide) rfl (fun ls hv => ?_)
          refine lv_goto (tgt := 18) X.1 X.2.1 dL_law_365 (by decide) ?_
          exact ih (k9) ((a3 + 5)) S_31 et _ _ _ h h5 hku hw hl (lv_sub hv [1, 2, 3, 0] rfl)
        · skip
          replace h := h.2 c_33
          refine lv_iconst (v := 0) X.1 X.2.1 dL_law_135 (by decide) ?_
          exact False.elim h
      by_cases k_1 : ((xs j_2) &&& 15) = 1
      · have h := hsw.2.1 k_1
        refine lv_tableIn (off := 105) (tgt := 137) X.1 X.2.1 dL_law_32 (by rw [k_1]; decide) (by rw [k_1]; decide) (by rw [k_1]; rfl) (by decide) ?_
        refine lv_aload_n X.1 X.2.1 dL_law_137 rfl (lv_at hv 1 rfl) ?_
        refine lv_aload_n X.1 X.2.1 dL_law_138 rfl (lv_at hv 0 rfl) ?_
        refine lv_iload_n X.1 X.2.1 dL_law_139 rfl (lv_at hv 3 rfl) ?_
        refine lv_iconst (v := 1) X.1 X.2.1 dL_law_140 (by decide) ?_
        refine lv_iadd X.1 X.2.1 dL_law_141 ?_
        obtain ⟨j_34, e_35, b_36, h⟩ := h
        refine xs_ld X hX hbl hz1 hz2 hw e_35 b_36 hL dL_law_142 ?_
        refine xc_i (xr_V (n := 1) (As := [.int ((xs j_34))]) (i := 32) X hk hw hv.1 (c_X9_cut l Z et S ((xs j_34)) _ h) (tb_V tw_212 tw_209 tw_210 tw_211 tw_39) xe_32 rfl rfl rfl rfl (by decide +kernel) ⟨Nat.le_of_ble_eq_true rfl, Nat.le_of_ble_eq_true rfl⟩ rfl (Nat.le_of_ble_eq_true rfl) dL_law_143 ⟨by show 100 + 2 * k9 + 0 ≤ 603733; omega, by show 10000 + 66 * k9 + 0 ≤ 7291048; omega⟩) hl (fun r_38 S_37 H locs h hN hw hl => ?_)
        replace h5 := (congrFun hN 5).trans h5
        refine lv_aload_n X.1 X.2.1 dL_law_146 rfl (lv_at hv 2 rfl) ?_
        refine lv_aload_n X.1 X.2.1 dL_law_147 rfl (lv_at hv 0 rfl) ?_
        refine lv_iload_n X.1 X.2.1 dL_law_148 rfl (lv_at hv 3 rfl) ?_
        refine lv_iconst (v := 1) X.1 X.2.1 dL_law_149 (by decide) ?_
        refine lv_iadd X.1 X.2.1 dL_law_150 ?_
        obtain ⟨j_39, e_40, b_41, h⟩ := h
        refine xs_ld X hX hbl hz1 hz2 hw e_40 b_41 hL dL_law_151 ?_
        refine xc_i (xr_V (n := 1) (As := [.int ((xs j_39))]) (i := 0) X hk hw hv.1 (c_X10_cut l Z et S_37 ((xs j_39)) _ h) (tb_V tw_617 tw_614 tw_615 tw_616 tw_44) xe_0 rfl rfl rfl rfl (by decide +kernel) ⟨Nat.le_of_ble_eq_true rfl, Nat.le_of_ble_eq_true rfl⟩ rfl (Nat.le_of_ble_eq_true rfl) dL_law_152 ⟨by show 100 + 2 * k9 + 0 ≤ 603733; omega, by show 10000 + 66 * k9 + 0 ≤ 7291048; omega⟩) hl (fun r_43 S_42 H locs h hN hw hl => ?_)
        replace h5 := (congrFun hN 5).trans h5
        refine lv_icmp_eq (tgt := 362) X.1 X.2.1 dL_law_155 (by decide) (fun c_44 => ?_) (fun c_44 => ?_)
        · skip
          replace h := h.1 c_44
          refine lv_iinc (v := (a3 + 5)) (lv' := [(3, .int ((a3 + 5))), (0, .ref b), (1, .ref (et (32))), (2, .ref (et (0)))]) X.1 X.2.1 dL_law_362 hv (k := 3) rfl rfl (by decide) rfl (fun ls hv => ?_)
          refine lv_goto (tgt := 18) X.1 X.2.1 dL_law_365 (by decide) ?_
          exact ih (k9) ((a3 + 5)) S_42 et _ _ _ h h5 hku hw hl (lv_sub hv [1, 2, 3, 0] rfl)
        · skip
          replace h := h.2 c_44
          refine lv_iconst (v := 0) X.1 X.2.1 dL_law_158 (by decide) ?_
          exact False.elim h
      by_cases k_2 : ((xs j_2) &&& 15) = 2
      · have h := hsw.2.2.1 k_2
        refine lv_tableIn (off := 128) (tgt := 160) X.1 X.2.1 dL_law_32 (by rw [k_2]; decide) (by rw [k_2]; decide) (by rw [k_2]; rfl) (by decide) ?_
        refine lv_aload_n X.1 X.2.1 dL_law_160 rfl (lv_at hv 1 rfl) ?_
        refine lv_aload_n X.1 X.2.1 dL_law_161 rfl (lv_at hv 0 rfl) ?_
        refine lv_iload_n X.1 X.2.1 dL_law_162 rfl (lv_at hv 3 rfl) ?_
        refine lv_iconst (v := 1) X.1 X.2.1 dL_law_163 (by decide) ?_
        refine lv_iadd X.1 X.2.1 dL_law_164 ?_
        obtain ⟨j_45, e_46, b_47, h⟩ := h
        refine xs_ld X hX hbl hz1 hz2 hw e_46 b_47 hL dL_law_165 ?_
        refine lv_aload_n X.1 X.2.1 dL_law_166 rfl (lv_at hv 0 rfl) ?_
        refine lv_iload_n X.1 X.2.1 dL_law_167 rfl (lv_at hv 3 rfl) ?_
        refine lv_iconst (v := 2) X.1 X.2.1 dL_law_168 (by decide) ?_
        refine lv_iadd X.1 X.2.1 dL_law_169 ?_
        obtain ⟨j_48, e_49, b_50, h⟩ := h
        refine xs_ld X hX hbl hz1 hz2 hw e_49 b_50 hL dL_law_170 ?_
        refine lv_aload_n X.1 X.2.1 dL_law_171 rfl (lv_at hv 0 rfl) ?_
        refine lv_iload_n X.1 X.2.1 dL_law_172 rfl (lv_at hv 3 rfl) ?_
        refine lv_iconst (v := 3) X.1 X.2.1 dL_law_173 (by decide) ?_
        refine lv_iadd X.1 X.2.1 dL_law_174 ?_
        obtain ⟨j_51, e_52, b_53, h⟩ := h
        refine xs_ld X hX hbl hz1 hz2 hw e_52 b_53 hL dL_law_175 ?_
        refine lv_aload_n X.1 X.2.1 dL_law_176 rfl (lv_at hv 0 rfl) ?_
        refine lv_iload_n X.1 X.2.1 dL_law_177 rfl (lv_at hv 3 rfl) ?_
        refine lv_iconst (v := 4) X.1 X.2.1 dL_law_178 (by decide) ?_
        refine lv_iadd X.1 X.2.1 dL_law_179 ?_
        obtain ⟨j_54, e_55, b_56, h⟩ := h
        refine xs_ld X hX hbl hz1 hz2 hw e_55 b_56 hL dL_law_180 ?_
        obtain ⟨b_57, h⟩ := h
        refine xc_ai (xr_V (n := 4) (As := [.int ((xs j_45)), .int ((xs j_48)), .int ((xs j_51)), .int ((xs j_54))]) (i := 32) X hk hw hv.1 (c_X9_act l Z et S ((xs j_45)) ((xs j_48)) ((xs j_51)) ((xs j_54)) _ h5 h) (tb_V tw_216 tw_213 tw_214 tw_215 tw_39) xe_32 rfl rfl rfl rfl (by decide +kernel) ⟨Nat.le_of_ble_eq_true rfl, Nat.le_of_ble_eq_true rfl⟩ rfl (Nat.le_of_ble_eq_true rfl) dL_law_181 ⟨by show 100 + 2 * k9 + 2 ≤ 603733; omega, by show 10000 + 66 * k9 + 66 ≤ 7291048; omega⟩) hl (fun r_59 S_58 et1 H locs h hs1 hg1 hw hl => ?_)
        have e_60 := hs1 (32) (sn_ne (xe_32 (S := S)))
        have e_61 := hs1 (0) (sn_ne (xe_0 (S := S)))
        replace hv : lv_has ls 4 [(0, .ref b), (1, .ref (et1 (32))), (2, .ref (et1 (0))), (3, .int (a3))] := by rw [e_60, e_61]; exact hv
        generalize et1 = et at *
        replace h5 := hg1.2.2.2.1
        refine W.widen (k := 100 + 2 * (k9 + 1)) (n := 10000 + 66 * (k9 + 1)) (by show 100 + 2 * k9 + 2 ≤ _; omega) (by show 10000 + 66 * k9 + 66 ≤ _; omega) ?_
        replace hku := b_57
        refine lv_aload_n X.1 X.2.1 dL_law_184 rfl (lv_at hv 2 rfl) ?_
        refine lv_aload_n X.1 X.2.1 dL_law_185 rfl (lv_at hv 0 rfl) ?_
        refine lv_iload_n X.1 X.2.1 dL_law_186 rfl (lv_at hv 3 rfl) ?_
        refine lv_iconst (v := 1) X.1 X.2.1 dL_law_187 (by decide) ?_
        refine lv_iadd X.1 X.2.1 dL_law_188 ?_
        obtain ⟨j_62, e_63, b_64, h⟩ := h
        refine xs_ld X hX hbl hz1 hz2 hw e_63 b_64 hL dL_law_189 ?_
        refine lv_aload_n X.1 X.2.1 dL_law_190 rfl (lv_at hv 0 rfl) ?_
        refine lv_iload_n X.1 X.2.1 dL_law_191 rfl (lv_at hv 3 rfl) ?_
        refine lv_iconst (v := 2) X.1 X.2.1 dL_law_192 (by decide) ?_
        refine lv_iadd X.1 X.2.1 dL_law_193 ?_
        obtain ⟨j_65, e_66, b_67, h⟩ := h
        refine xs_ld X hX hbl hz1 hz2 hw e_66 b_67 hL dL_law_194 ?_
        refine lv_aload_n X.1 X.2.1 dL_law_195 rfl (lv_at hv 0 rfl) ?_
        refine lv_iload_n X.1 X.2.1 dL_law_196 rfl (lv_at hv 3 rfl) ?_
        refine lv_iconst (v := 3) X.1 X.2.1 dL_law_197 (by decide) ?_
        refine lv_iadd X.1 X.2.1 dL_law_198 ?_
        obtain ⟨j_68, e_69, b_70, h⟩ := h
        refine xs_ld X hX hbl hz1 hz2 hw e_69 b_70 hL dL_law_199 ?_
        refine lv_aload_n X.1 X.2.1 dL_law_200 rfl (lv_at hv 0 rfl) ?_
        refine lv_iload_n X.1 X.2.1 dL_law_201 rfl (lv_at hv 3 rfl) ?_
        refine lv_iconst (v := 4) X.1 X.2.1 dL_law_202 (by decide) ?_
        refine lv_iadd X.1 X.2.1 dL_law_203 ?_
        obtain ⟨j_71, e_72, b_73, h⟩ := h
        refine xs_ld X hX hbl hz1 hz2 hw e_72 b_73 hL dL_law_204 ?_
        refine xc_i (xr_V (n := 4) (As := [.int ((xs j_62)), .int ((xs j_65)), .int ((xs j_68)), .int ((xs j_71))]) (i := 0) X hk hw hv.1 (c_X10_act l Z et S_58 ((xs j_62)) ((xs j_65)) ((xs j_68)) ((xs j_71)) _ h) (tb_V tw_621 tw_618 tw_619 tw_620 tw_44) xe_0 rfl rfl rfl rfl (by decide +kernel) ⟨Nat.le_of_ble_eq_true rfl, Nat.le_of_ble_eq_true rfl⟩ rfl (Nat.le_of_ble_eq_true rfl) dL_law_205 ⟨by show 100 + 2 * (k9 + 1) + 0 ≤ 603733; omega, by show 10000 + 66 * (k9 + 1) + 0 ≤ 7291048; omega⟩) hl (fun r_75 S_74 H locs h hN hw hl => ?_)
        replace h5 := (congrFun hN 5).trans h5
        refine lv_icmp_eq (tgt := 362) X.1 X.2.1 dL_law_208 (by decide) (fun c_76 => ?_) (fun c_76 => ?_)
        · skip
          replace h := h.1 c_76
          refine lv_iinc (v := (a3 + 5)) (lv' := [(3, .int ((a3 + 5))), (0, .ref b), (1, .ref (et (32))), (2, .ref (et (0)))]) X.1 X.2.1 dL_law_362 hv (k := 3) rfl rfl (by decide) rfl (fun ls hv => ?_)
          refine lv_goto (tgt := 18) X.1 X.2.1 dL_law_365 (by decide) ?_
          exact ih ((k9 + 1)) ((a3 + 5)) S_74 et _ _ _ h h5 hku hw hl (lv_sub hv [1, 2, 3, 0] rfl)
        · skip
          replace h := h.2 c_76
          refine lv_iconst (v := 0) X.1 X.2.1 dL_law_211 (by decide) ?_
          exact False.elim h
      by_cases k_3 : ((xs j_2) &&& 15) = 3
      · have h := hsw.2.2.2.1 k_3
        refine lv_tableIn (off := 181) (tgt := 213) X.1 X.2.1 dL_law_32 (by rw [k_3]; decide) (by rw [k_3]; decide) (by rw [k_3]; rfl) (by decide) ?_
        refine lv_aload_n X.1 X.2.1 dL_law_213 rfl (lv_at hv 1 rfl) ?_
        refine lv_aload_n X.1 X.2.1 dL_law_214 rfl (lv_at hv 0 rfl) ?_
        refine lv_iload_n X.1 X.2.1 dL_law_215 rfl (lv_at hv 3 rfl) ?_
        refine lv_iconst (v := 1) X.1 X.2.1 dL_law_216 (by decide) ?_
        refine lv_iadd X.1 X.2.1 dL_law_217 ?_
        obtain ⟨j_77, e_78, b_79, h⟩ := h
        refine xs_ld X hX hbl hz1 hz2 hw e_78 b_79 hL dL_law_218 ?_
        obtain ⟨nu_80, b_81, h⟩ := h
        refine xc_ai (xr_V (n := 1) (As := [.int ((xs j_77))]) (i := 32) X hk hw hv.1 (c_X9_run l Z et S nu_80 ((xs j_77)) _ h5 h) (tb_V tw_439 tw_436 tw_437 tw_438 tw_39) xe_32 rfl rfl rfl rfl (by decide +kernel) ⟨Nat.le_of_ble_eq_true rfl, Nat.le_of_ble_eq_true rfl⟩ rfl (Nat.le_of_ble_eq_true rfl) dL_law_219 ⟨by show 100 + 2 * k9 + 2 * nu_80 ≤ 603733; omega, by show 10000 + 66 * k9 + 66 * nu_80 ≤ 7291048; omega⟩) hl (fun r_83 S_82 et1 H locs h hs1 hg1 hw hl => ?_)
        have e_84 := hs1 (32) (sn_ne (xe_32 (S := S)))
        have e_85 := hs1 (0) (sn_ne (xe_0 (S := S)))
        replace hv : lv_has ls 4 [(0, .ref b), (1, .ref (et1 (32))), (2, .ref (et1 (0))), (3, .int (a3))] := by rw [e_84, e_85]; exact hv
        generalize et1 = et at *
        replace h5 := hg1.2.2.2.1
        refine W.widen (k := 100 + 2 * (k9 + nu_80)) (n := 10000 + 66 * (k9 + nu_80)) (by show 100 + 2 * k9 + 2 * nu_80 ≤ _; omega) (by show 10000 + 66 * k9 + 66 * nu_80 ≤ _; omega) ?_
        replace hku := b_81
        refine lv_aload_n X.1 X.2.1 dL_law_222 rfl (lv_at hv 2 rfl) ?_
        refine lv_aload_n X.1 X.2.1 dL_law_223 rfl (lv_at hv 0 rfl) ?_
        refine lv_iload_n X.1 X.2.1 dL_law_224 rfl (lv_at hv 3 rfl) ?_
        refine lv_iconst (v := 1) X.1 X.2.1 dL_law_225 (by decide) ?_
        refine lv_iadd X.1 X.2.1 dL_law_226 ?_
        obtain ⟨j_86, e_87, b_88, h⟩ := h
        refine xs_ld X hX hbl hz1 hz2 hw e_87 b_88 hL dL_law_227 ?_
        refine xc_i (xr_V (n := 1) (As := [.int ((xs j_86))]) (i := 0) X hk hw hv.1 (c_X10_run l Z et S_82 ((xs j_86)) _ h) (tb_V tw_721 tw_718 tw_719 tw_720 tw_44) xe_0 rfl rfl rfl rfl (by decide +kernel) ⟨Nat.le_of_ble_eq_true rfl, Nat.le_of_ble_eq_true rfl⟩ rfl (Nat.le_of_ble_eq_true rfl) dL_law_228 ⟨by show 100 + 2 * (k9 + nu_80) + 0 ≤ 603733; omega, by show 10000 + 66 * (k9 + nu_80) + 0 ≤ 7291048; omega⟩) hl (fun r_90 S_89 H locs h hN hw hl => ?_)
        replace h5 := (congrFun hN 5).trans h5
        refine lv_icmp_eq (tgt := 362) X.1 X.2.1 dL_law_231 (by decide) (fun c_91 => ?_) (fun c_91 => ?_)
        · skip
          replace h := h.1 c_91
          refine lv_iinc (v := (a3 + 5)) (lv' := [(3, .int ((a3 + 5))), (0, .ref b), (1, .ref (et (32))), (2, .ref (et (0)))]) X.1 X.2.1 dL_law_362 hv (k := 3) rfl rfl (by decide) rfl (fun ls hv => ?_)
          refine lv_goto (tgt := 18) X.1 X.2.1 dL_law_365 (by decide) ?_
          exact ih ((k9 + nu_80)) ((a3 + 5)) S_89 et _ _ _ h h5 hku hw hl (lv_sub hv [1, 2, 3, 0] rfl)
        · skip
          replace h := h.2 c_91
          refine lv_iconst (v := 0) X.1 X.2.1 dL_law_234 (by decide) ?_
          exact False.elim h
      by_cases k_4 : ((xs j_2) &&& 15) = 4
      · have h := hsw.2.2.2.2.1 k_4
        refine lv_tableIn (off := 204) (tgt := 236) X.1 X.2.1 dL_law_32 (by rw [k_4]; decide) (by rw [k_4]; decide) (by rw [k_4]; rfl) (by decide) ?_
        refine lv_aload_n X.1 X.2.1 dL_law_236 rfl (lv_at hv 1 rfl) ?_
        refine xc_i (xr_V (n := 0) (As := []) (i := 32) X hk hw hv.1 (c_X9_back l Z et S  _ h) (tb_V tw_462 tw_459 tw_460 tw_461 tw_39) xe_32 rfl rfl rfl rfl (by decide +kernel) ⟨Nat.le_of_ble_eq_true rfl, Nat.le_of_ble_eq_true rfl⟩ rfl (Nat.le_of_ble_eq_true rfl) dL_law_237 ⟨by show 100 + 2 * k9 + 0 ≤ 603733; omega, by show 10000 + 66 * k9 + 0 ≤ 7291048; omega⟩) hl (fun r_93 S_92 H locs h hN hw hl => ?_)
        replace h5 := (congrFun hN 5).trans h5
        refine lv_aload_n X.1 X.2.1 dL_law_240 rfl (lv_at hv 2 rfl) ?_
        refine xc_i (xr_V (n := 0) (As := []) (i := 0) X hk hw hv.1 (c_X10_back l Z et S_92  _ h) (tb_V tw_733 tw_730 tw_731 tw_732 tw_44) xe_0 rfl rfl rfl rfl (by decide +kernel) ⟨Nat.le_of_ble_eq_true rfl, Nat.le_of_ble_eq_true rfl⟩ rfl (Nat.le_of_ble_eq_true rfl) dL_law_241 ⟨by show 100 + 2 * k9 + 0 ≤ 603733; omega, by show 10000 + 66 * k9 + 0 ≤ 7291048; omega⟩) hl (fun r_95 S_94 H locs h hN hw hl => ?_)
        replace h5 := (congrFun hN 5).trans h5
        refine lv_icmp_eq (tgt := 362) X.1 X.2.1 dL_law_244 (by decide) (fun c_96 => ?_) (fun c_96 => ?_)
        · skip
          replace h := h.1 c_96
          refine lv_iinc (v := (a3 + 5)) (lv' := [(3, .int ((a3 + 5))), (0, .ref b), (1, .ref (et (32))), (2, .ref (et (0)))]) X.1 X.2.1 dL_law_362 hv (k := 3) rfl rfl (by decide) rfl (fun ls hv => ?_)
          refine lv_goto (tgt := 18) X.1 X.2.1 dL_law_365 (by decide) ?_
          exact ih (k9) ((a3 + 5)) S_94 et _ _ _ h h5 hku hw hl (lv_sub hv [1, 2, 3, 0] rfl)
        · skip
          replace h := h.2 c_96
          refine lv_iconst (v := 0) X.1 X.2.1 dL_law_247 (by decide) ?_
          exact False.elim h
      by_cases k_5 : ((xs j_2) &&& 15) = 5
      · have h := hsw.2.2.2.2.2.1 k_5
        refine lv_tableIn (off := 217) (tgt := 249) X.1 X.2.1 dL_law_32 (by rw [k_5]; decide) (by rw [k_5]; decide) (by rw [k_5]; rfl) (by decide) ?_
        refine lv_aload_n X.1 X.2.1 dL_law_249 rfl (lv_at hv 1 rfl) ?_
        refine lv_aload_n X.1 X.2.1 dL_law_250 rfl (lv_at hv 0 rfl) ?_
        refine lv_iload_n X.1 X.2.1 dL_law_251 rfl (lv_at hv 3 rfl) ?_
        refine lv_iconst (v := 1) X.1 X.2.1 dL_law_252 (by decide) ?_
        refine lv_iadd X.1 X.2.1 dL_law_253 ?_
        obtain ⟨j_97, e_98, b_99, h⟩ := h
        refine xs_ld X hX hbl hz1 hz2 hw e_98 b_99 hL dL_law_254 ?_
        refine lv_aload_n X.1 X.2.1 dL_law_255 rfl (lv_at hv 0 rfl) ?_
        refine lv_iload_n X.1 X.2.1 dL_law_256 rfl (lv_at hv 3 rfl) ?_
        refine lv_iconst (v := 2) X.1 X.2.1 dL_law_257 (by decide) ?_
        refine lv_iadd X.1 X.2.1 dL_law_258 ?_
        obtain ⟨j_100, e_101, b_102, h⟩ := h
        refine xs_ld X hX hbl hz1 hz2 hw e_101 b_102 hL dL_law_259 ?_
        refine xc_i (xr_V (n := 2) (As := [.int ((xs j_97)), .int ((xs j_100))]) (i := 32) X hk hw hv.1 (c_X9_look l Z et S ((xs j_97)) ((xs j_100)) _ h) (tb_V tw_470 tw_467 tw_468 tw_469 tw_39) xe_32 rfl rfl rfl rfl (by decide +kernel) ⟨Nat.le_of_ble_eq_true rfl, Nat.le_of_ble_eq_true rfl⟩ rfl (Nat.le_of_ble_eq_true rfl) dL_law_260 ⟨by show 100 + 2 * k9 + 0 ≤ 603733; omega, by show 10000 + 66 * k9 + 0 ≤ 7291048; omega⟩) hl (fun r_104 S_103 H locs h hN hw hl => ?_)
        replace h5 := (congrFun hN 5).trans h5
        refine lv_aload_n X.1 X.2.1 dL_law_263 rfl (lv_at hv 2 rfl) ?_
        refine lv_aload_n X.1 X.2.1 dL_law_264 rfl (lv_at hv 0 rfl) ?_
        refine lv_iload_n X.1 X.2.1 dL_law_265 rfl (lv_at hv 3 rfl) ?_
        refine lv_iconst (v := 1) X.1 X.2.1 dL_law_266 (by decide) ?_
        refine lv_iadd X.1 X.2.1 dL_law_267 ?_
        obtain ⟨j_105, e_106, b_107, h⟩ := h
        refine xs_ld X hX hbl hz1 hz2 hw e_106 b_107 hL dL_law_268 ?_
        refine lv_aload_n X.1 X.2.1 dL_law_269 rfl (lv_at hv 0 rfl) ?_
        refine lv_iload_n X.1 X.2.1 dL_law_270 rfl (lv_at hv 3 rfl) ?_
        refine lv_iconst (v := 2) X.1 X.2.1 dL_law_271 (by decide) ?_
        refine lv_iadd X.1 X.2.1 dL_law_272 ?_
        obtain ⟨j_108, e_109, b_110, h⟩ := h
        refine xs_ld X hX hbl hz1 hz2 hw e_109 b_110 hL dL_law_273 ?_
        refine xc_i (xr_V (n := 2) (As := [.int ((xs j_105)), .int ((xs j_108))]) (i := 0) X hk hw hv.1 (c_X10_look l Z et S_103 ((xs j_105)) ((xs j_108)) _ h) (tb_V tw_737 tw_734 tw_735 tw_736 tw_44) xe_0 rfl rfl rfl rfl (by decide +kernel) ⟨Nat.le_of_ble_eq_true rfl, Nat.le_of_ble_eq_true rfl⟩ rfl (Nat.le_of_ble_eq_true rfl) dL_law_274 ⟨by show 100 + 2 * k9 + 0 ≤ 603733; omega, by show 10000 + 66 * k9 + 0 ≤ 7291048; omega⟩) hl (fun r_112 S_111 H locs h hN hw hl => ?_)
        replace h5 := (congrFun hN 5).trans h5
        refine lv_icmp_eq (tgt := 362) X.1 X.2.1 dL_law_277 (by decide) (fun c_113 => ?_) (fun c_113 => ?_)
        · skip
          replace h := h.1 c_113
          refine lv_iinc (v := (a3 + 5)) (lv' := [(3, .int ((a3 + 5))), (0, .ref b), (1, .ref (et (32))), (2, .ref (et (0)))]) X.1 X.2.1 dL_law_362 hv (k := 3) rfl rfl (by decide) rfl (fun ls hv => ?_)
          refine lv_goto (tgt := 18) X.1 X.2.1 dL_law_365 (by decide) ?_
          exact ih (k9) ((a3 + 5)) S_111 et _ _ _ h h5 hku hw hl (lv_sub hv [1, 2, 3, 0] rfl)
        · skip
          replace h := h.2 c_113
          refine lv_iconst (v := 0) X.1 X.2.1 dL_law_280 (by decide) ?_
          exact False.elim h
      by_cases k_6 : ((xs j_2) &&& 15) = 6
      · have h := hsw.2.2.2.2.2.2.1 k_6
        refine lv_tableIn (off := 250) (tgt := 282) X.1 X.2.1 dL_law_32 (by rw [k_6]; decide) (by rw [k_6]; decide) (by rw [k_6]; rfl) (by decide) ?_
        refine lv_aload_n X.1 X.2.1 dL_law_282 rfl (lv_at hv 1 rfl) ?_
        refine lv_aload_n X.1 X.2.1 dL_law_283 rfl (lv_at hv 0 rfl) ?_
        refine lv_iload_n X.1 X.2.1 dL_law_284 rfl (lv_at hv 3 rfl) ?_
        refine lv_iconst (v := 1) X.1 X.2.1 dL_law_285 (by decide) ?_
        refine lv_iadd X.1 X.2.1 dL_law_286 ?_
        obtain ⟨j_114, e_115, b_116, h⟩ := h
        refine xs_ld X hX hbl hz1 hz2 hw e_115 b_116 hL dL_law_287 ?_
        refine lv_aload_n X.1 X.2.1 dL_law_288 rfl (lv_at hv 0 rfl) ?_
        refine lv_iload_n X.1 X.2.1 dL_law_289 rfl (lv_at hv 3 rfl) ?_
        refine lv_iconst (v := 2) X.1 X.2.1 dL_law_290 (by decide) ?_
        refine lv_iadd X.1 X.2.1 dL_law_291 ?_
        obtain ⟨j_117, e_118, b_119, h⟩ := h
        refine xs_ld X hX hbl hz1 hz2 hw e_118 b_119 hL dL_law_292 ?_
        refine xc_l (xr_V (n := 2) (As := [.int ((xs j_114)), .int ((xs j_117))]) (i := 32) X hk hw hv.1 (c_X9_cell l Z et S ((xs j_114)) ((xs j_117)) _ h) (tb_V tw_502 tw_499 tw_500 tw_501 tw_39) xe_32 rfl rfl rfl rfl (by decide +kernel) ⟨Nat.le_of_ble_eq_true rfl, Nat.le_of_ble_eq_true rfl⟩ rfl (Nat.le_of_ble_eq_true rfl) dL_law_293 ⟨by show 100 + 2 * k9 + 0 ≤ 603733; omega, by show 10000 + 66 * k9 + 0 ≤ 7291048; omega⟩) hl (fun r_121 S_120 H locs h hN hw hl => ?_)
        replace h5 := (congrFun hN 5).trans h5
        refine lv_aload_n X.1 X.2.1 dL_law_296 rfl (lv_at hv 2 rfl) ?_
        refine lv_aload_n X.1 X.2.1 dL_law_297 rfl (lv_at hv 0 rfl) ?_
        refine lv_iload_n X.1 X.2.1 dL_law_298 rfl (lv_at hv 3 rfl) ?_
        refine lv_iconst (v := 1) X.1 X.2.1 dL_law_299 (by decide) ?_
        refine lv_iadd X.1 X.2.1 dL_law_300 ?_
        obtain ⟨j_122, e_123, b_124, h⟩ := h
        refine xs_ld X hX hbl hz1 hz2 hw e_123 b_124 hL dL_law_301 ?_
        refine lv_aload_n X.1 X.2.1 dL_law_302 rfl (lv_at hv 0 rfl) ?_
        refine lv_iload_n X.1 X.2.1 dL_law_303 rfl (lv_at hv 3 rfl) ?_
        refine lv_iconst (v := 2) X.1 X.2.1 dL_law_304 (by decide) ?_
        refine lv_iadd X.1 X.2.1 dL_law_305 ?_
        obtain ⟨j_125, e_126, b_127, h⟩ := h
        refine xs_ld X hX hbl hz1 hz2 hw e_126 b_127 hL dL_law_306 ?_
        refine xc_l (xr_V (n := 2) (As := [.int ((xs j_122)), .int ((xs j_125))]) (i := 0) X hk hw hv.1 (c_X10_cell l Z et S_120 ((xs j_122)) ((xs j_125)) _ h) (tb_V tw_745 tw_742 tw_743 tw_744 tw_44) xe_0 rfl rfl rfl rfl (by decide +kernel) ⟨Nat.le_of_ble_eq_true rfl, Nat.le_of_ble_eq_true rfl⟩ rfl (Nat.le_of_ble_eq_true rfl) dL_law_307 ⟨by show 100 + 2 * k9 + 0 ≤ 603733; omega, by show 10000 + 66 * k9 + 0 ≤ 7291048; omega⟩) hl (fun r_129 S_128 H locs h hN hw hl => ?_)
        replace h5 := (congrFun hN 5).trans h5
        refine W.lcmp X.1 X.2.1 dL_law_310 ?_
        refine lv_if_eq (tgt := 362) X.1 X.2.1 dL_law_311 (by decide) (fun c_130 => ?_) (fun c_130 => ?_)
        · skip
          replace c_130 := (lg_cmp_eq _ _).mp c_130
          replace h := h.1 c_130
          refine lv_iinc (v := (a3 + 5)) (lv' := [(3, .int ((a3 + 5))), (0, .ref b), (1, .ref (et (32))), (2, .ref (et (0)))]) X.1 X.2.1 dL_law_362 hv (k := 3) rfl rfl (by decide) rfl (fun ls hv => ?_)
          refine lv_goto (tgt := 18) X.1 X.2.1 dL_law_365 (by decide) ?_
          exact ih (k9) ((a3 + 5)) S_128 et _ _ _ h h5 hku hw hl (lv_sub hv [1, 2, 3, 0] rfl)
        · skip
          replace c_130 := fun q => c_130 ((lg_cmp_eq _ _).mpr q)
          replace h := h.2 c_130
          refine lv_iconst (v := 0) X.1 X.2.1 dL_law_314 (by decide) ?_
          exact False.elim h
      by_cases k_7 : ((xs j_2) &&& 15) = 7
      · have h := hsw.2.2.2.2.2.2.2.1 k_7
        refine lv_tableIn (off := 284) (tgt := 316) X.1 X.2.1 dL_law_32 (by rw [k_7]; decide) (by rw [k_7]; decide) (by rw [k_7]; rfl) (by decide) ?_
        refine lv_aload_n X.1 X.2.1 dL_law_316 rfl (lv_at hv 1 rfl) ?_
        refine lv_aload_n X.1 X.2.1 dL_law_317 rfl (lv_at hv 0 rfl) ?_
        refine lv_iload_n X.1 X.2.1 dL_law_318 rfl (lv_at hv 3 rfl) ?_
        refine lv_iconst (v := 1) X.1 X.2.1 dL_law_319 (by decide) ?_
        refine lv_iadd X.1 X.2.1 dL_law_320 ?_
        obtain ⟨j_131, e_132, b_133, h⟩ := h
        refine xs_ld X hX hbl hz1 hz2 hw e_132 b_133 hL dL_law_321 ?_
        refine xc_i (xr_V (n := 1) (As := [.int ((xs j_131))]) (i := 32) X hk hw hv.1 (c_X9_sort l Z et S ((xs j_131)) _ h) (tb_V tw_507 tw_504 tw_505 tw_506 tw_39) xe_32 rfl rfl rfl rfl (by decide +kernel) ⟨Nat.le_of_ble_eq_true rfl, Nat.le_of_ble_eq_true rfl⟩ rfl (Nat.le_of_ble_eq_true rfl) dL_law_322 ⟨by show 100 + 2 * k9 + 0 ≤ 603733; omega, by show 10000 + 66 * k9 + 0 ≤ 7291048; omega⟩) hl (fun r_135 S_134 H locs h hN hw hl => ?_)
        replace h5 := (congrFun hN 5).trans h5
        refine lv_aload_n X.1 X.2.1 dL_law_325 rfl (lv_at hv 2 rfl) ?_
        refine lv_aload_n X.1 X.2.1 dL_law_326 rfl (lv_at hv 0 rfl) ?_
        refine lv_iload_n X.1 X.2.1 dL_law_327 rfl (lv_at hv 3 rfl) ?_
        refine lv_iconst (v := 1) X.1 X.2.1 dL_law_328 (by decide) ?_
        refine lv_iadd X.1 X.2.1 dL_law_329 ?_
        obtain ⟨j_136, e_137, b_138, h⟩ := h
        refine xs_ld X hX hbl hz1 hz2 hw e_137 b_138 hL dL_law_330 ?_
        refine xc_i (xr_V (n := 1) (As := [.int ((xs j_136))]) (i := 0) X hk hw hv.1 (c_X10_sort l Z et S_134 ((xs j_136)) _ h) (tb_V tw_749 tw_746 tw_747 tw_748 tw_44) xe_0 rfl rfl rfl rfl (by decide +kernel) ⟨Nat.le_of_ble_eq_true rfl, Nat.le_of_ble_eq_true rfl⟩ rfl (Nat.le_of_ble_eq_true rfl) dL_law_331 ⟨by show 100 + 2 * k9 + 0 ≤ 603733; omega, by show 10000 + 66 * k9 + 0 ≤ 7291048; omega⟩) hl (fun r_140 S_139 H locs h hN hw hl => ?_)
        replace h5 := (congrFun hN 5).trans h5
        refine lv_icmp_eq (tgt := 362) X.1 X.2.1 dL_law_334 (by decide) (fun c_141 => ?_) (fun c_141 => ?_)
        · skip
          replace h := h.1 c_141
          refine lv_iinc (v := (a3 + 5)) (lv' := [(3, .int ((a3 + 5))), (0, .ref b), (1, .ref (et (32))), (2, .ref (et (0)))]) X.1 X.2.1 dL_law_362 hv (k := 3) rfl rfl (by decide) rfl (fun ls hv => ?_)
          refine lv_goto (tgt := 18) X.1 X.2.1 dL_law_365 (by decide) ?_
          exact ih (k9) ((a3 + 5)) S_139 et _ _ _ h h5 hku hw hl (lv_sub hv [1, 2, 3, 0] rfl)
        · skip
          replace h := h.2 c_141
          refine lv_iconst (v := 0) X.1 X.2.1 dL_law_337 (by decide) ?_
          exact False.elim h
      by_cases k_8 : ((xs j_2) &&& 15) = 8
      · have h := hsw.2.2.2.2.2.2.2.2.1 k_8
        refine lv_tableIn (off := 307) (tgt := 339) X.1 X.2.1 dL_law_32 (by rw [k_8]; decide) (by rw [k_8]; decide) (by rw [k_8]; rfl) (by decide) ?_
        refine lv_aload_n X.1 X.2.1 dL_law_339 rfl (lv_at hv 1 rfl) ?_
        refine lv_aload_n X.1 X.2.1 dL_law_340 rfl (lv_at hv 0 rfl) ?_
        refine lv_iload_n X.1 X.2.1 dL_law_341 rfl (lv_at hv 3 rfl) ?_
        refine lv_iconst (v := 1) X.1 X.2.1 dL_law_342 (by decide) ?_
        refine lv_iadd X.1 X.2.1 dL_law_343 ?_
        obtain ⟨j_142, e_143, b_144, h⟩ := h
        refine xs_ld X hX hbl hz1 hz2 hw e_143 b_144 hL dL_law_344 ?_
        refine xc_i (xr_V (n := 1) (As := [.int ((xs j_142))]) (i := 32) X hk hw hv.1 (c_X9_count l Z et S ((xs j_142)) _ h) (tb_V tw_512 tw_509 tw_510 tw_511 tw_39) xe_32 rfl rfl rfl rfl (by decide +kernel) ⟨Nat.le_of_ble_eq_true rfl, Nat.le_of_ble_eq_true rfl⟩ rfl (Nat.le_of_ble_eq_true rfl) dL_law_345 ⟨by show 100 + 2 * k9 + 0 ≤ 603733; omega, by show 10000 + 66 * k9 + 0 ≤ 7291048; omega⟩) hl (fun r_146 S_145 H locs h hN hw hl => ?_)
        replace h5 := (congrFun hN 5).trans h5
        refine lv_aload_n X.1 X.2.1 dL_law_348 rfl (lv_at hv 2 rfl) ?_
        refine lv_aload_n X.1 X.2.1 dL_law_349 rfl (lv_at hv 0 rfl) ?_
        refine lv_iload_n X.1 X.2.1 dL_law_350 rfl (lv_at hv 3 rfl) ?_
        refine lv_iconst (v := 1) X.1 X.2.1 dL_law_351 (by decide) ?_
        refine lv_iadd X.1 X.2.1 dL_law_352 ?_
        obtain ⟨j_147, e_148, b_149, h⟩ := h
        refine xs_ld X hX hbl hz1 hz2 hw e_148 b_149 hL dL_law_353 ?_
        refine xc_i (xr_V (n := 1) (As := [.int ((xs j_147))]) (i := 0) X hk hw hv.1 (c_X10_count l Z et S_145 ((xs j_147)) _ h) (tb_V tw_753 tw_750 tw_751 tw_752 tw_44) xe_0 rfl rfl rfl rfl (by decide +kernel) ⟨Nat.le_of_ble_eq_true rfl, Nat.le_of_ble_eq_true rfl⟩ rfl (Nat.le_of_ble_eq_true rfl) dL_law_354 ⟨by show 100 + 2 * k9 + 0 ≤ 603733; omega, by show 10000 + 66 * k9 + 0 ≤ 7291048; omega⟩) hl (fun r_151 S_150 H locs h hN hw hl => ?_)
        replace h5 := (congrFun hN 5).trans h5
        refine lv_icmp_eq (tgt := 362) X.1 X.2.1 dL_law_357 (by decide) (fun c_152 => ?_) (fun c_152 => ?_)
        · skip
          replace h := h.1 c_152
          refine lv_iinc (v := (a3 + 5)) (lv' := [(3, .int ((a3 + 5))), (0, .ref b), (1, .ref (et (32))), (2, .ref (et (0)))]) X.1 X.2.1 dL_law_362 hv (k := 3) rfl rfl (by decide) rfl (fun ls hv => ?_)
          refine lv_goto (tgt := 18) X.1 X.2.1 dL_law_365 (by decide) ?_
          exact ih (k9) ((a3 + 5)) S_150 et _ _ _ h h5 hku hw hl (lv_sub hv [1, 2, 3, 0] rfl)
        · skip
          replace h := h.2 c_152
          refine lv_iconst (v := 0) X.1 X.2.1 dL_law_360 (by decide) ?_
          exact False.elim h
      have h := hsw.2.2.2.2.2.2.2.2.2 k_0 k_1 k_2 k_3 k_4 k_5 k_6 k_7 k_8
      have n_0 := lv_neT k_0 (a := 0) (by decide)
      have n_1 := lv_neT k_1 (a := 1) (by decide)
      have n_2 := lv_neT k_2 (a := 2) (by decide)
      have n_3 := lv_neT k_3 (a := 3) (by decide)
      have n_4 := lv_neT k_4 (a := 4) (by decide)
      have n_5 := lv_neT k_5 (a := 5) (by decide)
      have n_6 := lv_neT k_6 (a := 6) (by decide)
      have n_7 := lv_neT k_7 (a := 7) (by decide)
      have n_8 := lv_neT k_8 (a := 8) (by decide)
      refine lv_tableOut (tgt := 362) X.1 X.2.1 dL_law_32 (by omega) (by decide) ?_
      refine lv_iinc (v := (a3 + 5)) (lv' := [(3, .int ((a3 + 5))), (0, .ref b), (1, .ref (et (32))), (2, .ref (et (0)))]) X.1 X.2.1 dL_law_362 hv (k := 3) rfl rfl (by decide) rfl (fun ls hv => ?_)
      refine lv_goto (tgt := 18) X.1 X.2.1 dL_law_365 (by decide) ?_
      exact ih (k9) ((a3 + 5)) S et _ _ _ h h5 hku hw hl (lv_sub hv [1, 2, 3, 0] rfl)
