def v_X7_init (u0 : Nat) (S : xs_T) (K : xs_T → Prop) : Prop := K S
set_option maxHeartbeats 4000000 in
set_option maxRecDepth 100000 in
theorem c_X7_init (l : Launch) (Z : xz_T) (et : Nat → Nat) (S : xs_T) (u0 : Nat) (K : xs_T → Prop) (h : v_X7_init u0 S K) : Met l yX7_init (wq yX7_init cX7_init 1 none) { frames := 1, cells := 0, slots := 0, locals := 30 } (xPc Z et S [.ref (et (u0))]) (xQv Z et S.2.2.2.2 K) 0 0 (fun q => Z.2.2.1 ≤ q) := by
  refine Met.ofW (cc := cX7_init) (maxL := 1) (ret := none) (by decide +kernel) rfl ?_
  intro p e s m args below meth c s₁ B hml hv0
  obtain ⟨rfl, hk, hw⟩ := hv0
  have X : CallFix p m c cX7_init 1 s _ (wq yX7_init cX7_init 1 none) RX7 := ⟨B.exec, B.bytes, hml, findClass_of_methodNamed B.named, atoms_spec (ws := (wq yX7_init cX7_init 1 none)) B.pre⟩
  have hr := B.returns
  have hlocks := B.notSynchronized
  have hin : meth.name = "<init>" := (name_of_methodNamed B.named B.method).1
  have hl : xl Z [] := fun _ h => by cases h
  have hNN : S.2.2.2.2 = S.2.2.2.2 := rfl
  have hv := lv_entry [.ref (et (u0))] (n := 1) (Nat.le_of_ble_eq_true rfl)
  rw [lg_entry_eq]
  generalize (lg_sl [.ref (et (u0))] ++ List.replicate (1 - (lg_sl [.ref (et (u0))]).length) Slot.unset).toArray = ls at hv ⊢
  replace hv : lv_has ls 1 [(0, .ref (et (u0)))] := hv
  unfold v_X7_init at h
  refine lv_aload_n X.1 X.2.1 dX7_init_0 rfl (lv_at hv 0 rfl) ?_
  refine W.objInit X.1 X.2.1 X.2.2.2.1 (X.2.2.2.2 _ (List.mem_cons_of_mem _ tw_328)) (X.2.2.2.2 _ (List.mem_cons_of_mem _ tw_60)) (X.2.2.2.2 _ (List.mem_cons_of_mem _ tw_61)) rfl (by rw [X.2.2.1]; exact hv.1) rfl dX7_init_1 (Nat.le_of_ble_eq_true rfl) (Nat.le_of_ble_eq_true rfl) ?_
  refine W.eq (g2 := F0 m 4 ls []) rfl ?_
  exact xt_v X hr hlocks hNN hw hl h dX7_init_4
theorem xE_half {Z : xz_T} {et : Nat → Nat} {S : xs_T} (h5 : 1 ≤ xN S 5) (hb : xN S 0 < 120) : xE Z et S (64 + xN S 0) = some (.inr (4, [.int (xF S (64 + xN S 0) 0), .null])) := by
  rw [xE_pool (by omega)]
  unfold xEp
  rw [if_neg (by omega), if_pos (by omega), if_neg (by omega), if_pos ⟨rfl, h5⟩]
theorem xN_H {S : xs_T} {k : Nat} (h : k ≠ 5) : xN (mkH S) k = xN S k := va_up_ne _ _ h
theorem xE_mkH {Z : xz_T} {et : Nat → Nat} {S : xs_T} (h5 : xN S 5 = 0) (i : Nat) (hi : i ≠ 64 + xN S 0) : xE Z et (mkH S) i = xE Z et S i := by
  have hF : xF (mkH S) i = xF S i := va_up_ne _ _ hi
  by_cases h : i < 64
  · exact xE_fixd h hF rfl rfl rfl
  · rw [xE_pool h, xE_pool h, hF]
    have h1 : xN (mkH S) 5 = 1 := rfl
    unfold xEp
    rw [xN_H (k := 0) (by decide), xN_H (k := 1) (by decide), xN_H (k := 2) (by decide), h1, h5]
    by_cases c1 : i < 184
    · rw [if_neg h, if_pos c1, if_neg h, if_pos c1]
      by_cases c2 : i < 64 + xN S 0
      · rw [if_pos c2, if_pos c2]
      · rw [if_neg c2, if_neg c2, if_neg (fun q => hi q.1), if_neg (fun q => hi q.1)]
    · rw [if_neg h, if_neg c1, if_neg h, if_neg c1, xN_H (k := i) (by omega)]
      by_cases c2 : i < 304
      · rw [if_pos c2, if_pos c2]
        by_cases c3 : i < 184 + xN S 0
        · rw [if_pos (Or.inl c3), if_pos (Or.inl c3)]; rfl
        · rw [if_neg (by omega), if_neg (by omega)]
      · rw [if_neg c2, if_neg c2]
theorem xst_H {Z : xz_T} {e0 e1 e2 : Nat → Nat} {S0 S : xs_T} (h5 : xN S0 5 = 0) (hb : xN S 0 < 120) (hg : xgr S0 S) (h : xst Z e0 S0 e1) (g : xst Z e1 (mkH S) e2) : xst Z e0 S0 e2 := fun i hi => by
  have h1 : xE Z e1 S i ≠ none := xE_dom h5 hg hi
  refine (g i ?_).trans (h i hi)
  by_cases hu : i = 64 + xN S 0
  · subst hu
    have := xE_half (Z := Z) (et := e1) (S := mkH S) (Nat.le_refl 1) hb
    exact sn_ne this
  · rw [xE_mkH hg.2.2.2.1 i hu]; exact h1
theorem xgr_H {S0 S S3 : xs_T} (hg : xgr S0 S) (g : xgr (mkH S) S3) : xgr S0 S3 := by
  obtain ⟨a, b, c, d, e⟩ := hg
  obtain ⟨a', b', c', d', e'⟩ := g
  rw [xN_H (by decide)] at a' b' c'
  refine ⟨Nat.le_trans a a', Nat.le_trans b b', Nat.le_trans c c', d', fun i h1 h2 => ?_⟩
  rw [e' i h1 (by rw [xN_H (by decide)]; omega), xN_H (by omega)]
  exact e i h1 h2
theorem xN_L0 {S : xs_T} {n k : Nat} (h : k ≠ 5) (h2 : k ≠ 184 + xN S 0) : xN (mkL S n) k = xN S k := by
  show va_up (va_up S.2.2.2.2 (184 + xN S 0) n) 5 2 k = _
  rw [va_up_ne _ _ h, va_up_ne _ _ h2]; rfl
theorem xN_L5 {S : xs_T} {n : Nat} : xN (mkL S n) 5 = 2 := rfl
theorem xN_Lv {S : xs_T} {n : Nat} : xN (mkL S n) (184 + xN S 0) = n := by
  show va_up (va_up S.2.2.2.2 (184 + xN S 0) n) 5 2 _ = _
  rw [va_up_ne _ _ (by omega), va_up_self]
theorem xE_mkL {Z : xz_T} {et : Nat → Nat} {S : xs_T} {n : Nat} (h5 : xN S 5 = 1) (i : Nat) (hi : i ≠ 184 + xN S 0) : xE Z et (mkL S n) i = xE Z et S i := by
  have hL : xL (mkL S n) i = xL S i := va_up_ne _ _ hi
  by_cases h : i < 64
  · exact xE_fixd h rfl rfl hL rfl
  · rw [xE_pool h, xE_pool h, hL]
    unfold xEp
    rw [xN_L0 (k := 0) (by decide) (by omega), xN_L0 (k := 1) (by decide) (by omega), xN_L0 (k := 2) (by decide) (by omega), xN_L5, h5]
    by_cases c1 : i < 184
    · rw [if_neg h, if_pos c1, if_neg h, if_pos c1]
      by_cases c2 : i < 64 + xN S 0
      · rw [if_pos c2, if_pos c2]; rfl
      · rw [if_neg c2, if_neg c2]
        by_cases c3 : i = 64 + xN S 0
        · rw [if_pos ⟨c3, by decide⟩, if_pos ⟨c3, by decide⟩]; rfl
        · rw [if_neg (fun q => c3 q.1), if_neg (fun q => c3 q.1)]
    · rw [if_neg h, if_neg c1, if_neg h, if_neg c1, xN_L0 (k := i) (by omega) hi]
      by_cases c2 : i < 304
      · rw [if_pos c2, if_pos c2]
        by_cases c3 : i < 184 + xN S 0
        · rw [if_pos (Or.inl c3), if_pos (Or.inl c3)]
        · rw [if_neg (by omega), if_neg (by omega)]
      · rw [if_neg c2, if_neg c2]
        by_cases c4 : i < 704
        · rw [if_pos c4, if_pos c4]; rfl
        · rw [if_neg c4, if_neg c4]
theorem xE_cells {Z : xz_T} {et : Nat → Nat} {S : xs_T} {n : Nat} (hb : xN S 0 < 120) : xE Z et (mkL S n) (184 + xN S 0) = al Z n (fun _ => 0) := by
  rw [xE_pool (by omega)]
  unfold xEp
  rw [if_neg (by omega), if_neg (by omega), if_pos (by omega), xN_L0 (k := 0) (by decide) (by omega), xN_L5, if_pos (Or.inr ⟨rfl, rfl⟩), xN_Lv]
  have hL : xL (mkL S n) (184 + xN S 0) = fun _ => 0 := va_up_self _ _ _
  rw [hL]
theorem xN_E0 {S : xs_T} : xN (mkE S) 0 = xN S 0 + 1 := rfl
theorem xN_E5 {S : xs_T} : xN (mkE S) 5 = 0 := rfl
theorem xN_Ek {S : xs_T} {k : Nat} (h : k ≠ 5) (h2 : k ≠ 0) : xN (mkE S) k = xN S k := by
  show va_up (va_up S.2.2.2.2 0 _) 5 0 k = _
  rw [va_up_ne _ _ h, va_up_ne _ _ h2]; rfl
theorem xE_mkE {Z : xz_T} {et : Nat → Nat} {S : xs_T} (h5 : xN S 5 = 2) (i : Nat) (hi : i ≠ 64 + xN S 0) : xE Z et (mkE S) i = xE Z et S i := by
  by_cases h : i < 64
  · exact xE_fixd h rfl rfl rfl rfl
  · rw [xE_pool h, xE_pool h]
    unfold xEp
    rw [xN_E0, xN_E5, xN_Ek (k := 1) (by decide) (by decide), xN_Ek (k := 2) (by decide) (by decide), h5]
    by_cases c1 : i < 184
    · rw [if_neg h, if_pos c1, if_neg h, if_pos c1]
      by_cases c2 : i < 64 + xN S 0
      · rw [if_pos c2, if_pos (by omega)]; rfl
      · rw [if_neg c2, if_neg (by omega), if_neg (fun q => absurd q.2 (by decide)), if_neg (fun q => hi q.1)]
    · rw [if_neg h, if_neg c1, if_neg h, if_neg c1, xN_Ek (k := i) (by omega) (by omega)]
      by_cases c2 : i < 304
      · rw [if_pos c2, if_pos c2]
        by_cases c3 : i < 184 + xN S 0
        · rw [if_pos (Or.inl (by omega)), if_pos (Or.inl c3)]; rfl
        · by_cases c4 : i = 184 + xN S 0
          · rw [if_pos (Or.inl (by omega)), if_pos (Or.inr ⟨c4, rfl⟩)]; rfl
          · rw [if_neg (by omega), if_neg (by omega)]
      · rw [if_neg c2, if_neg c2]
        by_cases c4 : i < 704
        · rw [if_pos c4, if_pos c4]; rfl
        · rw [if_neg c4, if_neg c4]
theorem xE_whole {Z : xz_T} {et : Nat → Nat} {S : xs_T} (hb : xN S 0 < 120) : xE Z et (mkE S) (64 + xN S 0) = some (.inr (4, [.int (xF S (64 + xN S 0) 0), .ref (et (64 + xN S 0 + 120))])) := by
  rw [xE_pool (by omega)]
  unfold xEp
  rw [if_neg (by omega), if_pos (by omega), xN_E0, if_pos (by omega)]
  rfl
section XH
variable {p : Program} {l : Launch} {e : Env} {R : Room} {s : State} {m : MethodId} {args : Array Value} {below : List Frame} {meth : Method} {c : Code} {H : Heap} {locs : List Loc} {cells slots : Nat} {Q : State → Prop}
variable {cc : ByteArray} {pc nL : Nat} {ls : Array Slot} {rest : List Value} {Z : xz_T} {et : Nat → Nat} {S : xs_T} {c0 : Cond} {own : String}
theorem xw_newH (X : CallFix p m c cc nL s args (c0 :: TB) own) (hk : xk Z s) (hw : wd Z et S H) {index : Nat} (h5 : xN S 5 = 0) (hb : xN S 0 < 120) (hq : ∀ i k, xQ S i k ≠ some (64 + xN S 0)) (hcl : Cond.classLink own index RX5 ∈ TB) (hcells : cells + 1 ≤ R.cells) (hslots : slots + 2 ≤ R.slots) (hdg : decode cc pc = .ok (.new index, 3))
    (kk : ∀ (et1 : Nat → Nat) (H1 : Heap), xst Z et S et1 → wd Z et1 (mkH S) H1 → W p l e R s m args below meth c H1 locs (cells + 1) (slots + 2) Q (F0 m (pc + 3) ls (.ref (et1 (64 + xN S 0)) :: rest))) : W p l e R s m args below meth c H locs cells slots Q (F0 m pc ls rest) := by
  refine xg_new X hk (ci := 4) (fs := [.int 0, .null]) tlX5 tyX5 tyX5_ok hcl tw_299 tw_48 rfl (fun j hj => by rcases (show j = 0 ∨ j = 1 by omega) with rfl | rfl <;> rfl) hcells hslots hdg (fun H1 he z oq => ?_)
  have hn : xE Z et S (64 + xN S 0) = none := by
    rw [xE_pool (by omega)]
    unfold xEp
    rw [if_neg (by omega), if_pos (by omega), if_neg (by omega), if_neg (by omega)]
  obtain ⟨h1, h2⟩ := wd.grow (S' := mkH S) hw (by omega) hq (fun i a1 a2 a3 => by omega) hn he z oq (fun et' => Or.inl (by
    have := xE_half (Z := Z) (et := et') (S := mkH S) (Nat.le_refl 1) hb
    rw [xN_H (by decide)] at this
    rw [this]
    simp [xF, mkH, va_up])) (fun et' i hi => xE_mkH h5 i hi)
  have := kk _ H1 h2 h1
  rw [va_up_self] at this
  exact this
theorem xw_newL (X : CallFix p m c cc nL s args (c0 :: TB) own) (hk : xk Z s) (hw : wd Z et S H) {n : Nat} {x : Int32} (h5 : xN S 5 = 1) (hb : xN S 0 < 120) (hq : ∀ i k, xQ S i k ≠ some (184 + xN S 0)) (hx : x = nI n) (hn : n ≤ 64) (hcells : cells + 1 ≤ R.cells) (hslots : slots + n ≤ R.slots) (hdg : decode cc pc = .ok (.newarray .long, 2))
    (kk : ∀ (et1 : Nat → Nat) (H1 : Heap), xst Z et S et1 → wd Z et1 (mkL S n) H1 → W p l e R s m args below meth c H1 locs (cells + 1) (slots + n) Q (F0 m (pc + 2) ls (.ref (et1 (184 + xN S 0)) :: rest))) : W p l e R s m args below meth c H locs cells slots Q (F0 m pc ls (.int x :: rest)) := by
  subst hx
  refine va_newaK (atype := .long) X.1 X.2.1 (X.2.2.2.2 _ (List.mem_cons_of_mem _ tw_95)) rfl hdg rfl (nI_pos (by omega)) (nI_clamp (by omega)) (by show n * 8 ≤ _; omega) hcells hslots rfl fun H1 cA e1 z1 o1 hAr hNm => ?_
  have hcA : cA = Z.2.1 1 := Option.some.inj (hNm.symm.trans (hk.1.2 1 _ rfl).2)
  subst hcA
  have hno : xE Z et S (184 + xN S 0) = none := by
    rw [xE_pool (by omega)]
    unfold xEp
    rw [if_neg (by omega), if_neg (by omega), if_pos (by omega), if_neg (by omega)]
  obtain ⟨h1, h2⟩ := wd.grow (S' := mkL S n) (e := .inl (Z.2.1 1, n, .inr (.inl (fun _ => 0)))) hw (by omega) hq (fun i a1 a2 a3 => by omega) hno e1 z1 o1 (fun et' => Or.inl (xE_cells hb)) (fun et' i hi => xE_mkL h5 i hi)
  have := kk _ H1 h2 h1
  rw [va_up_self] at this
  exact this
end XH
def v_X5_init (u0 : Nat) (x1 x2 : Int32) (S : xs_T) (K : xs_T → Prop) : Prop := xN S 5 = 1 ∧ u0 = 64 + xN S 0 ∧ xN S 0 < 120 ∧ (∀ i k, xQ S i k ≠ some (184 + xN S 0)) ∧ ∃ j : Nat, x2 = nI j ∧ j ≤ 64 ∧ K (mkE (mkL (sF S u0 0 x1) j))
set_option maxHeartbeats 4000000 in
set_option maxRecDepth 100000 in
theorem c_X5_init (l : Launch) (Z : xz_T) (et : Nat → Nat) (S : xs_T) (u0 : Nat) (x1 x2 : Int32) (K : xs_T → Prop) (h : v_X5_init u0 x1 x2 S K) : Met l yX5_init (wq yX5_init cX5_init 3 none) { frames := 2, cells := 1, slots := 64, locals := 50 } (xPc Z et S [.ref (et (u0)), .int (x1), .int (x2)]) (xAv Z et S K) 1 64 (fun q => Z.2.2.1 ≤ q) := by
  refine Met.ofW (cc := cX5_init) (maxL := 3) (ret := none) (by decide +kernel) rfl ?_
  intro p e s m args below meth c s₁ B hml hv0
  obtain ⟨rfl, hk, hw⟩ := hv0
  have X : CallFix p m c cX5_init 3 s _ (wq yX5_init cX5_init 3 none) RX5 := ⟨B.exec, B.bytes, hml, findClass_of_methodNamed B.named, atoms_spec (ws := (wq yX5_init cX5_init 3 none)) B.pre⟩
  have hr := B.returns
  have hlocks := B.notSynchronized
  have hin : meth.name = "<init>" := (name_of_methodNamed B.named B.method).1
  have hl : xl Z [] := fun _ h => by cases h
  have hv := lv_entry [.ref (et (u0)), .int (x1), .int (x2)] (n := 3) (Nat.le_of_ble_eq_true rfl)
  rw [lg_entry_eq]
  generalize (lg_sl [.ref (et (u0)), .int (x1), .int (x2)] ++ List.replicate (3 - (lg_sl [.ref (et (u0)), .int (x1), .int (x2)]).length) Slot.unset).toArray = ls at hv ⊢
  replace hv : lv_has ls 3 [(0, .ref (et (u0))), (1, .int (x1)), (2, .int (x2))] := hv
  obtain ⟨h5, hu, hb, hq, j, hj, hj64, h⟩ := h
  refine lv_aload_n X.1 X.2.1 dX5_init_0 rfl (lv_at hv 0 rfl) ?_
  refine xc_v (xr_IN (n := 0) (As := []) (i := u0) X hk hw hv.1 (c_X7_init l Z et S u0 (fun S1 => S1 = S) rfl) (tb_wq tw_327) tw_47 xn_16 tw_326 rfl rfl rfl (by decide +kernel) ⟨Nat.le_of_ble_eq_true rfl, Nat.le_of_ble_eq_true rfl⟩ rfl (Nat.le_of_ble_eq_true rfl) dX5_init_1 ⟨Nat.le_of_ble_eq_true rfl, Nat.le_of_ble_eq_true rfl⟩) hl (fun S1 H locs hS1 hN hw2 hl2 => ?_)
  subst hS1
  refine lv_aload_n X.1 X.2.1 dX5_init_4 rfl (lv_at hv 0 rfl) ?_
  refine lv_iload_n X.1 X.2.1 dX5_init_5 rfl (lv_at hv 1 rfl) ?_
  have hE : xE Z et S1 u0 = some (.inr (4, [.int (xF S1 u0 0), .null])) := by rw [hu]; exact xE_half (by omega) hb
  refine xg_putF (G := xE Z et S1) X hk hw2 hl2 hin (i := u0) (v := .int x1) 0 hE rfl tlX5 tyX5 tyX5_ok nmX5 (by decide) tw_329 rfl rfl rfl rfl (Nat.le_of_ble_eq_true rfl) dX5_init_6 (fun H locs hw hl => ?_)
  obtain ⟨S2, e2⟩ : ∃ T : xs_T, T = sF S1 u0 0 x1 := ⟨_, rfl⟩
  have hN2 : S2.2.2.2.2 = S1.2.2.2.2 := by rw [e2]; rfl
  have n2 : ∀ k, xN S2 k = xN S1 k := fun k => by unfold xN; rw [hN2]
  have f2 : xF S2 u0 0 = x1 := by rw [e2]; simp [xF, sF, va_up]
  have q2 : ∀ i k, xQ S2 i k = xQ S1 i k := fun i k => by rw [e2]; rfl
  have hE1 : xE Z et S2 u0 = some (.inr (4, [.int x1, .null])) := by
    have := xE_half (Z := Z) (et := et) (S := S2) (by rw [n2]; omega) (by rw [n2]; exact hb)
    rw [n2, ← hu, f2] at this
    exact this
  have hw : wd Z et S2 H := ww.at hw hE1 (fun i hi => by rw [e2]; exact xE_F hi)
  have hdm : ∀ i, xE Z et S1 i ≠ none → xE Z et S2 i ≠ none := fun i hi => by
    by_cases q : i = u0
    · rw [q]; exact sn_ne hE1
    · rw [e2, xE_F q]; exact hi
  rw [← e2] at h
  refine lv_aload_n X.1 X.2.1 dX5_init_9 rfl (lv_at hv 0 rfl) ?_
  refine lv_iload_n X.1 X.2.1 dX5_init_10 rfl (lv_at hv 2 rfl) ?_
  refine xw_newL X hk hw (n := j) (by rw [n2]; exact h5) (by rw [n2]; exact hb) (fun i k => by rw [q2, n2]; exact hq i k) hj hj64 (Nat.le_of_ble_eq_true rfl) (by show 0 + j ≤ 64; omega) dX5_init_11 (fun et1 H hs1 hw => ?_)
  have e0 := hs1 u0 (sn_ne hE1)
  rw [n2]
  refine W.eq (g2 := F0 m 13 ls [.ref (et1 (184 + xN S1 0)), .ref (et1 u0)]) (by rw [e0]) ?_
  obtain ⟨S3, e3⟩ : ∃ T : xs_T, T = mkL S2 j := ⟨_, rfl⟩
  have n3 : ∀ k, k ≠ 5 → k ≠ 184 + xN S1 0 → xN S3 k = xN S1 k := fun k a1 a2 => by rw [e3, xN_L0 a1 (by rw [n2]; exact a2), n2]
  have n35 : xN S3 5 = 2 := by rw [e3]; rfl
  have n30 : xN S3 0 = xN S1 0 := n3 0 (by decide) (by omega)
  have f3 : xF S3 u0 0 = x1 := by rw [e3]; exact f2
  rw [← e3] at hw h
  have hE2 : xE Z et1 S3 u0 = some (.inr (4, [.int x1, .null])) := by
    have := xE_half (Z := Z) (et := et1) (S := S3) (by rw [n35]; decide) (by rw [n30]; exact hb)
    rw [n30, ← hu, f3] at this
    exact this
  refine xg_putF (G := xE Z et1 S3) X hk hw hl hin (i := u0) (v := .ref (et1 (184 + xN S1 0))) 1 hE2 rfl tlX5 tyX5 tyX5_ok nmX5 (by decide) tw_331 rfl rfl rfl rfl (Nat.le_of_ble_eq_true rfl) dX5_init_13 (fun H locs hw hl => ?_)
  have hw : wd Z et1 (mkE S3) H := ww.at hw (by
    have hx := xE_whole (Z := Z) (et := et1) (S := S3) (by rw [n30]; exact hb)
    rw [n30, ← hu, f3, show u0 + 120 = 184 + xN S1 0 by omega] at hx
    exact hx) (fun i hi => xE_mkE n35 i (by rw [n30, ← hu]; exact hi))
  refine W.widen (k := 1) (n := 64) (by omega) (by omega) ?_
  refine xt_av X hr hlocks (fun i hi => hs1 i (hdm i hi)) ⟨?_, ?_, ?_, rfl, ?_⟩ hw hl h dX5_init_16
  · rw [xN_E0, n30]; omega
  · rw [xN_Ek (by decide) (by decide), n3 1 (by decide) (by omega)]; exact Nat.le_refl _
  · rw [xN_Ek (by decide) (by decide), n3 2 (by decide) (by omega)]; exact Nat.le_refl _
  · intro i a1 a2
    rw [xN_Ek (by omega) (by omega), n3 i (by omega) (by omega)]
