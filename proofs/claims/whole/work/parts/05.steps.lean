theorem cp_nat : Cond.native arraycopyName ∈ TB := tw_232
theorem cp_stat : Cond.static arraycopyName ∈ TB := tw_231
theorem cp_ini : Cond.initialized "java/lang/System" ∈ TB := tw_45
/-! INSTRUCTIONS OVER THE WORLD -/
section XI
variable {p : Program} {l : Launch} {e : Env} {R : Room} {s : State} {m : MethodId} {args : Array Value} {below : List Frame} {meth : Method} {c : Code} {H : Heap} {locs : List Loc} {cells slots : Nat} {Q : State → Prop}
variable {cc : ByteArray} {pc nL : Nat} {ls : Array Slot} {rest : List Value} {Z : xz_T} {et : Nat → Nat} {G : Nat → Option va_E} {S : xs_T} {c0 : Cond} {own : String}
theorem xg_get (X : CallFix p m c cc nL s args (c0 :: TB) own) (hk : xk Z s) (hw : ww Z et G H) {C : String} {T : u_T} {N ci index i : Nat} (k : Nat) {fs : List Value} {v : Value} (hE : G i = some (.inr (ci, fs))) (hc : vwCl[ci]? = some (C, T, N)) (hin : ∀ w ∈ u_ws C T N, w ∈ TB) (hkN : k < N) (hv : fs[k]? = some v) (hlink : Cond.fieldLink own index (T k).1 (T k).2.1 (T k).2.2.1 ∈ TB) (hdg : decode cc pc = .ok (.getfield index, 3))
    (kk : W p l e R s m args below meth c H locs cells slots Q (F0 m (pc + 3) ls (v :: rest))) : W p l e R s m args below meth c H locs cells slots Q (F0 m pc ls (.ref (et i) :: rest)) :=
  va_get X.1 X.2.1 X.2.2.2.2 (fun w h => List.mem_cons_of_mem _ (hin w h)) X.2.2.2.1 hk.1 (hw.P1 hE) 0 rfl hc k hkN (X.2.2.2.2 _ (List.mem_cons_of_mem _ hlink)) (fun _ h => h) hv hdg kk
theorem xg_getN (X : CallFix p m c cc nL s args (c0 :: TB) own) (hk : xk Z s) (hw : ww Z et G H) {C host : String} {T : u_T} {N ci index i : Nat} (k : Nat) {fs : List Value} {v : Value} (hE : G i = some (.inr (ci, fs))) (hc : vwCl[ci]? = some (C, T, N)) (hin : ∀ w ∈ u_ws C T N, w ∈ TB) (hkN : k < N) (hv : fs[k]? = some v) (hlink : Cond.fieldLinkNest own index (T k).1 (T k).2.1 (T k).2.2.1 host ∈ xk_ng) (hdg : decode cc pc = .ok (.getfield index, 3))
    (kk : W p l e R s m args below meth c H locs cells slots Q (F0 m (pc + 3) ls (v :: rest))) : W p l e R s m args below meth c H locs cells slots Q (F0 m pc ls (.ref (et i) :: rest)) :=
  va_getN X.1 X.2.1 X.2.2.2.2 (fun w h => List.mem_cons_of_mem _ (hin w h)) X.2.2.2.1 hk.1 (hw.P1 hE) 0 rfl hc k hkN (va_Nw.use rfl (hk.2.1 _ hlink)) (fun _ h => h) hv hdg kk
theorem xg_put (X : CallFix p m c cc nL s args (c0 :: TB) own) (hk : xk Z s) (hw : ww Z et G H) (hl : xl Z locs) {C : String} {T : u_T} {N ci index i : Nat} (k : Nat) {fs : List Value} {v : Value} (hE : G i = some (.inr (ci, fs))) (hc : vwCl[ci]? = some (C, T, N)) (hin : ∀ w ∈ u_ws C T N, w ∈ TB) (ty0 : Nat → FieldType) (hty : ∀ k, k < N → parseFieldDescriptor (T k).2.2.1 = some (ty0 k)) (hnm : ∀ a, a < N → ∀ b, b < N → a ≠ b → (T a).2.1 ≠ (T b).2.1) (hkN : k < N) (hlink : Cond.fieldLink own index (T k).1 (T k).2.1 (T k).2.2.1 ∈ TB) (hfin : (T k).2.2.2 = false) (hn : narrow (ty0 k) v = v) (hfit : fits (ty0 k) v = true) (hlk : k < fs.length) (hdg : decode cc pc = .ok (.putfield index, 3))
    (kk : ∀ (H1 : Heap) (locs1 : List Loc), ww Z et (va_up G i (some (.inr (ci, fs.set k v)))) H1 → xl Z locs1 → W p l e R s m args below meth c H1 locs1 cells slots Q (F0 m (pc + 3) ls rest)) : W p l e R s m args below meth c H locs cells slots Q (F0 m pc ls (v :: .ref (et i) :: rest)) := by
  have hts := X.2.2.2.2
  have hin' : ∀ w ∈ u_ws C T N, w ∈ (c0 :: TB) := fun w h => List.mem_cons_of_mem _ (hin w h)
  have hap := va_apart (own := own) hts hin' ty0 hty hnm hk.1 hc
  obtain ⟨r, h1, cell, q1, q2, q3, q4⟩ := (hw.1 i _ hE).2
  have hr : r = (C, T, N) := Option.some.inj (h1.symm.trans hc)
  subst hr
  obtain ⟨hS, hfc, kC, hkC, hkind⟩ := hk.1.1 ci _ hc
  obtain ⟨cf, kf, fi, f, hi, hsl⟩ := hS k hkN
  have hlay := hts _ (hin' _ (u_in_lay hkN))
  unfold u_lay at hlay
  rw [if_neg (by rw [hfin]; decide)] at hlay
  have hst := (u_facts hfc hkC (u_lays hts hin' hkN) hi).1
  have h6 := u_store hfc hkC hkind hlay hi (hty k hkN) hn hfit
  refine W.putK X.1 X.2.1 (f := f) ⟨X.2.2.2.1, hts _ (List.mem_cons_of_mem _ hlink), ⟨_, _, _, hi⟩, hst⟩ (by rw [q2]; exact h6) q1 q3 (by rw [hsl]; exact k2_hasslot (q4 k hkN)) rfl rfl hdg fun H' e1 e2 e3 => ?_
  rw [hsl] at e1 ⊢
  exact kk H' _ (hw.set hE ⟨_, hc, t_OB.to (V := updV (vp_V fs) k v) ⟨_, e1, q2, q3, t_set q4 hap hkN v⟩ (fun j _ => vp_updV_set hlk v j)⟩ e2 e3) (t_lc hl (hw.1 i _ hE).1)
theorem xg_putN (X : CallFix p m c cc nL s args (c0 :: TB) own) (hk : xk Z s) (hw : ww Z et G H) (hl : xl Z locs) {C host : String} {T : u_T} {N ci index i : Nat} (k : Nat) {fs : List Value} {v : Value} (hE : G i = some (.inr (ci, fs))) (hc : vwCl[ci]? = some (C, T, N)) (hin : ∀ w ∈ u_ws C T N, w ∈ TB) (ty0 : Nat → FieldType) (hty : ∀ k, k < N → parseFieldDescriptor (T k).2.2.1 = some (ty0 k)) (hnm : ∀ a, a < N → ∀ b, b < N → a ≠ b → (T a).2.1 ≠ (T b).2.1) (hkN : k < N) (hlink : Cond.fieldLinkNest own index (T k).1 (T k).2.1 (T k).2.2.1 host ∈ xk_ng) (hfin : (T k).2.2.2 = false) (hn : narrow (ty0 k) v = v) (hfit : fits (ty0 k) v = true) (hlk : k < fs.length) (hdg : decode cc pc = .ok (.putfield index, 3))
    (kk : ∀ (H1 : Heap) (locs1 : List Loc), ww Z et (va_up G i (some (.inr (ci, fs.set k v)))) H1 → xl Z locs1 → W p l e R s m args below meth c H1 locs1 cells slots Q (F0 m (pc + 3) ls rest)) : W p l e R s m args below meth c H locs cells slots Q (F0 m pc ls (v :: .ref (et i) :: rest)) := by
  have hts := X.2.2.2.2
  have hin' : ∀ w ∈ u_ws C T N, w ∈ (c0 :: TB) := fun w h => List.mem_cons_of_mem _ (hin w h)
  have hap := va_apart (own := own) hts hin' ty0 hty hnm hk.1 hc
  obtain ⟨r, h1, cell, q1, q2, q3, q4⟩ := (hw.1 i _ hE).2
  have hr : r = (C, T, N) := Option.some.inj (h1.symm.trans hc)
  subst hr
  obtain ⟨hS, hfc, kC, hkC, hkind⟩ := hk.1.1 ci _ hc
  obtain ⟨cf, kf, fi, f, hi, hsl⟩ := hS k hkN
  have hlay := hts _ (hin' _ (u_in_lay hkN))
  unfold u_lay at hlay
  rw [if_neg (by rw [hfin]; decide)] at hlay
  have hst := (u_facts hfc hkC (u_lays hts hin' hkN) hi).1
  have h6 := u_store hfc hkC hkind hlay hi (hty k hkN) hn hfit
  refine va_WputK X.1 X.2.1 (f := f) X.2.2.2.1 (va_Nw.use rfl (hk.2.1 _ hlink)) hi hst (by rw [q2]; exact h6) q1 q3 (by rw [hsl]; exact k2_hasslot (q4 k hkN)) rfl rfl hdg fun H' e1 e2 e3 => ?_
  rw [hsl] at e1 ⊢
  exact kk H' _ (hw.set hE ⟨_, hc, t_OB.to (V := updV (vp_V fs) k v) ⟨_, e1, q2, q3, t_set q4 hap hkN v⟩ (fun j _ => vp_updV_set hlk v j)⟩ e2 e3) (t_lc hl (hw.1 i _ hE).1)
theorem xg_putF (X : CallFix p m c cc nL s args (c0 :: TB) own) (hk : xk Z s) (hw : ww Z et G H) (hl : xl Z locs) (hin2 : meth.name = "<init>") {C : String} {T : u_T} {N ci index i : Nat} (k : Nat) {fs : List Value} {v : Value} (hE : G i = some (.inr (ci, fs))) (hc : vwCl[ci]? = some (C, T, N)) (hin : ∀ w ∈ u_ws C T N, w ∈ TB) (ty0 : Nat → FieldType) (hty : ∀ k, k < N → parseFieldDescriptor (T k).2.2.1 = some (ty0 k)) (hnm : ∀ a, a < N → ∀ b, b < N → a ≠ b → (T a).2.1 ≠ (T b).2.1) (hkN : k < N) (hlink : Cond.fieldLink own index (T k).1 (T k).2.1 (T k).2.2.1 ∈ TB) (hfin : (T k).2.2.2 = true) (hdecl : (T k).1 = own) (hn : narrow (ty0 k) v = v) (hfit : fits (ty0 k) v = true) (hlk : k < fs.length) (hdg : decode cc pc = .ok (.putfield index, 3))
    (kk : ∀ (H1 : Heap) (locs1 : List Loc), ww Z et (va_up G i (some (.inr (ci, fs.set k v)))) H1 → xl Z locs1 → W p l e R s m args below meth c H1 locs1 cells slots Q (F0 m (pc + 3) ls rest)) : W p l e R s m args below meth c H locs cells slots Q (F0 m pc ls (v :: .ref (et i) :: rest)) := by
  have hts := X.2.2.2.2
  have hown := X.2.2.2.1
  have hin' : ∀ w ∈ u_ws C T N, w ∈ (c0 :: TB) := fun w h => List.mem_cons_of_mem _ (hin w h)
  have hap := va_apart (own := own) hts hin' ty0 hty hnm hk.1 hc
  obtain ⟨r, h1, cell, q1, q2, q3, q4⟩ := (hw.1 i _ hE).2
  have hr : r = (C, T, N) := Option.some.inj (h1.symm.trans hc)
  subst hr
  obtain ⟨hS, hfc, kC, hkC, hkind⟩ := hk.1.1 ci _ hc
  obtain ⟨cf, kf, fi, f, hi, hsl⟩ := hS k hkN
  have hlay := hts _ (hin' _ (u_in_lay hkN))
  unfold u_lay at hlay
  rw [if_pos hfin] at hlay
  have hst := (u_facts hfc hkC (u_lays hts hin' hkN) hi).1
  have hcf : m.cls = cf := by
    obtain ⟨_, _, c', _, _, _, -, -, hf', -, -, -, hown2, -⟩ := Cond.laysFinal_spec hlay
    have e1 : c' = cf := by have := hi.symm.trans hf'; simp at this; exact this.1.symm
    rw [hdecl] at hown2
    rw [← e1]; exact Option.some.inj (hown.symm.trans hown2)
  have h6 := u_fits hfc hkC hkind (Or.inr hlay) hi (hty k hkN) hn hfit
  refine W.putFinK X.1 X.2.1 hown (hts _ (List.mem_cons_of_mem _ hlink)) hi hst hcf hin2 (by rw [q2]; exact h6) q1 q3 (by rw [hsl]; exact k2_hasslot (q4 k hkN)) rfl rfl hdg fun H' e1 e2 e3 => ?_
  rw [hsl] at e1 ⊢
  exact kk H' _ (hw.set hE ⟨_, hc, t_OB.to (V := updV (vp_V fs) k v) ⟨_, e1, q2, q3, t_set q4 hap hkN v⟩ (fun j _ => vp_updV_set hlk v j)⟩ e2 e3) (t_lc hl (hw.1 i _ hE).1)
/-- int rows -/
theorem xg_ild (X : CallFix p m c cc nL s args (c0 :: TB) own) (hk : xk Z s) (hw : ww Z et G H) {i n j : Nat} {f : Nat → Int32} {x : Int32} (hE : G i = some (.inl (Z.2.1 0, n, .inl f))) (hx : x = nI j) (hj : j < n) (hn : n < 2 ^ 31) (hdg : decode cc pc = .ok (.iaload, 1))
    (kk : W p l e R s m args below meth c H locs cells slots Q (F0 m (pc + 1) ls (.int (f j) :: rest))) : W p l e R s m args below meth c H locs cells slots Q (F0 m pc ls (.int x :: .ref (et i) :: rest)) := by
  subst hx
  refine va_iald X.1 X.2.1 hk.1 (hw.P1 hE) 0 0 rfl rfl (vp_in_nI hj hn) hdg ?_
  rw [nI_clamp (by omega)]
  exact kk
theorem xg_lld (X : CallFix p m c cc nL s args (c0 :: TB) own) (hk : xk Z s) (hw : ww Z et G H) {i n j : Nat} {f : Nat → Int64} {x : Int32} (hE : G i = some (.inl (Z.2.1 1, n, .inr (.inl f)))) (hx : x = nI j) (hj : j < n) (hn : n < 2 ^ 31) (hdg : decode cc pc = .ok (.laload, 1))
    (kk : W p l e R s m args below meth c H locs cells slots Q (F0 m (pc + 1) ls (.long (f j) :: rest))) : W p l e R s m args below meth c H locs cells slots Q (F0 m pc ls (.int x :: .ref (et i) :: rest)) := by
  subst hx
  refine va_lald X.1 X.2.1 hk.1 (hw.P1 hE) 0 1 rfl rfl (vp_in_nI hj hn) hdg ?_
  rw [nI_clamp (by omega)]
  exact kk
theorem xg_ist (X : CallFix p m c cc nL s args (c0 :: TB) own) (hk : xk Z s) (hw : ww Z et G H) (hl : xl Z locs) {i n j : Nat} {f : Nat → Int32} {x y : Int32} (hE : G i = some (.inl (Z.2.1 0, n, .inl f))) (hx : x = nI j) (hj : j < n) (hn : n < 2 ^ 31) (hdg : decode cc pc = .ok (.iastore, 1))
    (kk : ∀ (H1 : Heap) (locs1 : List Loc), ww Z et (va_up G i (some (.inl (Z.2.1 0, n, .inl (va_up f j y))))) H1 → xl Z locs1 → W p l e R s m args below meth c H1 locs1 cells slots Q (F0 m (pc + 1) ls rest)) : W p l e R s m args below meth c H locs cells slots Q (F0 m pc ls (.int y :: .int x :: .ref (et i) :: rest)) := by
  subst hx
  have hin := vp_in_nI hj hn
  have hc : (nI j).toNatClampNeg = j := nI_clamp (by omega)
  refine W.iast X.1 X.2.1 (hw.1 i _ hE).2 ((hk.1.2 0 _ rfl).1 n (fun j => .int (f j))) (fun q => by cases q) (by show ¬ (_ < 0 ∨ (arrV _ _ _).slots.size ≤ _); rw [arrV_size]; exact hin) rfl rfl hdg fun H1 e z oq => ?_
  rw [hc] at e ⊢
  refine kk H1 _ (hw.set hE ?_ z oq) (t_lc hl (hw.1 i _ hE).1)
  show H1[et i]? = some (vp_cell _ _)
  rw [e, vp_cell_i, vp_cell_i, arrV_store]
  congr 2
  funext q
  by_cases hq : q = j
  · subst hq
    simp [updV, va_up]
  · simp [updV, va_up, hq]
theorem xg_lst (X : CallFix p m c cc nL s args (c0 :: TB) own) (hk : xk Z s) (hw : ww Z et G H) (hl : xl Z locs) {i n j : Nat} {f : Nat → Int64} {x : Int32} {y : Int64} (hE : G i = some (.inl (Z.2.1 1, n, .inr (.inl f)))) (hx : x = nI j) (hj : j < n) (hn : n < 2 ^ 31) (hdg : decode cc pc = .ok (.lastore, 1))
    (kk : ∀ (H1 : Heap) (locs1 : List Loc), ww Z et (va_up G i (some (.inl (Z.2.1 1, n, .inr (.inl (va_up f j y)))))) H1 → xl Z locs1 → W p l e R s m args below meth c H1 locs1 cells slots Q (F0 m (pc + 1) ls rest)) : W p l e R s m args below meth c H locs cells slots Q (F0 m pc ls (.long y :: .int x :: .ref (et i) :: rest)) := by
  subst hx
  have hin := vp_in_nI hj hn
  have hc : (nI j).toNatClampNeg = j := nI_clamp (by omega)
  refine W.last X.1 X.2.1 (hw.1 i _ hE).2 ((hk.1.2 1 _ rfl).1 n (fun j => .long (f j))) (fun q => by cases q) (by show ¬ (_ < 0 ∨ (arrV _ _ _).slots.size ≤ _); rw [arrV_size]; exact hin) rfl rfl hdg fun H1 e z oq => ?_
  rw [hc] at e ⊢
  refine kk H1 _ (hw.set hE ?_ z oq) (t_lc hl (hw.1 i _ hE).1)
  show H1[et i]? = some (vp_cell _ _)
  rw [e, vp_cell_l, vp_cell_l, arrV_store]
  congr 2
  funext q
  by_cases hq : q = j
  · subst hq
    simp [updV, va_up]
  · simp [updV, va_up, hq]
theorem xg_len (X : CallFix p m c cc nL s args (c0 :: TB) own) (hk : xk Z s) (hw : ww Z et G H) {i n : Nat} {f : Nat → Int64} (hE : G i = some (.inl (Z.2.1 1, n, .inr (.inl f)))) (hdg : decode cc pc = .ok (.arraylength, 1))
    (kk : W p l e R s m args below meth c H locs cells slots Q (F0 m (pc + 1) ls (.int (nI n) :: rest))) : W p l e R s m args below meth c H locs cells slots Q (F0 m pc ls (.ref (et i) :: rest)) :=
  va_alen X.1 X.2.1 hk.1 (hw.P1 hE) 0 1 rfl rfl rfl hdg kk
/-- rows of references -/
theorem xg_qld (X : CallFix p m c cc nL s args (c0 :: TB) own) (hk : xk Z s) (hw : ww Z et G H) {i n j t0 : Nat} {cA : ClassId} {C : String} {f : Nat → Option Nat} {x : Int32} (hE : G i = some (.inl (cA, n, .inr (.inr (.inr (.inr f)))))) (ht : [(Z.2.1 0, FieldType.int), (Z.2.1 1, .long), (Z.2.1 2, .object RX7), (Z.2.1 3, .object RX3), (Z.2.1 4, .object RX5)][t0]? = some (cA, .object C)) (hx : x = nI j) (hj : j < n) (hn : n < 2 ^ 31) (hdg : decode cc pc = .ok (.aaload, 1))
    (kk : W p l e R s m args below meth c H locs cells slots Q (F0 m (pc + 1) ls (va_rf (f j) :: rest))) : W p l e R s m args below meth c H locs cells slots Q (F0 m pc ls (.int x :: .ref (et i) :: rest)) := by
  subst hx
  refine va_aldq X.1 X.2.1 hk.1 (hw.P1 hE) 0 t0 rfl ht (vp_in_nI hj hn) hdg ?_
  rw [nI_clamp (by omega)]
  exact kk
theorem xg_qst (X : CallFix p m c cc nL s args (c0 :: TB) own) (hk : xk Z s) (hw : ww Z et G H) (hl : xl Z locs) {i n j t0 ci u : Nat} {cA : ClassId} {E : String} {f : Nat → Option Nat} {x : Int32} {r : vw_C} {vs : List Value} (hE : G i = some (.inl (cA, n, .inr (.inr (.inr (.inr f)))))) (ht : [(Z.2.1 0, FieldType.int), (Z.2.1 1, .long), (Z.2.1 2, .object RX7), (Z.2.1 3, .object RX3), (Z.2.1 4, .object RX5)][t0]? = some (cA, .object E)) (hu : G u = some (.inr (ci, vs))) (hc : vwCl[ci]? = some r) (hca : Cond.castable r.1 E ∈ xk_ng) (hx : x = nI j) (hj : j < n) (hn : n < 2 ^ 31) (hdg : decode cc pc = .ok (.aastore, 1))
    (kk : ∀ (H1 : Heap) (locs1 : List Loc), ww Z et (va_up G i (some (.inl (cA, n, .inr (.inr (.inr (.inr (va_up f j (some (et u)))))))))) H1 → xl Z locs1 → W p l e R s m args below meth c H1 locs1 cells slots Q (F0 m (pc + 1) ls rest)) : W p l e R s m args below meth c H locs cells slots Q (F0 m pc ls (.ref (et u) :: .int x :: .ref (et i) :: rest)) := by
  subst hx
  have hcl : (nI j).toNatClampNeg = j := nI_clamp (by omega)
  have h0 : ¬ nI j < 0 := nI_pos (by omega)
  obtain ⟨r', hr', cellV, g1, g2, g3, -⟩ := (hw.1 u _ hu).2
  have hcls := (hk.1.1 ci r hc).2
  obtain ⟨kA, comp, k1, k2, k3, -⟩ := (hk.1.2 t0 _ ht).2
  obtain ⟨kE, hkE, -⟩ := Vm.findClass_spec k3
  obtain ⟨c0, t1, f1, f2, f3⟩ := Cond.castable_spec (va_Nw.use (A := args) rfl (hk.2.1 _ hca))
  cases hcls.1.symm.trans f1
  cases k3.symm.trans f2
  obtain ⟨kC, hkC, -⟩ := hcls.2
  refine W.aast X.1 X.2.1 (hw.1 i _ hE).2 (fun q h => by cases h) (fun h => by cases h) k1 k2 rfl hkE ⟨h0, by show _ < (arrV _ _ _).slots.size; rw [arrV_size, hcl]; exact hj⟩ g1 (fun q h => by rw [g3] at h; cases h) (by rw [g2]; exact hkC) (by rw [g2]; exact f3) rfl rfl hdg fun H1 e z oq => ?_
  rw [hcl] at e ⊢
  refine kk H1 _ (hw.set hE ?_ z oq) (t_lc hl (hw.1 i _ hE).1)
  show H1[et i]? = some (vp_cell _ _)
  rw [e, vp_cell_q, vp_cell_q, arrV_store]
  congr 2
  funext q
  by_cases hq : q = j
  · subst hq
    simp [updV, va_up, va_rf]
  · simp [updV, va_up, hq]
theorem xg_qsn (X : CallFix p m c cc nL s args (c0 :: TB) own) (hk : xk Z s) (hw : ww Z et G H) (hl : xl Z locs) {i n j t0 : Nat} {cA : ClassId} {E : String} {f : Nat → Option Nat} {x : Int32} (hE : G i = some (.inl (cA, n, .inr (.inr (.inr (.inr f)))))) (ht : [(Z.2.1 0, FieldType.int), (Z.2.1 1, .long), (Z.2.1 2, .object RX7), (Z.2.1 3, .object RX3), (Z.2.1 4, .object RX5)][t0]? = some (cA, .object E)) (hx : x = nI j) (hj : j < n) (hn : n < 2 ^ 31) (hdg : decode cc pc = .ok (.aastore, 1))
    (kk : ∀ (H1 : Heap) (locs1 : List Loc), ww Z et (va_up G i (some (.inl (cA, n, .inr (.inr (.inr (.inr (va_up f j none)))))))) H1 → xl Z locs1 → W p l e R s m args below meth c H1 locs1 cells slots Q (F0 m (pc + 1) ls rest)) : W p l e R s m args below meth c H locs cells slots Q (F0 m pc ls (.null :: .int x :: .ref (et i) :: rest)) := by
  subst hx
  have hin := vp_in_nI hj hn
  have hcl : (nI j).toNatClampNeg = j := nI_clamp (by omega)
  refine va_WaastN (C := E) X.1 X.2.1 (hw.1 i _ hE).2 ((hk.1.2 t0 _ ht).1 n (fun j => va_rf (f j))) (fun h => by cases h) (by show ¬ (_ < 0 ∨ (arrV _ _ _).slots.size ≤ _); rw [arrV_size]; exact hin) rfl rfl hdg fun H1 e z oq => ?_
  rw [hcl] at e ⊢
  refine kk H1 _ (hw.set hE ?_ z oq) (t_lc hl (hw.1 i _ hE).1)
  show H1[et i]? = some (vp_cell _ _)
  rw [e, vp_cell_q, vp_cell_q, arrV_store]
  congr 2
  funext q
  by_cases hq : q = j
  · subst hq
    simp [updV, va_up, va_rf]
  · simp [updV, va_up, hq]
theorem xg_cpy (X : CallFix p m c cc nL s args (c0 :: TB) own) (hk : xk Z s) (hw : ww Z et G H) (hl : xl Z locs) (hls : ls.size = nL) {i i2 n n2 sp dp k index : Nat} {f g : Nat → Int64} {x y z : Int32} (hE : G i = some (.inl (Z.2.1 1, n, .inr (.inl f)))) (hE2 : G i2 = some (.inl (Z.2.1 1, n2, .inr (.inl g)))) (hx : x = nI sp) (hy : y = nI dp) (hz : z = nI k) (h4 : sp + k ≤ n) (h5 : dp + k ≤ n2) (hn : n < 2 ^ 31) (hn2 : n2 < 2 ^ 31)
    (hlink : Cond.methodLink own index arraycopyName ∈ TB) (hframes : 1 ≤ R.frames) (hlocals : (rest.map fun v => v.category).sum + (nativeFrameWords "java/lang/System" "arraycopy" 5 + 11) ≤ R.locals) (hdg : decode cc pc = .ok (.invokestatic index, 3))
    (kk : ∀ (H1 : Heap) (locs1 : List Loc), ww Z et (va_up G i2 (some (.inl (Z.2.1 1, n2, .inr (.inl (va_cpy f g sp dp k)))))) H1 → xl Z locs1 → W p l e R s m args below meth c H1 locs1 cells slots Q (F0 m (pc + 3) ls rest)) : W p l e R s m args below meth c H locs cells slots Q (F0 m pc ls (.int z :: .int y :: .ref (et i2) :: .int x :: .ref (et i) :: rest)) := by
  subst hx
  subst hy
  subst hz
  have hts := X.2.2.2.2
  have c1 : (nI sp).toNatClampNeg = sp := nI_clamp (by omega)
  have c2 : (nI dp).toNatClampNeg = dp := nI_clamp (by omega)
  have c3 : (nI k).toNatClampNeg = k := nI_clamp (by omega)
  have p1 : ¬ nI sp < 0 := nI_pos (by omega)
  have p2 : ¬ nI dp < 0 := nI_pos (by omega)
  have p3 : ¬ nI k < 0 := nI_pos (by omega)
  have i1 : (nI sp).toInt = (sp : Int) := nI_toInt (by omega)
  have i2' : (nI dp).toInt = (dp : Int) := nI_toInt (by omega)
  have i3 : (nI k).toInt = (k : Int) := nI_toInt (by omega)
  intro T hT X1
  have hc0 : H[et i]? = some (vp_cell (Z.2.1 1) (n, .inr (.inl f))) := (hw.1 i _ hE).2
  have hc1 : H[et i2]? = some (vp_cell (Z.2.1 1) (n2, .inr (.inl g))) := (hw.1 i2 _ hE2).2
  obtain ⟨-, k0, hk0, cm0, hkk0⟩ := (hk.1.2 1 _ rfl).1 n (fun j => .long (f j))
  obtain ⟨-, k1, hk1, cm1, hkk1⟩ := (hk.1.2 1 _ rfl).1 n2 (fun j => .long (g j))
  obtain ⟨vm', X', step⟩ := X1.arraycopy X.1 X.2.2.2.1 (hts _ (List.mem_cons_of_mem _ hlink)) (hts _ (List.mem_cons_of_mem _ cp_nat)) (hts _ (List.mem_cons_of_mem _ cp_stat)) (hts _ (List.mem_cons_of_mem _ cp_ini)) (src := et i) (dst := et i2) (cs := vp_cell (Z.2.1 1) (n, .inr (.inl f))) (cd := vp_cell (Z.2.1 1) (n2, .inr (.inl g))) (srcPos := nI sp) (destPos := nI dp) (n := nI k) (by rw [hT]; exact hc0) (by rw [hT]; exact hc1)
    (fun _ h => by cases h) (fun _ h => by cases h) (fun h => by cases h) (fun h => by cases h) hk0 hk1 hkk0 hkk1 (by simp [refKind]) p1 p2 p3
    (by rw [i1, i3]; show ¬ _ > ((arrV _ n (fun j => .long (f j))).slots.size : Int); rw [arrV_size]; omega)
    (by rw [i2', i3]; show ¬ _ > ((arrV _ n2 (fun j => .long (g j))).slots.size : Int); rw [arrV_size]; omega)
    (fun vm₁ _ i' hi => by
      rw [c3] at hi
      have e : (vp_cell (Z.2.1 1) (n, .inr (.inl f))).slots.getD ((nI sp).toNatClampNeg + i') .null = .long (f ((nI sp).toNatClampNeg + i')) := by
        show (arrV _ n (fun j => .long (f j))).slots.getD _ _ = _
        rw [Array.getD_eq_getD_getElem?, arrV_read _ _ (by omega)]
        rfl
      refine ⟨?_, ?_⟩
      · rw [e]
        rfl
      · rw [e]
        exact trivial)
    (g := F0 m pc ls (.int (nI k) :: .int (nI dp) :: .ref (et i2) :: .int (nI sp) :: .ref (et i) :: rest)) rfl (by rw [X.2.2.1]; exact hls) (rest := rest) rfl (by rw [X.2.1]; exact hdg) hframes (by show 2 * 0 + _ + _ ≤ _; omega)
  have e1 : copied (vp_cell (Z.2.1 1) (n, .inr (.inl f))) (vp_cell (Z.2.1 1) (n2, .inr (.inl g))) (nI sp) (nI dp) (nI k) = vp_cell (Z.2.1 1) (n2, .inr (.inl (va_cpy f g sp dp k))) := by
    show (arrV (Z.2.1 1) n2 (fun j => .long (g j))).storeRun (nI dp).toNatClampNeg ((arrV (Z.2.1 1) n (fun j => .long (f j))).stretch (nI sp).toNatClampNeg (nI k).toNatClampNeg) = _
    rw [c1, c2, c3]
    exact va_copied (fun z => .long z) (Z.2.1 1) (Z.2.1 1) f g h4
  rw [e1] at X' step
  have hlt : et i2 < H.size := (Array.getElem?_eq_some_iff.mp hc1).1
  have hheap : ((T.setVm vm').setCell (et i2) (vp_cell (Z.2.1 1) (n2, .inr (.inl (va_cpy f g sp dp k))))).heap = H.setIfInBounds (et i2) (vp_cell (Z.2.1 1) (n2, .inr (.inl (va_cpy f g sp dp k)))) := by rw [← hT]; rfl
  have oq : ∀ q : Nat, q ≠ et i2 → (H.setIfInBounds (et i2) (vp_cell (Z.2.1 1) (n2, .inr (.inl (va_cpy f g sp dp k)))))[q]? = H[q]? := fun q hq => by simp [Array.getElem?_setIfInBounds, Ne.symm hq]
  obtain ⟨t, a1, b1⟩ := kk _ _ (hw.set hE2 (show (H.setIfInBounds (et i2) _)[et i2]? = some _ by simp [Array.getElem?_setIfInBounds, hlt]) (by simp) oq) (fun q hq => by
      rcases List.mem_append.mp hq with h | h
      · exact hl q h
      · obtain ⟨z, -, hz⟩ := List.mem_map.mp h
        rw [← hz]
        exact (hw.1 i2 _ hE2).1) _ hheap X'
  exact ⟨t, step t a1, b1⟩
/-! CONTRACTS -/
def xPc (Z : xz_T) (et : Nat → Nat) (S : xs_T) (av : List Value) : Array Value → State → Prop := fun a U => a = av.toArray ∧ xk Z U ∧ wd Z et S U.heap
def xQi (Z : xz_T) (et : Nat → Nat) (Nn : Nat → Nat) (K : Int32 → xs_T → Prop) : Array Value → State → Outcome → State → Prop := fun _ _ o t => ∃ (r : Int32) (S' : xs_T), o = .returned (some (.int r)) ∧ K r S' ∧ S'.2.2.2.2 = Nn ∧ wd Z et S' t.heap
def xQl (Z : xz_T) (et : Nat → Nat) (Nn : Nat → Nat) (K : Int64 → xs_T → Prop) : Array Value → State → Outcome → State → Prop := fun _ _ o t => ∃ (r : Int64) (S' : xs_T), o = .returned (some (.long r)) ∧ K r S' ∧ S'.2.2.2.2 = Nn ∧ wd Z et S' t.heap
def xQv (Z : xz_T) (et : Nat → Nat) (Nn : Nat → Nat) (K : xs_T → Prop) : Array Value → State → Outcome → State → Prop := fun _ _ o t => ∃ S' : xs_T, o = .returned none ∧ K S' ∧ S'.2.2.2.2 = Nn ∧ wd Z et S' t.heap
def xQq (Z : xz_T) (et : Nat → Nat) (Nn : Nat → Nat) (K : Option Nat → xs_T → Prop) : Array Value → State → Outcome → State → Prop := fun _ _ o t => ∃ (r : Option Nat) (S' : xs_T), o = .returned (some (va_rf (r.map et))) ∧ K r S' ∧ S'.2.2.2.2 = Nn ∧ wd Z et S' t.heap
/-- rows, figures, cranks come, none goes; a row's length stays -/
def xgr (S S' : xs_T) : Prop := xN S 0 ≤ xN S' 0 ∧ xN S 1 ≤ xN S' 1 ∧ xN S 2 ≤ xN S' 2 ∧ xN S' 5 = 0 ∧ ∀ i, 184 ≤ i → i < 184 + xN S 0 → xN S' i = xN S i
/-- the numbers' addresses stay -/
def xst (Z : xz_T) (et : Nat → Nat) (S : xs_T) (et' : Nat → Nat) : Prop := ∀ i, xE Z et S i ≠ none → et' i = et i
def xAi (Z : xz_T) (et : Nat → Nat) (S : xs_T) (K : Int32 → xs_T → Prop) : Array Value → State → Outcome → State → Prop := fun _ _ o t => ∃ (r : Int32) (S' : xs_T) (et' : Nat → Nat), o = .returned (some (.int r)) ∧ K r S' ∧ xst Z et S et' ∧ xgr S S' ∧ wd Z et' S' t.heap
def xAv (Z : xz_T) (et : Nat → Nat) (S : xs_T) (K : xs_T → Prop) : Array Value → State → Outcome → State → Prop := fun _ _ o t => ∃ (S' : xs_T) (et' : Nat → Nat), o = .returned none ∧ K S' ∧ xst Z et S et' ∧ xgr S S' ∧ wd Z et' S' t.heap
def xAq (Z : xz_T) (et : Nat → Nat) (S : xs_T) (K : Option Nat → xs_T → Prop) : Array Value → State → Outcome → State → Prop := fun _ _ o t => ∃ (r : Option Nat) (S' : xs_T) (et' : Nat → Nat), o = .returned (some (va_rf (r.map et'))) ∧ K r S' ∧ xst Z et S et' ∧ xgr S S' ∧ wd Z et' S' t.heap
theorem xPc.blind {av : List Value} : FrameBlind (xPc Z et S av) := fun a U g mk h => ⟨h.1, xk.same (s := U) (U := U.calling g mk a) rfl h.2.1, h.2.2⟩
variable {mc ms : Nat} {st0 : List Value} {a : Array Value}
theorem xc_run {Qa : State → Outcome → State → Prop} (hr : va_Run p l e R s m args below meth c H locs cells slots mc ms (F0 m pc ls st0) rest Qa (fun q => Z.2.2.1 ≤ q)) (hl : xl Z locs)
    (kk : ∀ (v : Option Value) (st t : State) (locs1 : List Loc), Qa st (.returned v) t → xl Z locs1 → W p l e R s m args below meth c t.heap locs1 (cells + mc) (slots + ms) Q (F0 m (pc + 3) ls (v.toList ++ rest))) : W p l e R s m args below meth c H locs cells slots Q (F0 m pc ls st0) := by
  intro T hT X
  obtain ⟨v, st₀, t, T', L, h0, X', hL, e1, e2, hq, st⟩ := hr T hT X
  obtain ⟨t2, a1, b1⟩ := kk v st₀ t (locs ++ L) hq (t_lL hl hL) T' e1 X'
  exact ⟨t2, st t2 a1, b1⟩
theorem xc_i {Nn : Nat → Nat} {K : Int32 → xs_T → Prop} (hr : va_Run p l e R s m args below meth c H locs cells slots mc ms (F0 m pc ls st0) rest (xQi Z et Nn K a) (fun q => Z.2.2.1 ≤ q)) (hl : xl Z locs)
    (kk : ∀ (r : Int32) (S1 : xs_T) (H1 : Heap) (locs1 : List Loc), K r S1 → S1.2.2.2.2 = Nn → wd Z et S1 H1 → xl Z locs1 → W p l e R s m args below meth c H1 locs1 (cells + mc) (slots + ms) Q (F0 m (pc + 3) ls (.int r :: rest))) : W p l e R s m args below meth c H locs cells slots Q (F0 m pc ls st0) :=
  xc_run hr hl (fun v st t locs1 hq hl1 => by obtain ⟨r, S1, hv, hK, hN, hw⟩ := hq; cases hv; exact kk r S1 _ _ hK hN hw hl1)
theorem xc_l {Nn : Nat → Nat} {K : Int64 → xs_T → Prop} (hr : va_Run p l e R s m args below meth c H locs cells slots mc ms (F0 m pc ls st0) rest (xQl Z et Nn K a) (fun q => Z.2.2.1 ≤ q)) (hl : xl Z locs)
    (kk : ∀ (r : Int64) (S1 : xs_T) (H1 : Heap) (locs1 : List Loc), K r S1 → S1.2.2.2.2 = Nn → wd Z et S1 H1 → xl Z locs1 → W p l e R s m args below meth c H1 locs1 (cells + mc) (slots + ms) Q (F0 m (pc + 3) ls (.long r :: rest))) : W p l e R s m args below meth c H locs cells slots Q (F0 m pc ls st0) :=
  xc_run hr hl (fun v st t locs1 hq hl1 => by obtain ⟨r, S1, hv, hK, hN, hw⟩ := hq; cases hv; exact kk r S1 _ _ hK hN hw hl1)
theorem xc_v {Nn : Nat → Nat} {K : xs_T → Prop} (hr : va_Run p l e R s m args below meth c H locs cells slots mc ms (F0 m pc ls st0) rest (xQv Z et Nn K a) (fun q => Z.2.2.1 ≤ q)) (hl : xl Z locs)
    (kk : ∀ (S1 : xs_T) (H1 : Heap) (locs1 : List Loc), K S1 → S1.2.2.2.2 = Nn → wd Z et S1 H1 → xl Z locs1 → W p l e R s m args below meth c H1 locs1 (cells + mc) (slots + ms) Q (F0 m (pc + 3) ls rest)) : W p l e R s m args below meth c H locs cells slots Q (F0 m pc ls st0) :=
  xc_run hr hl (fun v st t locs1 hq hl1 => by obtain ⟨S1, hv, hK, hN, hw⟩ := hq; cases hv; exact kk S1 _ _ hK hN hw hl1)
theorem xc_q {Nn : Nat → Nat} {K : Option Nat → xs_T → Prop} (hr : va_Run p l e R s m args below meth c H locs cells slots mc ms (F0 m pc ls st0) rest (xQq Z et Nn K a) (fun q => Z.2.2.1 ≤ q)) (hl : xl Z locs)
    (kk : ∀ (r : Option Nat) (S1 : xs_T) (H1 : Heap) (locs1 : List Loc), K r S1 → S1.2.2.2.2 = Nn → wd Z et S1 H1 → xl Z locs1 → W p l e R s m args below meth c H1 locs1 (cells + mc) (slots + ms) Q (F0 m (pc + 3) ls (va_rf (r.map et) :: rest))) : W p l e R s m args below meth c H locs cells slots Q (F0 m pc ls st0) :=
  xc_run hr hl (fun v st t locs1 hq hl1 => by obtain ⟨r, S1, hv, hK, hN, hw⟩ := hq; cases hv; exact kk r S1 _ _ hK hN hw hl1)
theorem xc_ai {K : Int32 → xs_T → Prop} (hr : va_Run p l e R s m args below meth c H locs cells slots mc ms (F0 m pc ls st0) rest (xAi Z et S K a) (fun q => Z.2.2.1 ≤ q)) (hl : xl Z locs)
    (kk : ∀ (r : Int32) (S1 : xs_T) (et1 : Nat → Nat) (H1 : Heap) (locs1 : List Loc), K r S1 → xst Z et S et1 → xgr S S1 → wd Z et1 S1 H1 → xl Z locs1 → W p l e R s m args below meth c H1 locs1 (cells + mc) (slots + ms) Q (F0 m (pc + 3) ls (.int r :: rest))) : W p l e R s m args below meth c H locs cells slots Q (F0 m pc ls st0) :=
  xc_run hr hl (fun v st t locs1 hq hl1 => by obtain ⟨r, S1, et1, hv, hK, hst, hg, hw⟩ := hq; cases hv; exact kk r S1 et1 _ _ hK hst hg hw hl1)
theorem xc_av {K : xs_T → Prop} (hr : va_Run p l e R s m args below meth c H locs cells slots mc ms (F0 m pc ls st0) rest (xAv Z et S K a) (fun q => Z.2.2.1 ≤ q)) (hl : xl Z locs)
    (kk : ∀ (S1 : xs_T) (et1 : Nat → Nat) (H1 : Heap) (locs1 : List Loc), K S1 → xst Z et S et1 → xgr S S1 → wd Z et1 S1 H1 → xl Z locs1 → W p l e R s m args below meth c H1 locs1 (cells + mc) (slots + ms) Q (F0 m (pc + 3) ls rest)) : W p l e R s m args below meth c H locs cells slots Q (F0 m pc ls st0) :=
  xc_run hr hl (fun v st t locs1 hq hl1 => by obtain ⟨S1, et1, hv, hK, hst, hg, hw⟩ := hq; cases hv; exact kk S1 et1 _ _ hK hst hg hw hl1)
theorem xc_aq {K : Option Nat → xs_T → Prop} (hr : va_Run p l e R s m args below meth c H locs cells slots mc ms (F0 m pc ls st0) rest (xAq Z et S K a) (fun q => Z.2.2.1 ≤ q)) (hl : xl Z locs)
    (kk : ∀ (r : Option Nat) (S1 : xs_T) (et1 : Nat → Nat) (H1 : Heap) (locs1 : List Loc), K r S1 → xst Z et S et1 → xgr S S1 → wd Z et1 S1 H1 → xl Z locs1 → W p l e R s m args below meth c H1 locs1 (cells + mc) (slots + ms) Q (F0 m (pc + 3) ls (va_rf (r.map et1) :: rest))) : W p l e R s m args below meth c H locs cells slots Q (F0 m pc ls st0) :=
  xc_run hr hl (fun v st t locs1 hq hl1 => by obtain ⟨r, S1, et1, hv, hK, hst, hg, hw⟩ := hq; cases hv; exact kk r S1 et1 _ _ hK hst hg hw hl1)
variable {y : MethodName} {bytes : ByteArray} {maxL n index : Nat} {ret : Option FieldType} {rm : Room} {Qc : Array Value → State → Outcome → State → Prop} {free : Addr → Prop} {C : String}
theorem xr_V {As : List Value} {i ci : Nat} {q : vw_C} {fs : List Value} (X : CallFix p m c cc nL s args (c0 :: TB) own) (hk : xk Z s) (hw : wd Z et S H) (hls : ls.size = nL) (hM : Met l y (wq y bytes maxL ret) rm (xPc Z et S (.ref (et i) :: As)) Qc mc ms free) (hG : GoodIn (c0 :: TB) (wsV own index C y (wq y bytes maxL ret))) (hE : xE Z et S i = some (.inr (ci, fs))) (hc : vwCl[ci]? = some q) (hq : q.1 = C) (hrc : rm.cells = mc) (hrs : rm.slots = ms)
    (hd : y.cls = C ∧ y.cls ≠ "java/lang/invoke/MethodHandle" ∧ y.cls ≠ "java/lang/invoke/VarHandle" ∧ (parseMethodDescriptor y.desc).map (fun d => d.parameters.length) = some n) (hR : rm.frames + 1 ≤ R.frames ∧ 8 + (maxL + 11) + rm.locals ≤ R.locals) (hst : st0 = As.reverse ++ .ref (et i) :: rest) (hrm : (rest.map fun v => v.category).sum ≤ 8) (hdg : decode cc pc = .ok (.invokevirtual index, 3)) (hf : cells + mc ≤ R.cells ∧ slots + ms ≤ R.slots) (hnn : As.length = n := by rfl) :
    va_Run p l e R s m args below meth c H locs cells slots mc ms (F0 m pc ls st0) rest (Qc (Value.ref (et i) :: As).toArray) free := by
  subst hq
  exact va_runV X hM (cwV n X.2.2.2.2 hG rfl hrc hrs hd hR) ⟨xPc.blind, va_recv hk.1 (ww.P1 hw hE) hc (q0 := 0) rfl, fun U hU hW => ⟨rfl, hk.warm hW, by rw [hU]; exact hw⟩⟩ rfl hnn hls hst (lv_room hrm) hdg hf
theorem xr_S {As : List Value} (X : CallFix p m c cc nL s args (c0 :: TB) own) (hk : xk Z s) (hw : wd Z et S H) (hls : ls.size = nL) (hM : Met l y (wq y bytes maxL ret) rm (xPc Z et S As) Qc mc ms free) (hG : GoodIn (c0 :: TB) (va_wsS own index y (wq y bytes maxL ret))) (hrc : rm.cells = mc) (hrs : rm.slots = ms)
    (hd : y.cls ≠ "java/lang/invoke/MethodHandle" ∧ y.cls ≠ "java/lang/invoke/VarHandle" ∧ (parseMethodDescriptor y.desc).map (fun d => d.parameters.length) = some n) (hR : rm.frames + 1 ≤ R.frames ∧ 8 + (maxL + 11) + rm.locals ≤ R.locals) (hst : st0 = As.reverse ++ rest) (hrm : (rest.map fun v => v.category).sum ≤ 8) (hdg : decode cc pc = .ok (.invokestatic index, 3)) (hf : cells + mc ≤ R.cells ∧ slots + ms ≤ R.slots) (hnn : As.length = n := by rfl) :
    va_Run p l e R s m args below meth c H locs cells slots mc ms (F0 m pc ls st0) rest (Qc As.toArray) free :=
  va_runS X hM (va_cwS n X.2.2.2.2 hG rfl hrc hrs hd hR) ⟨xPc.blind, fun U hU hW => ⟨rfl, hk.warm hW, by rw [hU]; exact hw⟩⟩ rfl hnn hls hst (lv_room hrm) hdg hf
end XI
