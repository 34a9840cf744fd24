/-! CONSTRUCTORS: worlds as lists, at addresses that are variables -/
def wl (Z : xz_T) (rest tail : va_W) (H : Heap) : Prop := va_P Z.1 vwCl (rest ++ tail) H ∧ va_D (fun q => Z.2.2.1 ≤ q) (rest ++ tail) ∧ Z.2.2.1 ≤ H.size ∧ ∀ q : Nat, q < Z.2.2.1 → H[q]? = Z.2.2.2[q]?
theorem wl_ix {rest tail : va_W} {k : Nat} {x : Nat × va_E} (h : tail[k]? = some x) : (rest ++ tail)[rest.length + k]? = some x := by
  rw [List.getElem?_append_right (by omega), Nat.add_sub_cancel_left]
  exact h
theorem wl_st {rest tail : List (Nat × va_E)} {k : Nat} {x : Nat × va_E} : (rest ++ tail).set (rest.length + k) x = rest ++ tail.set k x := by
  rw [List.set_append, if_neg (by omega), Nat.add_sub_cancel_left]
theorem wl.lo {Z : xz_T} {rest tail : va_W} {H : Heap} (h : wl Z rest tail H) {k : Nat} {a : Nat} {e : va_E} (hk : tail[k]? = some (a, e)) : Z.2.2.1 ≤ a := h.2.1.2 _ _ (wl_ix hk)
theorem wl.at {Z : xz_T} {rest tail : va_W} {H : Heap} (h : wl Z rest tail H) {k : Nat} {a : Nat} {e : va_E} (hk : tail[k]? = some (a, e)) : va_at Z.1 vwCl (a, e) H := h.1 _ _ (wl_ix hk)
theorem wl.set {Z : xz_T} {rest tail : va_W} {H H1 : Heap} (h : wl Z rest tail H) {k : Nat} {a : Nat} {e0 e : va_E} (hk : tail[k]? = some (a, e0)) (he : va_at Z.1 vwCl (a, e) H1) (z : H1.size = H.size) (oq : ∀ q : Nat, q ≠ a → H1[q]? = H[q]?) : wl Z rest (tail.set k (a, e)) H1 := by
  have h1 := h.1.set h.2.1 (wl_ix hk) he oq
  have h2 := va_D.set (e := e) h.2.1 (wl_ix hk)
  rw [wl_st] at h1 h2
  refine ⟨h1, h2, by rw [z]; exact h.2.2.1, fun q hq => ?_⟩
  have := h.lo hk
  rw [oq q (by omega)]
  exact h.2.2.2 q hq
theorem wl.push {Z : xz_T} {rest tail : va_W} {H H1 : Heap} (h : wl Z rest tail H) {e : va_E} (he : va_at Z.1 vwCl (H.size, e) H1) (z : H1.size = H.size + 1) (oq : ∀ q : Nat, q < H.size → H1[q]? = H[q]?) : wl Z rest (tail ++ [(H.size, e)]) H1 := by
  have h1 : va_P Z.1 vwCl ((rest ++ tail) ++ [(H.size, e)]) H1 := (h.1.kept (fun k x hx => oq x.1 ((h.1 k x hx).lt))).app (fun k x hx => by
    have hz : k < 1 := (List.getElem?_eq_some_iff.mp hx).1
    rw [show k = 0 by omega] at hx
    cases hx
    exact he)
  have h2 := h.2.1.push (e := e) h.1 rfl h.2.2.1
  rw [List.append_assoc] at h1 h2
  refine ⟨h1, h2, by have := h.2.2.1; omega, fun q hq => ?_⟩
  have := h.2.2.1
  rw [oq q (by omega)]
  exact h.2.2.2 q hq
theorem wl.shift {Z : xz_T} {rest a b : va_W} {H : Heap} (h : wl Z rest (a ++ b) H) : wl Z (rest ++ a) b H := by
  unfold wl at *
  rw [List.append_assoc]; exact h
theorem wl.back {Z : xz_T} {rest a b : va_W} {H : Heap} (h : wl Z (rest ++ a) b H) : wl Z rest (a ++ b) H := by
  unfold wl at *
  rw [List.append_assoc] at h; exact h
def xKc (Z : xz_T) (rest tail : va_W) (av : List Value) : Array Value → State → Prop := fun a U => a = av.toArray ∧ xk Z U ∧ wl Z rest tail U.heap
def xKq (Z : xz_T) (rest : va_W) (P : va_W → Prop) : Array Value → State → Outcome → State → Prop := fun _ _ o t => ∃ w : va_W, o = .returned none ∧ P w ∧ wl Z rest w t.heap
theorem xKc.blind {Z : xz_T} {rest tail : va_W} {av : List Value} : FrameBlind (xKc Z rest tail av) := fun a U g mk h => ⟨h.1, xk.same (s := U) (U := U.calling g mk a) rfl h.2.1, h.2.2⟩
section XK
variable {p : Program} {l : Launch} {e : Env} {R : Room} {s : State} {m : MethodId} {args : Array Value} {below : List Frame} {meth : Method} {c : Code} {H : Heap} {locs : List Loc} {cells slots : Nat} {Q : State → Prop}
variable {cc : ByteArray} {pc nL : Nat} {ls : Array Slot} {st : List Value} {Z : xz_T} {rest tail : va_W} {c0 : Cond} {own : String}
theorem xp_putF (X : CallFix p m c cc nL s args (c0 :: TB) own) (hk : xk Z s) (hw : wl Z rest tail H) (hl : xl Z locs) (hin2 : meth.name = "<init>") {C : String} {T : u_T} {N ci index i a : Nat} (k : Nat) {fs : List Value} {v : Value} (hE : tail[i]? = some (a, .inr (ci, fs))) (hc : vwCl[ci]? = some (C, T, N)) (hin : ∀ w ∈ u_ws C T N, w ∈ TB) (ty0 : Nat → FieldType) (hty : ∀ k, k < N → parseFieldDescriptor (T k).2.2.1 = some (ty0 k)) (hnm : ∀ a, a < N → ∀ b, b < N → a ≠ b → (T a).2.1 ≠ (T b).2.1) (hkN : k < N) (hlink : Cond.fieldLink own index (T k).1 (T k).2.1 (T k).2.2.1 ∈ TB) (hfin : (T k).2.2.2 = true) (hdecl : (T k).1 = own) (hn : narrow (ty0 k) v = v) (hfit : fits (ty0 k) v = true) (hlk : k < fs.length) (hdg : decode cc pc = .ok (.putfield index, 3))
    (kk : ∀ (H1 : Heap) (locs1 : List Loc), wl Z rest (tail.set i (a, .inr (ci, fs.set k v))) H1 → xl Z locs1 → W p l e R s m args below meth c H1 locs1 cells slots Q (F0 m (pc + 3) ls st)) : W p l e R s m args below meth c H locs cells slots Q (F0 m pc ls (v :: .ref a :: st)) := by
  have hts := X.2.2.2.2
  have hown := X.2.2.2.1
  have hin' : ∀ w ∈ u_ws C T N, w ∈ (c0 :: TB) := fun w h => List.mem_cons_of_mem _ (hin w h)
  have hap := va_apart (own := own) hts hin' ty0 hty hnm hk.1 hc
  obtain ⟨r, h1, cell, q1, q2, q3, q4⟩ := hw.at hE
  have hr : r = (C, T, N) := Option.some.inj (h1.symm.trans hc)
  subst hr
  obtain ⟨hS, hfc, kC, hkC, hkind⟩ := hk.1.1 ci _ hc
  obtain ⟨cf, kf, fi, f, hi, hsl⟩ := hS k hkN
  have hlay := hts _ (hin' _ (u_in_lay hkN))
  unfold u_lay at hlay
  rw [if_pos hfin] at hlay
  have hst := (u_facts hfc hkC (u_lays hts hin' hkN) hi).1
  have hcf : m.cls = cf := by
    obtain ⟨_, _, c', _, _, _, -, -, hf', -, -, -, hown2, -⟩ := Cond.laysFinal_spec hlay
    have e1 : c' = cf := by have := hi.symm.trans hf'; simp at this; exact this.1.symm
    rw [hdecl] at hown2
    rw [← e1]; exact Option.some.inj (hown.symm.trans hown2)
  have h6 := u_fits hfc hkC hkind (Or.inr hlay) hi (hty k hkN) hn hfit
  refine W.putFinK X.1 X.2.1 hown (hts _ (List.mem_cons_of_mem _ hlink)) hi hst hcf hin2 (by rw [q2]; exact h6) q1 q3 (by rw [hsl]; exact k2_hasslot (q4 k hkN)) rfl rfl hdg fun H' e1 e2 e3 => ?_
  rw [hsl] at e1 ⊢
  exact kk H' _ (hw.set hE ⟨_, hc, t_OB.to (V := updV (vp_V fs) k v) ⟨_, e1, q2, q3, t_set q4 hap hkN v⟩ (fun j _ => vp_updV_set hlk v j)⟩ e2 e3) (t_lc hl (hw.lo hE))
theorem xp_put (X : CallFix p m c cc nL s args (c0 :: TB) own) (hk : xk Z s) (hw : wl Z rest tail H) (hl : xl Z locs) {C : String} {T : u_T} {N ci index i a : Nat} (k : Nat) {fs : List Value} {v : Value} (hE : tail[i]? = some (a, .inr (ci, fs))) (hc : vwCl[ci]? = some (C, T, N)) (hin : ∀ w ∈ u_ws C T N, w ∈ TB) (ty0 : Nat → FieldType) (hty : ∀ k, k < N → parseFieldDescriptor (T k).2.2.1 = some (ty0 k)) (hnm : ∀ a, a < N → ∀ b, b < N → a ≠ b → (T a).2.1 ≠ (T b).2.1) (hkN : k < N) (hlink : Cond.fieldLink own index (T k).1 (T k).2.1 (T k).2.2.1 ∈ TB) (hfin : (T k).2.2.2 = false) (hn : narrow (ty0 k) v = v) (hfit : fits (ty0 k) v = true) (hlk : k < fs.length) (hdg : decode cc pc = .ok (.putfield index, 3))
    (kk : ∀ (H1 : Heap) (locs1 : List Loc), wl Z rest (tail.set i (a, .inr (ci, fs.set k v))) H1 → xl Z locs1 → W p l e R s m args below meth c H1 locs1 cells slots Q (F0 m (pc + 3) ls st)) : W p l e R s m args below meth c H locs cells slots Q (F0 m pc ls (v :: .ref a :: st)) := by
  have hts := X.2.2.2.2
  have hin' : ∀ w ∈ u_ws C T N, w ∈ (c0 :: TB) := fun w h => List.mem_cons_of_mem _ (hin w h)
  have hap := va_apart (own := own) hts hin' ty0 hty hnm hk.1 hc
  obtain ⟨r, h1, cell, q1, q2, q3, q4⟩ := hw.at hE
  have hr : r = (C, T, N) := Option.some.inj (h1.symm.trans hc)
  subst hr
  obtain ⟨hS, hfc, kC, hkC, hkind⟩ := hk.1.1 ci _ hc
  obtain ⟨cf, kf, fi, f, hi, hsl⟩ := hS k hkN
  have hlay := hts _ (hin' _ (u_in_lay hkN))
  unfold u_lay at hlay
  rw [if_neg (by rw [hfin]; decide)] at hlay
  have hst := (u_facts hfc hkC (u_lays hts hin' hkN) hi).1
  have h6 := u_store hfc hkC hkind hlay hi (hty k hkN) hn hfit
  refine W.putK X.1 X.2.1 (f := f) ⟨X.2.2.2.1, hts _ (List.mem_cons_of_mem _ hlink), ⟨_, _, _, hi⟩, hst⟩ (by rw [q2]; exact h6) q1 q3 (by rw [hsl]; exact k2_hasslot (q4 k hkN)) rfl rfl hdg fun H' e1 e2 e3 => ?_
  rw [hsl] at e1 ⊢
  exact kk H' _ (hw.set hE ⟨_, hc, t_OB.to (V := updV (vp_V fs) k v) ⟨_, e1, q2, q3, t_set q4 hap hkN v⟩ (fun j _ => vp_updV_set hlk v j)⟩ e2 e3) (t_lc hl (hw.lo hE))
theorem xp_new (X : CallFix p m c cc nL s args (c0 :: TB) own) (hk : xk Z s) (hw : wl Z rest tail H) {C : String} {T : u_T} {N ci index : Nat} (hin : ∀ w ∈ u_ws C T N, w ∈ TB) (ty : Nat → FieldType) (hty : ∀ k, k < N → parseFieldDescriptor (T k).2.2.1 = some (ty k)) (hcl : Cond.classLink own index C ∈ TB) (hinst : Cond.instantiable C N ∈ TB) (hini : Cond.initialized C ∈ TB) (hc : vwCl[ci]? = some (C, T, N)) {fs : List Value} (hfs : ∀ j, j < N → defaultValue (ty j) = vp_V fs j) (hcells : cells + 1 ≤ R.cells) (hslots : slots + N ≤ R.slots) (hdg : decode cc pc = .ok (.new index, 3))
    (kk : ∀ (a : Nat) (H1 : Heap), wl Z rest (tail ++ [(a, .inr (ci, fs))]) H1 → W p l e R s m args below meth c H1 locs (cells + 1) (slots + N) Q (F0 m (pc + 3) ls (.ref a :: st))) : W p l e R s m args below meth c H locs cells slots Q (F0 m pc ls st) :=
  xg_new X hk hin ty hty hcl hinst hini hc hfs hcells hslots hdg (fun H1 he z oq => kk _ H1 (hw.push he z oq))
theorem xp_newi (X : CallFix p m c cc nL s args (c0 :: TB) own) (hk : xk Z s) (hw : wl Z rest tail H) {x : Int32} (n : Nat) (hx : x = nI n) (hn : n ≤ 4000) (hcells : cells + 1 ≤ R.cells) (hslots : slots + n ≤ R.slots) (hdg : decode cc pc = .ok (.newarray .int, 2))
    (kk : ∀ (a : Nat) (H1 : Heap), wl Z rest (tail ++ [(a, .inl (Z.2.1 0, n, .inl (fun _ => 0)))]) H1 → W p l e R s m args below meth c H1 locs (cells + 1) (slots + n) Q (F0 m (pc + 2) ls (.ref a :: st))) : W p l e R s m args below meth c H locs cells slots Q (F0 m pc ls (.int x :: st)) := by
  subst hx
  refine va_newaK (atype := .int) X.1 X.2.1 (X.2.2.2.2 _ (List.mem_cons_of_mem _ tw_94)) rfl hdg rfl (nI_pos (by omega)) (nI_clamp (by omega)) (by show n * 4 ≤ _; omega) hcells hslots rfl fun H1 cA e1 z1 o1 hAr hNm => ?_
  have hcA : cA = Z.2.1 0 := Option.some.inj (hNm.symm.trans (hk.1.2 0 _ rfl).2)
  subst hcA
  exact kk _ H1 (hw.push e1 z1 o1)
theorem xp_newl (X : CallFix p m c cc nL s args (c0 :: TB) own) (hk : xk Z s) (hw : wl Z rest tail H) {x : Int32} (n : Nat) (hx : x = nI n) (hn : n ≤ 4000) (hcells : cells + 1 ≤ R.cells) (hslots : slots + n ≤ R.slots) (hdg : decode cc pc = .ok (.newarray .long, 2))
    (kk : ∀ (a : Nat) (H1 : Heap), wl Z rest (tail ++ [(a, .inl (Z.2.1 1, n, .inr (.inl (fun _ => 0))))]) H1 → W p l e R s m args below meth c H1 locs (cells + 1) (slots + n) Q (F0 m (pc + 2) ls (.ref a :: st))) : W p l e R s m args below meth c H locs cells slots Q (F0 m pc ls (.int x :: st)) := by
  subst hx
  refine va_newaK (atype := .long) X.1 X.2.1 (X.2.2.2.2 _ (List.mem_cons_of_mem _ tw_95)) rfl hdg rfl (nI_pos (by omega)) (nI_clamp (by omega)) (by show n * 8 ≤ _; omega) hcells hslots rfl fun H1 cA e1 z1 o1 hAr hNm => ?_
  have hcA : cA = Z.2.1 1 := Option.some.inj (hNm.symm.trans (hk.1.2 1 _ rfl).2)
  subst hcA
  exact kk _ H1 (hw.push e1 z1 o1)
theorem xp_newq (X : CallFix p m c cc nL s args (c0 :: TB) own) (hk : xk Z s) (hw : wl Z rest tail H) {x : Int32} {index t0 : Nat} {C : String} (n : Nat) (hx : x = nI n) (hn : n ≤ 4000) (ht : [(Z.2.1 0, FieldType.int), (Z.2.1 1, .long), (Z.2.1 2, .object RX7), (Z.2.1 3, .object RX3), (Z.2.1 4, .object RX5)][t0]? = some (Z.2.1 t0, .object C)) (hcl : Cond.classLink own index C ∈ TB) (hov : va_AO C s) (hcells : cells + 1 ≤ R.cells) (hslots : slots + n ≤ R.slots) (hdg : decode cc pc = .ok (.anewarray index, 3))
    (kk : ∀ (a : Nat) (H1 : Heap), wl Z rest (tail ++ [(a, .inl (Z.2.1 t0, n, .inr (.inr (.inr (.inr (fun _ => none))))))]) H1 → W p l e R s m args below meth c H1 locs (cells + 1) (slots + n) Q (F0 m (pc + 3) ls (.ref a :: st))) : W p l e R s m args below meth c H locs cells slots Q (F0 m pc ls (.int x :: st)) := by
  subst hx
  have hc : (nI n).toNatClampNeg = n := nI_clamp (by omega)
  refine W.anew X.1 X.2.1 X.2.2.2.1 (X.2.2.2.2 _ (List.mem_cons_of_mem _ hcl)) (va_AO.use hov) rfl hdg rfl (nI_pos (by omega)) (by rw [hc]; omega) hcells (by rw [hc]; exact hslots) fun cA kA comp f1 f2 f3 f4 => ?_
  rw [hc]
  generalize hH1 : H.push ({ cls := cA, slots := Array.replicate n .null, vm := .none } : Cell) = H1
  have z1 : H1.size = H.size + 1 := by rw [← hH1, Array.size_push]
  have e1 : H1[H.size]? = some (arrV cA n (fun _ => .null)) := by rw [← hH1, Array.getElem?_push_size, ← arrV_new]
  have o1 : ∀ q : Nat, q < H.size → H1[q]? = H[q]? := fun q hq => by rw [← hH1, Array.getElem?_push, if_neg (Nat.ne_of_lt hq)]
  obtain ⟨kA', comp', g1, g2, g3, g4⟩ := (hk.1.2 t0 _ ht).2
  have hcA : cA = Z.2.1 t0 := Option.some.inj (f1.symm.trans g4)
  subst hcA
  exact kk _ H1 (hw.push e1 z1 o1)
theorem xp_ret {P : va_W → Prop} (X : CallFix p m c cc nL s args (c0 :: TB) own) (hr : meth.sig.returnType = none) (hlocks : meth.locks = false) (hw : wl Z rest tail H) (hl : xl Z locs) (h : P tail) (hdg : decode cc pc = .ok (.return_, 1)) : W p l e R s m args below meth c H locs cells slots (MQ below (xKq Z rest P) args s cells slots (fun q => Z.2.2.1 ≤ q)) (F0 m pc ls []) :=
  W.vret X.1 X.2.1 hr (fun t ht _ => ⟨tail, rfl, h, by rw [ht]; exact hw⟩) hl hdg hlocks
variable {y : MethodName} {bytes : ByteArray} {maxL index mc ms : Nat} {rm : Room}
theorem xp_IN {host : String} {a : Nat} {P : va_W → Prop} (X : CallFix p m c cc nL s args (c0 :: TB) own) (hk : xk Z s) (hw : wl Z rest tail H) (hl : xl Z locs) (hls : ls.size = nL) (hM : Met l y (wq y bytes maxL none) rm (xKc Z rest tail [.ref a]) (xKq Z rest P) mc ms (fun q => Z.2.2.1 ≤ q)) (hG : GoodIn (c0 :: TB) (wq y bytes maxL none)) (hini : Cond.initialized y.cls ∈ TB) (hlk : Cond.methodLinkNest own index y host ∈ xk_ng) (hin : Cond.instanceMethod y ∈ TB) (hy1 : y.name = "<init>") (hrc : rm.cells = mc) (hrs : rm.slots = ms)
    (hd : y.cls ≠ "java/lang/invoke/MethodHandle" ∧ y.cls ≠ "java/lang/invoke/VarHandle" ∧ (parseMethodDescriptor y.desc).map (fun d => d.parameters.length) = some 0) (hR : rm.frames + 1 ≤ R.frames ∧ 8 + (maxL + 11) + rm.locals ≤ R.locals) (hrm : (st.map fun v => v.category).sum ≤ 8) (hdg : decode cc pc = .ok (.invokespecial index, 3)) (hf : cells + mc ≤ R.cells ∧ slots + ms ≤ R.slots)
    (kk : ∀ (w : va_W) (H1 : Heap) (locs1 : List Loc), P w → wl Z rest w H1 → xl Z locs1 → W p l e R s m args below meth c H1 locs1 (cells + mc) (slots + ms) Q (F0 m (pc + 3) ls st)) : W p l e R s m args below meth c H locs cells slots Q (F0 m pc ls (.ref a :: st)) :=
  xc_run (va_runIN (As := []) X hM ⟨va_cnB 0 X.2.2.2.2 hG rfl hrc hrs (hk.2.1 _ hlk) (X.2.2.2.2 _ (List.mem_cons_of_mem _ hini)) hd hR, hy1, X.2.2.2.2 _ (List.mem_cons_of_mem _ hin)⟩ ⟨xKc.blind, fun U hU hW => ⟨rfl, hk.warm hW, by rw [hU]; exact hw⟩⟩ rfl rfl hls rfl (lv_room hrm) hdg hf) hl (fun v st t locs1 hq hl1 => by obtain ⟨w, hv, hP, hw⟩ := hq; cases hv; exact kk w _ _ hP hw hl1)
theorem xp_I {a : Nat} {P : va_W → Prop} (X : CallFix p m c cc nL s args (c0 :: TB) own) (hk : xk Z s) (hw : wl Z rest tail H) (hl : xl Z locs) (hls : ls.size = nL) (hM : Met l y (wq y bytes maxL none) rm (xKc Z rest tail [.ref a]) (xKq Z rest P) mc ms (fun q => Z.2.2.1 ≤ q)) (hG : GoodIn (c0 :: TB) (wq y bytes maxL none)) (hini : Cond.initialized y.cls ∈ TB) (hlk : Cond.methodLink own index y ∈ TB) (hin : Cond.instanceMethod y ∈ TB) (hy1 : y.name = "<init>") (hrc : rm.cells = mc) (hrs : rm.slots = ms)
    (hd : y.cls ≠ "java/lang/invoke/MethodHandle" ∧ y.cls ≠ "java/lang/invoke/VarHandle" ∧ (parseMethodDescriptor y.desc).map (fun d => d.parameters.length) = some 0) (hR : rm.frames + 1 ≤ R.frames ∧ 8 + (maxL + 11) + rm.locals ≤ R.locals) (hrm : (st.map fun v => v.category).sum ≤ 8) (hdg : decode cc pc = .ok (.invokespecial index, 3)) (hf : cells + mc ≤ R.cells ∧ slots + ms ≤ R.slots)
    (kk : ∀ (w : va_W) (H1 : Heap) (locs1 : List Loc), P w → wl Z rest w H1 → xl Z locs1 → W p l e R s m args below meth c H1 locs1 (cells + mc) (slots + ms) Q (F0 m (pc + 3) ls st)) : W p l e R s m args below meth c H locs cells slots Q (F0 m pc ls (.ref a :: st)) :=
  xc_run (va_runI (As := []) X hM (cwI 0 X.2.2.2.2 hG rfl hrc hrs (X.2.2.2.2 _ (List.mem_cons_of_mem _ hini)) (X.2.2.2.2 _ (List.mem_cons_of_mem _ hlk)) (X.2.2.2.2 _ (List.mem_cons_of_mem _ hin)) hy1 hd hR) ⟨xKc.blind, fun U hU hW => ⟨rfl, hk.warm hW, by rw [hU]; exact hw⟩⟩ rfl rfl hls rfl (lv_room hrm) hdg hf) hl (fun v st t locs1 hq hl1 => by obtain ⟨w, hv, hP, hw⟩ := hq; cases hv; exact kk w _ _ hP hw hl1)
end XK

set_option maxHeartbeats 4000000 in
set_option maxRecDepth 100000 in
theorem k_X6_init (l : Launch) (Z : xz_T) (rest : va_W) (h0 : Nat) : Met l yX6_init (wq yX6_init cX6_init 1 none) { frames := 1, cells := 1, slots := 400, locals := 30 } (xKc Z rest [(h0, .inr (5, [.null, .int 0, .int 0, .int 0]))] [.ref h0]) (xKq Z rest (fun w => ∃ q1 : Nat, w = [(h0, .inr (5, [.ref q1, .int 0, .int 0, .int 0])), (q1, .inl (Z.2.1 3, 400, .inr (.inr (.inr (.inr (fun _ => none))))))])) 1 400 (fun q => Z.2.2.1 ≤ q) := by
  refine Met.ofW (cc := cX6_init) (maxL := 1) (ret := none) (by decide +kernel) rfl ?_
  intro p e s m args below meth c s₁ B hml hv0
  obtain ⟨rfl, hk, hw⟩ := hv0
  have X : CallFix p m c cX6_init 1 s _ (wq yX6_init cX6_init 1 none) RX6 := ⟨B.exec, B.bytes, hml, findClass_of_methodNamed B.named, atoms_spec (ws := (wq yX6_init cX6_init 1 none)) B.pre⟩
  have hr := B.returns
  have hlocks := B.notSynchronized
  have hin : meth.name = "<init>" := (name_of_methodNamed B.named B.method).1
  have hl : xl Z [] := fun _ h => by cases h
  have hv := lv_entry [.ref h0] (n := 1) (Nat.le_of_ble_eq_true rfl)
  rw [lg_entry_eq]
  generalize (lg_sl [.ref h0] ++ List.replicate (1 - (lg_sl [.ref h0]).length) Slot.unset).toArray = ls at hv ⊢
  replace hv : lv_has ls 1 [(0, .ref h0)] := hv
  refine lv_aload_n X.1 X.2.1 dX6_init_0 rfl (lv_at hv 0 rfl) ?_
  refine W.objInit X.1 X.2.1 X.2.2.2.1 (X.2.2.2.2 _ (List.mem_cons_of_mem _ tw_75)) (X.2.2.2.2 _ (List.mem_cons_of_mem _ tw_60)) (X.2.2.2.2 _ (List.mem_cons_of_mem _ tw_61)) rfl (by rw [X.2.2.1]; exact hv.1) rfl dX6_init_1 (Nat.le_of_ble_eq_true rfl) (Nat.le_of_ble_eq_true rfl) ?_
  refine W.eq (g2 := F0 m 4 ls []) rfl ?_
  refine lv_aload_n X.1 X.2.1 dX6_init_4 rfl (lv_at hv 0 rfl) ?_
  refine lv_sipush (v := 400) X.1 X.2.1 dX6_init_5 (by decide) ?_
  refine xp_newq X hk hw (t0 := 3) 400 rfl (by decide) rfl tw_76 hk.2.2.1.2.1 (Nat.le_of_ble_eq_true rfl) (Nat.le_of_ble_eq_true rfl) dX6_init_8 (fun q1 H hw => ?_)
  replace hw : wl Z rest [(h0, .inr (5, [.null, .int 0, .int 0, .int 0])), (q1, .inl (Z.2.1 3, 400, .inr (.inr (.inr (.inr (fun _ => none))))))] H := hw
  refine xp_putF X hk hw hl hin (i := 0) (v := .ref q1) 0 rfl rfl tlX6 tyX6 tyX6_ok nmX6 (by decide) tw_78 rfl rfl rfl rfl (Nat.le_of_ble_eq_true rfl) dX6_init_11 (fun H locs hw hl => ?_)
  replace hw : wl Z rest [(h0, .inr (5, [.ref q1, .int 0, .int 0, .int 0])), (q1, .inl (Z.2.1 3, 400, .inr (.inr (.inr (.inr (fun _ => none))))))] H := hw
  refine W.widen (k := 1) (n := 400) (Nat.le_of_ble_eq_true rfl) (Nat.le_of_ble_eq_true rfl) ?_
  exact xp_ret X hr hlocks hw hl ⟨q1, rfl⟩ dX6_init_14
set_option maxHeartbeats 4000000 in
set_option maxRecDepth 100000 in
theorem k_X0_init (l : Launch) (Z : xz_T) (rest : va_W) (h0 : Nat) : Met l yX0_init (wq yX0_init cX0_init 1 none) { frames := 2, cells := 5, slots := 488, locals := 50 } (xKc Z rest [(h0, .inr (0, [.null, .null, .null, .null]))] [.ref h0]) (xKq Z rest (fun w => ∃ q1 q2 q3 q4 q5 : Nat, w = [(h0, .inr (0, [.ref q1, .ref q2, .ref q3, .ref q4])), (q1, .inl (Z.2.1 2, 10, .inr (.inr (.inr (.inr (fun _ => none)))))), (q2, .inl (Z.2.1 0, 10, .inl (fun _ => 0))), (q3, .inl (Z.2.1 1, 64, .inr (.inl (fun _ => 0)))), (q4, .inr (5, [.ref q5, .int 0, .int 0, .int 0])), (q5, .inl (Z.2.1 3, 400, .inr (.inr (.inr (.inr (fun _ => none))))))])) 5 488 (fun q => Z.2.2.1 ≤ q) := by
  refine Met.ofW (cc := cX0_init) (maxL := 1) (ret := none) (by decide +kernel) rfl ?_
  intro p e s m args below meth c s₁ B hml hv0
  obtain ⟨rfl, hk, hw⟩ := hv0
  have X : CallFix p m c cX0_init 1 s _ (wq yX0_init cX0_init 1 none) RX0 := ⟨B.exec, B.bytes, hml, findClass_of_methodNamed B.named, atoms_spec (ws := (wq yX0_init cX0_init 1 none)) B.pre⟩
  have hr := B.returns
  have hlocks := B.notSynchronized
  have hin : meth.name = "<init>" := (name_of_methodNamed B.named B.method).1
  have hl : xl Z [] := fun _ h => by cases h
  have hv := lv_entry [.ref h0] (n := 1) (Nat.le_of_ble_eq_true rfl)
  rw [lg_entry_eq]
  generalize (lg_sl [.ref h0] ++ List.replicate (1 - (lg_sl [.ref h0]).length) Slot.unset).toArray = ls at hv ⊢
  replace hv : lv_has ls 1 [(0, .ref h0)] := hv
  refine lv_aload_n X.1 X.2.1 dX0_init_0 rfl (lv_at hv 0 rfl) ?_
  refine W.objInit X.1 X.2.1 X.2.2.2.1 (X.2.2.2.2 _ (List.mem_cons_of_mem _ tw_67)) (X.2.2.2.2 _ (List.mem_cons_of_mem _ tw_60)) (X.2.2.2.2 _ (List.mem_cons_of_mem _ tw_61)) rfl (by rw [X.2.2.1]; exact hv.1) rfl dX0_init_1 (Nat.le_of_ble_eq_true rfl) (Nat.le_of_ble_eq_true rfl) ?_
  refine W.eq (g2 := F0 m 4 ls []) rfl ?_
  refine lv_aload_n X.1 X.2.1 dX0_init_4 rfl (lv_at hv 0 rfl) ?_
  refine lv_bipush (v := 10) X.1 X.2.1 dX0_init_5 (by decide) ?_
  refine xp_newq X hk hw (t0 := 2) 10 rfl (by decide) rfl tw_68 hk.2.2.1.1 (Nat.le_of_ble_eq_true rfl) (Nat.le_of_ble_eq_true rfl) dX0_init_7 (fun q1 H hw => ?_)
  replace hw : wl Z rest [(h0, .inr (0, [.null, .null, .null, .null])), (q1, .inl (Z.2.1 2, 10, .inr (.inr (.inr (.inr (fun _ => none))))))] H := hw
  refine xp_putF X hk hw hl hin (i := 0) (v := .ref q1) 0 rfl rfl tlX0 tyX0 tyX0_ok nmX0 (by decide) tw_96 rfl rfl rfl rfl (Nat.le_of_ble_eq_true rfl) dX0_init_10 (fun H locs hw hl => ?_)
  replace hw : wl Z rest [(h0, .inr (0, [.ref q1, .null, .null, .null])), (q1, .inl (Z.2.1 2, 10, .inr (.inr (.inr (.inr (fun _ => none))))))] H := hw
  refine lv_aload_n X.1 X.2.1 dX0_init_13 rfl (lv_at hv 0 rfl) ?_
  refine lv_bipush (v := 10) X.1 X.2.1 dX0_init_14 (by decide) ?_
  refine xp_newi X hk hw 10 rfl (by decide) (Nat.le_of_ble_eq_true rfl) (Nat.le_of_ble_eq_true rfl) dX0_init_16 (fun q2 H hw => ?_)
  replace hw : wl Z rest [(h0, .inr (0, [.ref q1, .null, .null, .null])), (q1, .inl (Z.2.1 2, 10, .inr (.inr (.inr (.inr (fun _ => none)))))), (q2, .inl (Z.2.1 0, 10, .inl (fun _ => 0)))] H := hw
  refine xp_putF X hk hw hl hin (i := 0) (v := .ref q2) 1 rfl rfl tlX0 tyX0 tyX0_ok nmX0 (by decide) tw_98 rfl rfl rfl rfl (Nat.le_of_ble_eq_true rfl) dX0_init_18 (fun H locs hw hl => ?_)
  replace hw : wl Z rest [(h0, .inr (0, [.ref q1, .ref q2, .null, .null])), (q1, .inl (Z.2.1 2, 10, .inr (.inr (.inr (.inr (fun _ => none)))))), (q2, .inl (Z.2.1 0, 10, .inl (fun _ => 0)))] H := hw
  refine lv_aload_n X.1 X.2.1 dX0_init_21 rfl (lv_at hv 0 rfl) ?_
  refine lv_bipush (v := 64) X.1 X.2.1 dX0_init_22 (by decide) ?_
  refine xp_newl X hk hw 64 rfl (by decide) (Nat.le_of_ble_eq_true rfl) (Nat.le_of_ble_eq_true rfl) dX0_init_24 (fun q3 H hw => ?_)
  replace hw : wl Z rest [(h0, .inr (0, [.ref q1, .ref q2, .null, .null])), (q1, .inl (Z.2.1 2, 10, .inr (.inr (.inr (.inr (fun _ => none)))))), (q2, .inl (Z.2.1 0, 10, .inl (fun _ => 0))), (q3, .inl (Z.2.1 1, 64, .inr (.inl (fun _ => 0))))] H := hw
  refine xp_putF X hk hw hl hin (i := 0) (v := .ref q3) 2 rfl rfl tlX0 tyX0 tyX0_ok nmX0 (by decide) tw_100 rfl rfl rfl rfl (Nat.le_of_ble_eq_true rfl) dX0_init_26 (fun H locs hw hl => ?_)
  replace hw : wl Z rest [(h0, .inr (0, [.ref q1, .ref q2, .ref q3, .null])), (q1, .inl (Z.2.1 2, 10, .inr (.inr (.inr (.inr (fun _ => none)))))), (q2, .inl (Z.2.1 0, 10, .inl (fun _ => 0))), (q3, .inl (Z.2.1 1, 64, .inr (.inl (fun _ => 0))))] H := hw
  refine lv_aload_n X.1 X.2.1 dX0_init_29 rfl (lv_at hv 0 rfl) ?_
  refine xp_new X hk hw (ci := 5) (fs := [.null, .int 0, .int 0, .int 0]) tlX6 tyX6 tyX6_ok tw_70 tw_71 tw_41 rfl (fun j hj => by rcases (show j = 0 ∨ j = 1 ∨ j = 2 ∨ j = 3 by omega) with rfl | rfl | rfl | rfl <;> rfl) (Nat.le_of_ble_eq_true rfl) (Nat.le_of_ble_eq_true rfl) dX0_init_30 (fun q4 H hw => ?_)
  replace hw : wl Z rest [(h0, .inr (0, [.ref q1, .ref q2, .ref q3, .null])), (q1, .inl (Z.2.1 2, 10, .inr (.inr (.inr (.inr (fun _ => none)))))), (q2, .inl (Z.2.1 0, 10, .inl (fun _ => 0))), (q3, .inl (Z.2.1 1, 64, .inr (.inl (fun _ => 0)))), (q4, .inr (5, [.null, .int 0, .int 0, .int 0]))] H := hw
  refine lv_dup X.1 X.2.1 dX0_init_33 rfl ?_
  have hw1 : wl Z (rest ++ [(h0, .inr (0, [.ref q1, .ref q2, .ref q3, .null])), (q1, .inl (Z.2.1 2, 10, .inr (.inr (.inr (.inr (fun _ => none)))))), (q2, .inl (Z.2.1 0, 10, .inl (fun _ => 0))), (q3, .inl (Z.2.1 1, 64, .inr (.inl (fun _ => 0))))]) [(q4, .inr (5, [.null, .int 0, .int 0, .int 0]))] H := wl.shift hw
  refine xp_IN X hk hw1 hl hv.1 (k_X6_init l Z (rest ++ [(h0, .inr (0, [.ref q1, .ref q2, .ref q3, .null])), (q1, .inl (Z.2.1 2, 10, .inr (.inr (.inr (.inr (fun _ => none)))))), (q2, .inl (Z.2.1 0, 10, .inl (fun _ => 0))), (q3, .inl (Z.2.1 1, 64, .inr (.inl (fun _ => 0))))]) q4) (tb_wq tw_74) tw_41 xn_1 tw_73 rfl rfl rfl (by decide +kernel) ⟨Nat.le_of_ble_eq_true rfl, Nat.le_of_ble_eq_true rfl⟩ (Nat.le_of_ble_eq_true rfl) dX0_init_34 ⟨Nat.le_of_ble_eq_true rfl, Nat.le_of_ble_eq_true rfl⟩ (fun w H locs hP hw hl => ?_)
  obtain ⟨q5, rfl⟩ := hP
  replace hw : wl Z rest [(h0, .inr (0, [.ref q1, .ref q2, .ref q3, .null])), (q1, .inl (Z.2.1 2, 10, .inr (.inr (.inr (.inr (fun _ => none)))))), (q2, .inl (Z.2.1 0, 10, .inl (fun _ => 0))), (q3, .inl (Z.2.1 1, 64, .inr (.inl (fun _ => 0)))), (q4, .inr (5, [.ref q5, .int 0, .int 0, .int 0])), (q5, .inl (Z.2.1 3, 400, .inr (.inr (.inr (.inr (fun _ => none))))))] H := wl.back hw
  refine xp_putF X hk hw hl hin (i := 0) (v := .ref q4) 3 rfl rfl tlX0 tyX0 tyX0_ok nmX0 (by decide) tw_101 rfl rfl rfl rfl (Nat.le_of_ble_eq_true rfl) dX0_init_37 (fun H locs hw hl => ?_)
  replace hw : wl Z rest [(h0, .inr (0, [.ref q1, .ref q2, .ref q3, .ref q4])), (q1, .inl (Z.2.1 2, 10, .inr (.inr (.inr (.inr (fun _ => none)))))), (q2, .inl (Z.2.1 0, 10, .inl (fun _ => 0))), (q3, .inl (Z.2.1 1, 64, .inr (.inl (fun _ => 0)))), (q4, .inr (5, [.ref q5, .int 0, .int 0, .int 0])), (q5, .inl (Z.2.1 3, 400, .inr (.inr (.inr (.inr (fun _ => none))))))] H := hw
  refine W.widen (k := 5) (n := 488) (Nat.le_of_ble_eq_true rfl) (Nat.le_of_ble_eq_true rfl) ?_
  exact xp_ret X hr hlocks hw hl ⟨q1, q2, q3, q4, q5, rfl⟩ dX0_init_40
set_option maxHeartbeats 4000000 in
set_option maxRecDepth 100000 in
theorem k_X8_init (l : Launch) (Z : xz_T) (rest : va_W) (h0 : Nat) : Met l yX8_init (wq yX8_init cX8_init 1 none) { frames := 1, cells := 5, slots := 300, locals := 30 } (xKc Z rest [(h0, .inr (6, [.null, .null, .null, .null, .null, .int 0]))] [.ref h0]) (xKq Z rest (fun w => ∃ q1 q2 q3 q4 q5 : Nat, w = [(h0, .inr (6, [.ref q1, .ref q2, .ref q3, .ref q4, .ref q5, .int 0])), (q1, .inl (Z.2.1 0, 60, .inl (fun _ => 0))), (q2, .inl (Z.2.1 0, 60, .inl (fun _ => 0))), (q3, .inl (Z.2.1 0, 60, .inl (fun _ => 0))), (q4, .inl (Z.2.1 0, 60, .inl (fun _ => 0))), (q5, .inl (Z.2.1 0, 60, .inl (fun _ => 0)))])) 5 300 (fun q => Z.2.2.1 ≤ q) := by
  refine Met.ofW (cc := cX8_init) (maxL := 1) (ret := none) (by decide +kernel) rfl ?_
  intro p e s m args below meth c s₁ B hml hv0
  obtain ⟨rfl, hk, hw⟩ := hv0
  have X : CallFix p m c cX8_init 1 s _ (wq yX8_init cX8_init 1 none) RX8 := ⟨B.exec, B.bytes, hml, findClass_of_methodNamed B.named, atoms_spec (ws := (wq yX8_init cX8_init 1 none)) B.pre⟩
  have hr := B.returns
  have hlocks := B.notSynchronized
  have hin : meth.name = "<init>" := (name_of_methodNamed B.named B.method).1
  have hl : xl Z [] := fun _ h => by cases h
  have hv := lv_entry [.ref h0] (n := 1) (Nat.le_of_ble_eq_true rfl)
  rw [lg_entry_eq]
  generalize (lg_sl [.ref h0] ++ List.replicate (1 - (lg_sl [.ref h0]).length) Slot.unset).toArray = ls at hv ⊢
  replace hv : lv_has ls 1 [(0, .ref h0)] := hv
  refine lv_aload_n X.1 X.2.1 dX8_init_0 rfl (lv_at hv 0 rfl) ?_
  refine W.objInit X.1 X.2.1 X.2.2.2.1 (X.2.2.2.2 _ (List.mem_cons_of_mem _ tw_117)) (X.2.2.2.2 _ (List.mem_cons_of_mem _ tw_60)) (X.2.2.2.2 _ (List.mem_cons_of_mem _ tw_61)) rfl (by rw [X.2.2.1]; exact hv.1) rfl dX8_init_1 (Nat.le_of_ble_eq_true rfl) (Nat.le_of_ble_eq_true rfl) ?_
  refine W.eq (g2 := F0 m 4 ls []) rfl ?_
  refine lv_aload_n X.1 X.2.1 dX8_init_4 rfl (lv_at hv 0 rfl) ?_
  refine lv_bipush (v := 60) X.1 X.2.1 dX8_init_5 (by decide) ?_
  refine xp_newi X hk hw 60 rfl (by decide) (Nat.le_of_ble_eq_true rfl) (Nat.le_of_ble_eq_true rfl) dX8_init_7 (fun q1 H hw => ?_)
  replace hw : wl Z rest [(h0, .inr (6, [.null, .null, .null, .null, .null, .int 0])), (q1, .inl (Z.2.1 0, 60, .inl (fun _ => 0)))] H := hw
  refine xp_putF X hk hw hl hin (i := 0) (v := .ref q1) 0 rfl rfl tlX8 tyX8 tyX8_ok nmX8 (by decide) tw_118 rfl rfl rfl rfl (Nat.le_of_ble_eq_true rfl) dX8_init_9 (fun H locs hw hl => ?_)
  replace hw : wl Z rest [(h0, .inr (6, [.ref q1, .null, .null, .null, .null, .int 0])), (q1, .inl (Z.2.1 0, 60, .inl (fun _ => 0)))] H := hw
  refine lv_aload_n X.1 X.2.1 dX8_init_12 rfl (lv_at hv 0 rfl) ?_
  refine lv_bipush (v := 60) X.1 X.2.1 dX8_init_13 (by decide) ?_
  refine xp_newi X hk hw 60 rfl (by decide) (Nat.le_of_ble_eq_true rfl) (Nat.le_of_ble_eq_true rfl) dX8_init_15 (fun q2 H hw => ?_)
  replace hw : wl Z rest [(h0, .inr (6, [.ref q1, .null, .null, .null, .null, .int 0])), (q1, .inl (Z.2.1 0, 60, .inl (fun _ => 0))), (q2, .inl (Z.2.1 0, 60, .inl (fun _ => 0)))] H := hw
  refine xp_putF X hk hw hl hin (i := 0) (v := .ref q2) 1 rfl rfl tlX8 tyX8 tyX8_ok nmX8 (by decide) tw_120 rfl rfl rfl rfl (Nat.le_of_ble_eq_true rfl) dX8_init_17 (fun H locs hw hl => ?_)
  replace hw : wl Z rest [(h0, .inr (6, [.ref q1, .ref q2, .null, .null, .null, .int 0])), (q1, .inl (Z.2.1 0, 60, .inl (fun _ => 0))), (q2, .inl (Z.2.1 0, 60, .inl (fun _ => 0)))] H := hw
  refine lv_aload_n X.1 X.2.1 dX8_init_20 rfl (lv_at hv 0 rfl) ?_
  refine lv_bipush (v := 60) X.1 X.2.1 dX8_init_21 (by decide) ?_
  refine xp_newi X hk hw 60 rfl (by decide) (Nat.le_of_ble_eq_true rfl) (Nat.le_of_ble_eq_true rfl) dX8_init_23 (fun q3 H hw => ?_)
  replace hw : wl Z rest [(h0, .inr (6, [.ref q1, .ref q2, .null, .null, .null, .int 0])), (q1, .inl (Z.2.1 0, 60, .inl (fun _ => 0))), (q2, .inl (Z.2.1 0, 60, .inl (fun _ => 0))), (q3, .inl (Z.2.1 0, 60, .inl (fun _ => 0)))] H := hw
  refine xp_putF X hk hw hl hin (i := 0) (v := .ref q3) 2 rfl rfl tlX8 tyX8 tyX8_ok nmX8 (by decide) tw_122 rfl rfl rfl rfl (Nat.le_of_ble_eq_true rfl) dX8_init_25 (fun H locs hw hl => ?_)
  replace hw : wl Z rest [(h0, .inr (6, [.ref q1, .ref q2, .ref q3, .null, .null, .int 0])), (q1, .inl (Z.2.1 0, 60, .inl (fun _ => 0))), (q2, .inl (Z.2.1 0, 60, .inl (fun _ => 0))), (q3, .inl (Z.2.1 0, 60, .inl (fun _ => 0)))] H := hw
  refine lv_aload_n X.1 X.2.1 dX8_init_28 rfl (lv_at hv 0 rfl) ?_
  refine lv_bipush (v := 60) X.1 X.2.1 dX8_init_29 (by decide) ?_
  refine xp_newi X hk hw 60 rfl (by decide) (Nat.le_of_ble_eq_true rfl) (Nat.le_of_ble_eq_true rfl) dX8_init_31 (fun q4 H hw => ?_)
  replace hw : wl Z rest [(h0, .inr (6, [.ref q1, .ref q2, .ref q3, .null, .null, .int 0])), (q1, .inl (Z.2.1 0, 60, .inl (fun _ => 0))), (q2, .inl (Z.2.1 0, 60, .inl (fun _ => 0))), (q3, .inl (Z.2.1 0, 60, .inl (fun _ => 0))), (q4, .inl (Z.2.1 0, 60, .inl (fun _ => 0)))] H := hw
  refine xp_putF X hk hw hl hin (i := 0) (v := .ref q4) 3 rfl rfl tlX8 tyX8 tyX8_ok nmX8 (by decide) tw_124 rfl rfl rfl rfl (Nat.le_of_ble_eq_true rfl) dX8_init_33 (fun H locs hw hl => ?_)
  replace hw : wl Z rest [(h0, .inr (6, [.ref q1, .ref q2, .ref q3, .ref q4, .null, .int 0])), (q1, .inl (Z.2.1 0, 60, .inl (fun _ => 0))), (q2, .inl (Z.2.1 0, 60, .inl (fun _ => 0))), (q3, .inl (Z.2.1 0, 60, .inl (fun _ => 0))), (q4, .inl (Z.2.1 0, 60, .inl (fun _ => 0)))] H := hw
  refine lv_aload_n X.1 X.2.1 dX8_init_36 rfl (lv_at hv 0 rfl) ?_
  refine lv_bipush (v := 60) X.1 X.2.1 dX8_init_37 (by decide) ?_
  refine xp_newi X hk hw 60 rfl (by decide) (Nat.le_of_ble_eq_true rfl) (Nat.le_of_ble_eq_true rfl) dX8_init_39 (fun q5 H hw => ?_)
  replace hw : wl Z rest [(h0, .inr (6, [.ref q1, .ref q2, .ref q3, .ref q4, .null, .int 0])), (q1, .inl (Z.2.1 0, 60, .inl (fun _ => 0))), (q2, .inl (Z.2.1 0, 60, .inl (fun _ => 0))), (q3, .inl (Z.2.1 0, 60, .inl (fun _ => 0))), (q4, .inl (Z.2.1 0, 60, .inl (fun _ => 0))), (q5, .inl (Z.2.1 0, 60, .inl (fun _ => 0)))] H := hw
  refine xp_putF X hk hw hl hin (i := 0) (v := .ref q5) 4 rfl rfl tlX8 tyX8 tyX8_ok nmX8 (by decide) tw_126 rfl rfl rfl rfl (Nat.le_of_ble_eq_true rfl) dX8_init_41 (fun H locs hw hl => ?_)
  replace hw : wl Z rest [(h0, .inr (6, [.ref q1, .ref q2, .ref q3, .ref q4, .ref q5, .int 0])), (q1, .inl (Z.2.1 0, 60, .inl (fun _ => 0))), (q2, .inl (Z.2.1 0, 60, .inl (fun _ => 0))), (q3, .inl (Z.2.1 0, 60, .inl (fun _ => 0))), (q4, .inl (Z.2.1 0, 60, .inl (fun _ => 0))), (q5, .inl (Z.2.1 0, 60, .inl (fun _ => 0)))] H := hw
  refine W.widen (k := 5) (n := 300) (Nat.le_of_ble_eq_true rfl) (Nat.le_of_ble_eq_true rfl) ?_
  exact xp_ret X hr hlocks hw hl ⟨q1, q2, q3, q4, q5, rfl⟩ dX8_init_44
set_option maxHeartbeats 4000000 in
set_option maxRecDepth 100000 in
theorem k_X1_init (l : Launch) (Z : xz_T) (rest : va_W) (h0 : Nat) : Met l yX1_init (wq yX1_init cX1_init 1 none) { frames := 1, cells := 2, slots := 1300, locals := 30 } (xKc Z rest [(h0, .inr (1, [.null, .null, .int 0, .int 0]))] [.ref h0]) (xKq Z rest (fun w => ∃ q1 q2 : Nat, w = [(h0, .inr (1, [.ref q1, .ref q2, .int 0, .int 0])), (q1, .inl (Z.2.1 4, 20, .inr (.inr (.inr (.inr (fun _ => none)))))), (q2, .inl (Z.2.1 1, 1280, .inr (.inl (fun _ => 0))))])) 2 1300 (fun q => Z.2.2.1 ≤ q) := by
  refine Met.ofW (cc := cX1_init) (maxL := 1) (ret := none) (by decide +kernel) rfl ?_
  intro p e s m args below meth c s₁ B hml hv0
  obtain ⟨rfl, hk, hw⟩ := hv0
  have X : CallFix p m c cX1_init 1 s _ (wq yX1_init cX1_init 1 none) RX1 := ⟨B.exec, B.bytes, hml, findClass_of_methodNamed B.named, atoms_spec (ws := (wq yX1_init cX1_init 1 none)) B.pre⟩
  have hr := B.returns
  have hlocks := B.notSynchronized
  have hin : meth.name = "<init>" := (name_of_methodNamed B.named B.method).1
  have hl : xl Z [] := fun _ h => by cases h
  have hv := lv_entry [.ref h0] (n := 1) (Nat.le_of_ble_eq_true rfl)
  rw [lg_entry_eq]
  generalize (lg_sl [.ref h0] ++ List.replicate (1 - (lg_sl [.ref h0]).length) Slot.unset).toArray = ls at hv ⊢
  replace hv : lv_has ls 1 [(0, .ref h0)] := hv
  refine lv_aload_n X.1 X.2.1 dX1_init_0 rfl (lv_at hv 0 rfl) ?_
  refine W.objInit X.1 X.2.1 X.2.2.2.1 (X.2.2.2.2 _ (List.mem_cons_of_mem _ tw_147)) (X.2.2.2.2 _ (List.mem_cons_of_mem _ tw_60)) (X.2.2.2.2 _ (List.mem_cons_of_mem _ tw_61)) rfl (by rw [X.2.2.1]; exact hv.1) rfl dX1_init_1 (Nat.le_of_ble_eq_true rfl) (Nat.le_of_ble_eq_true rfl) ?_
  refine W.eq (g2 := F0 m 4 ls []) rfl ?_
  refine lv_aload_n X.1 X.2.1 dX1_init_4 rfl (lv_at hv 0 rfl) ?_
  refine lv_bipush (v := 20) X.1 X.2.1 dX1_init_5 (by decide) ?_
  refine xp_newq X hk hw (t0 := 4) 20 rfl (by decide) rfl tw_148 hk.2.2.1.2.2 (Nat.le_of_ble_eq_true rfl) (Nat.le_of_ble_eq_true rfl) dX1_init_7 (fun q1 H hw => ?_)
  replace hw : wl Z rest [(h0, .inr (1, [.null, .null, .int 0, .int 0])), (q1, .inl (Z.2.1 4, 20, .inr (.inr (.inr (.inr (fun _ => none))))))] H := hw
  refine xp_putF X hk hw hl hin (i := 0) (v := .ref q1) 0 rfl rfl tlX1 tyX1 tyX1_ok nmX1 (by decide) tw_150 rfl rfl rfl rfl (Nat.le_of_ble_eq_true rfl) dX1_init_10 (fun H locs hw hl => ?_)
  replace hw : wl Z rest [(h0, .inr (1, [.ref q1, .null, .int 0, .int 0])), (q1, .inl (Z.2.1 4, 20, .inr (.inr (.inr (.inr (fun _ => none))))))] H := hw
  refine lv_aload_n X.1 X.2.1 dX1_init_13 rfl (lv_at hv 0 rfl) ?_
  refine lv_sipush (v := 1280) X.1 X.2.1 dX1_init_14 (by decide) ?_
  refine xp_newl X hk hw 1280 rfl (by decide) (Nat.le_of_ble_eq_true rfl) (Nat.le_of_ble_eq_true rfl) dX1_init_17 (fun q2 H hw => ?_)
  replace hw : wl Z rest [(h0, .inr (1, [.ref q1, .null, .int 0, .int 0])), (q1, .inl (Z.2.1 4, 20, .inr (.inr (.inr (.inr (fun _ => none)))))), (q2, .inl (Z.2.1 1, 1280, .inr (.inl (fun _ => 0))))] H := hw
  refine xp_putF X hk hw hl hin (i := 0) (v := .ref q2) 1 rfl rfl tlX1 tyX1 tyX1_ok nmX1 (by decide) tw_151 rfl rfl rfl rfl (Nat.le_of_ble_eq_true rfl) dX1_init_19 (fun H locs hw hl => ?_)
  replace hw : wl Z rest [(h0, .inr (1, [.ref q1, .ref q2, .int 0, .int 0])), (q1, .inl (Z.2.1 4, 20, .inr (.inr (.inr (.inr (fun _ => none)))))), (q2, .inl (Z.2.1 1, 1280, .inr (.inl (fun _ => 0))))] H := hw
  refine W.widen (k := 2) (n := 1300) (Nat.le_of_ble_eq_true rfl) (Nat.le_of_ble_eq_true rfl) ?_
  exact xp_ret X hr hlocks hw hl ⟨q1, q2, rfl⟩ dX1_init_22
set_option maxHeartbeats 4000000 in
set_option maxRecDepth 100000 in
theorem k_X9_init (l : Launch) (Z : xz_T) (rest : va_W) (h0 : Nat) : Met l yX9_init (wq yX9_init cX9_init 1 none) { frames := 3, cells := 16, slots := 2166, locals := 70 } (xKc Z rest [(h0, .inr (7, [.null, .null, .null, .null, .int 0, .int 0, .int 0, .int 0, .int 0]))] [.ref h0]) (xKq Z rest (fun w => ∃ q1 q2 q3 q4 q5 q6 q7 q8 q9 q10 q11 q12 q13 q14 q15 q16 : Nat, w = [(h0, .inr (7, [.ref q1, .ref q7, .ref q13, .ref q16, .int 0, .int 0, .int 0, .int 0, .int (-1)])), (q1, .inr (0, [.ref q2, .ref q3, .ref q4, .ref q5])), (q2, .inl (Z.2.1 2, 10, .inr (.inr (.inr (.inr (fun _ => none)))))), (q3, .inl (Z.2.1 0, 10, .inl (fun _ => 0))), (q4, .inl (Z.2.1 1, 64, .inr (.inl (fun _ => 0)))), (q5, .inr (5, [.ref q6, .int 0, .int 0, .int 0])), (q6, .inl (Z.2.1 3, 400, .inr (.inr (.inr (.inr (fun _ => none)))))), (q7, .inr (6, [.ref q8, .ref q9, .ref q10, .ref q11, .ref q12, .int 0])), (q8, .inl (Z.2.1 0, 60, .inl (fun _ => 0))), (q9, .inl (Z.2.1 0, 60, .inl (fun _ => 0))), (q10, .inl (Z.2.1 0, 60, .inl (fun _ => 0))), (q11, .inl (Z.2.1 0, 60, .inl (fun _ => 0))), (q12, .inl (Z.2.1 0, 60, .inl (fun _ => 0))), (q13, .inr (1, [.ref q14, .ref q15, .int 0, .int 0])), (q14, .inl (Z.2.1 4, 20, .inr (.inr (.inr (.inr (fun _ => none)))))), (q15, .inl (Z.2.1 1, 1280, .inr (.inl (fun _ => 0)))), (q16, .inl (Z.2.1 1, 64, .inr (.inl (fun _ => 0))))])) 16 2166 (fun q => Z.2.2.1 ≤ q) := by
  refine Met.ofW (cc := cX9_init) (maxL := 1) (ret := none) (by decide +kernel) rfl ?_
  intro p e s m args below meth c s₁ B hml hv0
  obtain ⟨rfl, hk, hw⟩ := hv0
  have X : CallFix p m c cX9_init 1 s _ (wq yX9_init cX9_init 1 none) RX9 := ⟨B.exec, B.bytes, hml, findClass_of_methodNamed B.named, atoms_spec (ws := (wq yX9_init cX9_init 1 none)) B.pre⟩
  have hr := B.returns
  have hlocks := B.notSynchronized
  have hin : meth.name = "<init>" := (name_of_methodNamed B.named B.method).1
  have hl : xl Z [] := fun _ h => by cases h
  have hv := lv_entry [.ref h0] (n := 1) (Nat.le_of_ble_eq_true rfl)
  rw [lg_entry_eq]
  generalize (lg_sl [.ref h0] ++ List.replicate (1 - (lg_sl [.ref h0]).length) Slot.unset).toArray = ls at hv ⊢
  replace hv : lv_has ls 1 [(0, .ref h0)] := hv
  refine lv_aload_n X.1 X.2.1 dX9_init_0 rfl (lv_at hv 0 rfl) ?_
  refine W.objInit X.1 X.2.1 X.2.2.2.1 (X.2.2.2.2 _ (List.mem_cons_of_mem _ tw_59)) (X.2.2.2.2 _ (List.mem_cons_of_mem _ tw_60)) (X.2.2.2.2 _ (List.mem_cons_of_mem _ tw_61)) rfl (by rw [X.2.2.1]; exact hv.1) rfl dX9_init_1 (Nat.le_of_ble_eq_true rfl) (Nat.le_of_ble_eq_true rfl) ?_
  refine W.eq (g2 := F0 m 4 ls []) rfl ?_
  refine lv_aload_n X.1 X.2.1 dX9_init_4 rfl (lv_at hv 0 rfl) ?_
  refine xp_new X hk hw (ci := 0) (fs := [.null, .null, .null, .null]) tlX0 tyX0 tyX0_ok tw_62 tw_63 tw_40 rfl (fun j hj => by rcases (show j = 0 ∨ j = 1 ∨ j = 2 ∨ j = 3 by omega) with rfl | rfl | rfl | rfl <;> rfl) (Nat.le_of_ble_eq_true rfl) (Nat.le_of_ble_eq_true rfl) dX9_init_5 (fun q1 H hw => ?_)
  replace hw : wl Z rest [(h0, .inr (7, [.null, .null, .null, .null, .int 0, .int 0, .int 0, .int 0, .int 0])), (q1, .inr (0, [.null, .null, .null, .null]))] H := hw
  refine lv_dup X.1 X.2.1 dX9_init_8 rfl ?_
  have hw1 : wl Z (rest ++ [(h0, .inr (7, [.null, .null, .null, .null, .int 0, .int 0, .int 0, .int 0, .int 0]))]) [(q1, .inr (0, [.null, .null, .null, .null]))] H := wl.shift hw
  refine xp_IN X hk hw1 hl hv.1 (k_X0_init l Z (rest ++ [(h0, .inr (7, [.null, .null, .null, .null, .int 0, .int 0, .int 0, .int 0, .int 0]))]) q1) (tb_wq tw_66) tw_40 xn_0 tw_65 rfl rfl rfl (by decide +kernel) ⟨Nat.le_of_ble_eq_true rfl, Nat.le_of_ble_eq_true rfl⟩ (Nat.le_of_ble_eq_true rfl) dX9_init_9 ⟨Nat.le_of_ble_eq_true rfl, Nat.le_of_ble_eq_true rfl⟩ (fun w H locs hP hw hl => ?_)
  obtain ⟨q2, q3, q4, q5, q6, rfl⟩ := hP
  replace hw : wl Z rest [(h0, .inr (7, [.null, .null, .null, .null, .int 0, .int 0, .int 0, .int 0, .int 0])), (q1, .inr (0, [.ref q2, .ref q3, .ref q4, .ref q5])), (q2, .inl (Z.2.1 2, 10, .inr (.inr (.inr (.inr (fun _ => none)))))), (q3, .inl (Z.2.1 0, 10, .inl (fun _ => 0))), (q4, .inl (Z.2.1 1, 64, .inr (.inl (fun _ => 0)))), (q5, .inr (5, [.ref q6, .int 0, .int 0, .int 0])), (q6, .inl (Z.2.1 3, 400, .inr (.inr (.inr (.inr (fun _ => none))))))] H := wl.back hw
  refine xp_putF X hk hw hl hin (i := 0) (v := .ref q1) 0 rfl rfl tlX9 tyX9 tyX9_ok nmX9 (by decide) tw_164 rfl rfl rfl rfl (Nat.le_of_ble_eq_true rfl) dX9_init_12 (fun H locs hw hl => ?_)
  replace hw : wl Z rest [(h0, .inr (7, [.ref q1, .null, .null, .null, .int 0, .int 0, .int 0, .int 0, .int 0])), (q1, .inr (0, [.ref q2, .ref q3, .ref q4, .ref q5])), (q2, .inl (Z.2.1 2, 10, .inr (.inr (.inr (.inr (fun _ => none)))))), (q3, .inl (Z.2.1 0, 10, .inl (fun _ => 0))), (q4, .inl (Z.2.1 1, 64, .inr (.inl (fun _ => 0)))), (q5, .inr (5, [.ref q6, .int 0, .int 0, .int 0])), (q6, .inl (Z.2.1 3, 400, .inr (.inr (.inr (.inr (fun _ => none))))))] H := hw
  refine lv_aload_n X.1 X.2.1 dX9_init_15 rfl (lv_at hv 0 rfl) ?_
  refine xp_new X hk hw (ci := 6) (fs := [.null, .null, .null, .null, .null, .int 0]) tlX8 tyX8 tyX8_ok tw_112 tw_113 tw_42 rfl (fun j hj => by rcases (show j = 0 ∨ j = 1 ∨ j = 2 ∨ j = 3 ∨ j = 4 ∨ j = 5 by omega) with rfl | rfl | rfl | rfl | rfl | rfl <;> rfl) (Nat.le_of_ble_eq_true rfl) (Nat.le_of_ble_eq_true rfl) dX9_init_16 (fun q7 H hw => ?_)
  replace hw : wl Z rest [(h0, .inr (7, [.ref q1, .null, .null, .null, .int 0, .int 0, .int 0, .int 0, .int 0])), (q1, .inr (0, [.ref q2, .ref q3, .ref q4, .ref q5])), (q2, .inl (Z.2.1 2, 10, .inr (.inr (.inr (.inr (fun _ => none)))))), (q3, .inl (Z.2.1 0, 10, .inl (fun _ => 0))), (q4, .inl (Z.2.1 1, 64, .inr (.inl (fun _ => 0)))), (q5, .inr (5, [.ref q6, .int 0, .int 0, .int 0])), (q6, .inl (Z.2.1 3, 400, .inr (.inr (.inr (.inr (fun _ => none)))))), (q7, .inr (6, [.null, .null, .null, .null, .null, .int 0]))] H := hw
  refine lv_dup X.1 X.2.1 dX9_init_19 rfl ?_
  have hw1 : wl Z (rest ++ [(h0, .inr (7, [.ref q1, .null, .null, .null, .int 0, .int 0, .int 0, .int 0, .int 0])), (q1, .inr (0, [.ref q2, .ref q3, .ref q4, .ref q5])), (q2, .inl (Z.2.1 2, 10, .inr (.inr (.inr (.inr (fun _ => none)))))), (q3, .inl (Z.2.1 0, 10, .inl (fun _ => 0))), (q4, .inl (Z.2.1 1, 64, .inr (.inl (fun _ => 0)))), (q5, .inr (5, [.ref q6, .int 0, .int 0, .int 0])), (q6, .inl (Z.2.1 3, 400, .inr (.inr (.inr (.inr (fun _ => none))))))]) [(q7, .inr (6, [.null, .null, .null, .null, .null, .int 0]))] H := wl.shift hw
  refine xp_IN X hk hw1 hl hv.1 (k_X8_init l Z (rest ++ [(h0, .inr (7, [.ref q1, .null, .null, .null, .int 0, .int 0, .int 0, .int 0, .int 0])), (q1, .inr (0, [.ref q2, .ref q3, .ref q4, .ref q5])), (q2, .inl (Z.2.1 2, 10, .inr (.inr (.inr (.inr (fun _ => none)))))), (q3, .inl (Z.2.1 0, 10, .inl (fun _ => 0))), (q4, .inl (Z.2.1 1, 64, .inr (.inl (fun _ => 0)))), (q5, .inr (5, [.ref q6, .int 0, .int 0, .int 0])), (q6, .inl (Z.2.1 3, 400, .inr (.inr (.inr (.inr (fun _ => none))))))]) q7) (tb_wq tw_116) tw_42 xn_8 tw_115 rfl rfl rfl (by decide +kernel) ⟨Nat.le_of_ble_eq_true rfl, Nat.le_of_ble_eq_true rfl⟩ (Nat.le_of_ble_eq_true rfl) dX9_init_20 ⟨Nat.le_of_ble_eq_true rfl, Nat.le_of_ble_eq_true rfl⟩ (fun w H locs hP hw hl => ?_)
  obtain ⟨q8, q9, q10, q11, q12, rfl⟩ := hP
  replace hw : wl Z rest [(h0, .inr (7, [.ref q1, .null, .null, .null, .int 0, .int 0, .int 0, .int 0, .int 0])), (q1, .inr (0, [.ref q2, .ref q3, .ref q4, .ref q5])), (q2, .inl (Z.2.1 2, 10, .inr (.inr (.inr (.inr (fun _ => none)))))), (q3, .inl (Z.2.1 0, 10, .inl (fun _ => 0))), (q4, .inl (Z.2.1 1, 64, .inr (.inl (fun _ => 0)))), (q5, .inr (5, [.ref q6, .int 0, .int 0, .int 0])), (q6, .inl (Z.2.1 3, 400, .inr (.inr (.inr (.inr (fun _ => none)))))), (q7, .inr (6, [.ref q8, .ref q9, .ref q10, .ref q11, .ref q12, .int 0])), (q8, .inl (Z.2.1 0, 60, .inl (fun _ => 0))), (q9, .inl (Z.2.1 0, 60, .inl (fun _ => 0))), (q10, .inl (Z.2.1 0, 60, .inl (fun _ => 0))), (q11, .inl (Z.2.1 0, 60, .inl (fun _ => 0))), (q12, .inl (Z.2.1 0, 60, .inl (fun _ => 0)))] H := wl.back hw
  refine xp_putF X hk hw hl hin (i := 0) (v := .ref q7) 1 rfl rfl tlX9 tyX9 tyX9_ok nmX9 (by decide) tw_165 rfl rfl rfl rfl (Nat.le_of_ble_eq_true rfl) dX9_init_23 (fun H locs hw hl => ?_)
  replace hw : wl Z rest [(h0, .inr (7, [.ref q1, .ref q7, .null, .null, .int 0, .int 0, .int 0, .int 0, .int 0])), (q1, .inr (0, [.ref q2, .ref q3, .ref q4, .ref q5])), (q2, .inl (Z.2.1 2, 10, .inr (.inr (.inr (.inr (fun _ => none)))))), (q3, .inl (Z.2.1 0, 10, .inl (fun _ => 0))), (q4, .inl (Z.2.1 1, 64, .inr (.inl (fun _ => 0)))), (q5, .inr (5, [.ref q6, .int 0, .int 0, .int 0])), (q6, .inl (Z.2.1 3, 400, .inr (.inr (.inr (.inr (fun _ => none)))))), (q7, .inr (6, [.ref q8, .ref q9, .ref q10, .ref q11, .ref q12, .int 0])), (q8, .inl (Z.2.1 0, 60, .inl (fun _ => 0))), (q9, .inl (Z.2.1 0, 60, .inl (fun _ => 0))), (q10, .inl (Z.2.1 0, 60, .inl (fun _ => 0))), (q11, .inl (Z.2.1 0, 60, .inl (fun _ => 0))), (q12, .inl (Z.2.1 0, 60, .inl (fun _ => 0)))] H := hw
  refine lv_aload_n X.1 X.2.1 dX9_init_26 rfl (lv_at hv 0 rfl) ?_
  refine xp_new X hk hw (ci := 1) (fs := [.null, .null, .int 0, .int 0]) tlX1 tyX1 tyX1_ok tw_142 tw_143 tw_43 rfl (fun j hj => by rcases (show j = 0 ∨ j = 1 ∨ j = 2 ∨ j = 3 by omega) with rfl | rfl | rfl | rfl <;> rfl) (Nat.le_of_ble_eq_true rfl) (Nat.le_of_ble_eq_true rfl) dX9_init_27 (fun q13 H hw => ?_)
  replace hw : wl Z rest [(h0, .inr (7, [.ref q1, .ref q7, .null, .null, .int 0, .int 0, .int 0, .int 0, .int 0])), (q1, .inr (0, [.ref q2, .ref q3, .ref q4, .ref q5])), (q2, .inl (Z.2.1 2, 10, .inr (.inr (.inr (.inr (fun _ => none)))))), (q3, .inl (Z.2.1 0, 10, .inl (fun _ => 0))), (q4, .inl (Z.2.1 1, 64, .inr (.inl (fun _ => 0)))), (q5, .inr (5, [.ref q6, .int 0, .int 0, .int 0])), (q6, .inl (Z.2.1 3, 400, .inr (.inr (.inr (.inr (fun _ => none)))))), (q7, .inr (6, [.ref q8, .ref q9, .ref q10, .ref q11, .ref q12, .int 0])), (q8, .inl (Z.2.1 0, 60, .inl (fun _ => 0))), (q9, .inl (Z.2.1 0, 60, .inl (fun _ => 0))), (q10, .inl (Z.2.1 0, 60, .inl (fun _ => 0))), (q11, .inl (Z.2.1 0, 60, .inl (fun _ => 0))), (q12, .inl (Z.2.1 0, 60, .inl (fun _ => 0))), (q13, .inr (1, [.null, .null, .int 0, .int 0]))] H := hw
  refine lv_dup X.1 X.2.1 dX9_init_30 rfl ?_
  have hw1 : wl Z (rest ++ [(h0, .inr (7, [.ref q1, .ref q7, .null, .null, .int 0, .int 0, .int 0, .int 0, .int 0])), (q1, .inr (0, [.ref q2, .ref q3, .ref q4, .ref q5])), (q2, .inl (Z.2.1 2, 10, .inr (.inr (.inr (.inr (fun _ => none)))))), (q3, .inl (Z.2.1 0, 10, .inl (fun _ => 0))), (q4, .inl (Z.2.1 1, 64, .inr (.inl (fun _ => 0)))), (q5, .inr (5, [.ref q6, .int 0, .int 0, .int 0])), (q6, .inl (Z.2.1 3, 400, .inr (.inr (.inr (.inr (fun _ => none)))))), (q7, .inr (6, [.ref q8, .ref q9, .ref q10, .ref q11, .ref q12, .int 0])), (q8, .inl (Z.2.1 0, 60, .inl (fun _ => 0))), (q9, .inl (Z.2.1 0, 60, .inl (fun _ => 0))), (q10, .inl (Z.2.1 0, 60, .inl (fun _ => 0))), (q11, .inl (Z.2.1 0, 60, .inl (fun _ => 0))), (q12, .inl (Z.2.1 0, 60, .inl (fun _ => 0)))]) [(q13, .inr (1, [.null, .null, .int 0, .int 0]))] H := wl.shift hw
  refine xp_IN X hk hw1 hl hv.1 (k_X1_init l Z (rest ++ [(h0, .inr (7, [.ref q1, .ref q7, .null, .null, .int 0, .int 0, .int 0, .int 0, .int 0])), (q1, .inr (0, [.ref q2, .ref q3, .ref q4, .ref q5])), (q2, .inl (Z.2.1 2, 10, .inr (.inr (.inr (.inr (fun _ => none)))))), (q3, .inl (Z.2.1 0, 10, .inl (fun _ => 0))), (q4, .inl (Z.2.1 1, 64, .inr (.inl (fun _ => 0)))), (q5, .inr (5, [.ref q6, .int 0, .int 0, .int 0])), (q6, .inl (Z.2.1 3, 400, .inr (.inr (.inr (.inr (fun _ => none)))))), (q7, .inr (6, [.ref q8, .ref q9, .ref q10, .ref q11, .ref q12, .int 0])), (q8, .inl (Z.2.1 0, 60, .inl (fun _ => 0))), (q9, .inl (Z.2.1 0, 60, .inl (fun _ => 0))), (q10, .inl (Z.2.1 0, 60, .inl (fun _ => 0))), (q11, .inl (Z.2.1 0, 60, .inl (fun _ => 0))), (q12, .inl (Z.2.1 0, 60, .inl (fun _ => 0)))]) q13) (tb_wq tw_146) tw_43 xn_14 tw_145 rfl rfl rfl (by decide +kernel) ⟨Nat.le_of_ble_eq_true rfl, Nat.le_of_ble_eq_true rfl⟩ (Nat.le_of_ble_eq_true rfl) dX9_init_31 ⟨Nat.le_of_ble_eq_true rfl, Nat.le_of_ble_eq_true rfl⟩ (fun w H locs hP hw hl => ?_)
  obtain ⟨q14, q15, rfl⟩ := hP
  replace hw : wl Z rest [(h0, .inr (7, [.ref q1, .ref q7, .null, .null, .int 0, .int 0, .int 0, .int 0, .int 0])), (q1, .inr (0, [.ref q2, .ref q3, .ref q4, .ref q5])), (q2, .inl (Z.2.1 2, 10, .inr (.inr (.inr (.inr (fun _ => none)))))), (q3, .inl (Z.2.1 0, 10, .inl (fun _ => 0))), (q4, .inl (Z.2.1 1, 64, .inr (.inl (fun _ => 0)))), (q5, .inr (5, [.ref q6, .int 0, .int 0, .int 0])), (q6, .inl (Z.2.1 3, 400, .inr (.inr (.inr (.inr (fun _ => none)))))), (q7, .inr (6, [.ref q8, .ref q9, .ref q10, .ref q11, .ref q12, .int 0])), (q8, .inl (Z.2.1 0, 60, .inl (fun _ => 0))), (q9, .inl (Z.2.1 0, 60, .inl (fun _ => 0))), (q10, .inl (Z.2.1 0, 60, .inl (fun _ => 0))), (q11, .inl (Z.2.1 0, 60, .inl (fun _ => 0))), (q12, .inl (Z.2.1 0, 60, .inl (fun _ => 0))), (q13, .inr (1, [.ref q14, .ref q15, .int 0, .int 0])), (q14, .inl (Z.2.1 4, 20, .inr (.inr (.inr (.inr (fun _ => none)))))), (q15, .inl (Z.2.1 1, 1280, .inr (.inl (fun _ => 0))))] H := wl.back hw
  refine xp_putF X hk hw hl hin (i := 0) (v := .ref q13) 2 rfl rfl tlX9 tyX9 tyX9_ok nmX9 (by decide) tw_166 rfl rfl rfl rfl (Nat.le_of_ble_eq_true rfl) dX9_init_34 (fun H locs hw hl => ?_)
  replace hw : wl Z rest [(h0, .inr (7, [.ref q1, .ref q7, .ref q13, .null, .int 0, .int 0, .int 0, .int 0, .int 0])), (q1, .inr (0, [.ref q2, .ref q3, .ref q4, .ref q5])), (q2, .inl (Z.2.1 2, 10, .inr (.inr (.inr (.inr (fun _ => none)))))), (q3, .inl (Z.2.1 0, 10, .inl (fun _ => 0))), (q4, .inl (Z.2.1 1, 64, .inr (.inl (fun _ => 0)))), (q5, .inr (5, [.ref q6, .int 0, .int 0, .int 0])), (q6, .inl (Z.2.1 3, 400, .inr (.inr (.inr (.inr (fun _ => none)))))), (q7, .inr (6, [.ref q8, .ref q9, .ref q10, .ref q11, .ref q12, .int 0])), (q8, .inl (Z.2.1 0, 60, .inl (fun _ => 0))), (q9, .inl (Z.2.1 0, 60, .inl (fun _ => 0))), (q10, .inl (Z.2.1 0, 60, .inl (fun _ => 0))), (q11, .inl (Z.2.1 0, 60, .inl (fun _ => 0))), (q12, .inl (Z.2.1 0, 60, .inl (fun _ => 0))), (q13, .inr (1, [.ref q14, .ref q15, .int 0, .int 0])), (q14, .inl (Z.2.1 4, 20, .inr (.inr (.inr (.inr (fun _ => none)))))), (q15, .inl (Z.2.1 1, 1280, .inr (.inl (fun _ => 0))))] H := hw
  refine lv_aload_n X.1 X.2.1 dX9_init_37 rfl (lv_at hv 0 rfl) ?_
  refine lv_bipush (v := 64) X.1 X.2.1 dX9_init_38 (by decide) ?_
  refine xp_newl X hk hw 64 rfl (by decide) (Nat.le_of_ble_eq_true rfl) (Nat.le_of_ble_eq_true rfl) dX9_init_40 (fun q16 H hw => ?_)
  replace hw : wl Z rest [(h0, .inr (7, [.ref q1, .ref q7, .ref q13, .null, .int 0, .int 0, .int 0, .int 0, .int 0])), (q1, .inr (0, [.ref q2, .ref q3, .ref q4, .ref q5])), (q2, .inl (Z.2.1 2, 10, .inr (.inr (.inr (.inr (fun _ => none)))))), (q3, .inl (Z.2.1 0, 10, .inl (fun _ => 0))), (q4, .inl (Z.2.1 1, 64, .inr (.inl (fun _ => 0)))), (q5, .inr (5, [.ref q6, .int 0, .int 0, .int 0])), (q6, .inl (Z.2.1 3, 400, .inr (.inr (.inr (.inr (fun _ => none)))))), (q7, .inr (6, [.ref q8, .ref q9, .ref q10, .ref q11, .ref q12, .int 0])), (q8, .inl (Z.2.1 0, 60, .inl (fun _ => 0))), (q9, .inl (Z.2.1 0, 60, .inl (fun _ => 0))), (q10, .inl (Z.2.1 0, 60, .inl (fun _ => 0))), (q11, .inl (Z.2.1 0, 60, .inl (fun _ => 0))), (q12, .inl (Z.2.1 0, 60, .inl (fun _ => 0))), (q13, .inr (1, [.ref q14, .ref q15, .int 0, .int 0])), (q14, .inl (Z.2.1 4, 20, .inr (.inr (.inr (.inr (fun _ => none)))))), (q15, .inl (Z.2.1 1, 1280, .inr (.inl (fun _ => 0)))), (q16, .inl (Z.2.1 1, 64, .inr (.inl (fun _ => 0))))] H := hw
  refine xp_putF X hk hw hl hin (i := 0) (v := .ref q16) 3 rfl rfl tlX9 tyX9 tyX9_ok nmX9 (by decide) tw_167 rfl rfl rfl rfl (Nat.le_of_ble_eq_true rfl) dX9_init_42 (fun H locs hw hl => ?_)
  replace hw : wl Z rest [(h0, .inr (7, [.ref q1, .ref q7, .ref q13, .ref q16, .int 0, .int 0, .int 0, .int 0, .int 0])), (q1, .inr (0, [.ref q2, .ref q3, .ref q4, .ref q5])), (q2, .inl (Z.2.1 2, 10, .inr (.inr (.inr (.inr (fun _ => none)))))), (q3, .inl (Z.2.1 0, 10, .inl (fun _ => 0))), (q4, .inl (Z.2.1 1, 64, .inr (.inl (fun _ => 0)))), (q5, .inr (5, [.ref q6, .int 0, .int 0, .int 0])), (q6, .inl (Z.2.1 3, 400, .inr (.inr (.inr (.inr (fun _ => none)))))), (q7, .inr (6, [.ref q8, .ref q9, .ref q10, .ref q11, .ref q12, .int 0])), (q8, .inl (Z.2.1 0, 60, .inl (fun _ => 0))), (q9, .inl (Z.2.1 0, 60, .inl (fun _ => 0))), (q10, .inl (Z.2.1 0, 60, .inl (fun _ => 0))), (q11, .inl (Z.2.1 0, 60, .inl (fun _ => 0))), (q12, .inl (Z.2.1 0, 60, .inl (fun _ => 0))), (q13, .inr (1, [.ref q14, .ref q15, .int 0, .int 0])), (q14, .inl (Z.2.1 4, 20, .inr (.inr (.inr (.inr (fun _ => none)))))), (q15, .inl (Z.2.1 1, 1280, .inr (.inl (fun _ => 0)))), (q16, .inl (Z.2.1 1, 64, .inr (.inl (fun _ => 0))))] H := hw
  refine lv_aload_n X.1 X.2.1 dX9_init_45 rfl (lv_at hv 0 rfl) ?_
  refine lv_iconst (v := (-1)) X.1 X.2.1 dX9_init_46 (by decide) ?_
  refine xp_put X hk hw hl (i := 0) (v := .int (-1)) 8 rfl rfl tlX9 tyX9 tyX9_ok nmX9 (by decide) tw_172 rfl rfl rfl (Nat.le_of_ble_eq_true rfl) dX9_init_47 (fun H locs hw hl => ?_)
  replace hw : wl Z rest [(h0, .inr (7, [.ref q1, .ref q7, .ref q13, .ref q16, .int 0, .int 0, .int 0, .int 0, .int (-1)])), (q1, .inr (0, [.ref q2, .ref q3, .ref q4, .ref q5])), (q2, .inl (Z.2.1 2, 10, .inr (.inr (.inr (.inr (fun _ => none)))))), (q3, .inl (Z.2.1 0, 10, .inl (fun _ => 0))), (q4, .inl (Z.2.1 1, 64, .inr (.inl (fun _ => 0)))), (q5, .inr (5, [.ref q6, .int 0, .int 0, .int 0])), (q6, .inl (Z.2.1 3, 400, .inr (.inr (.inr (.inr (fun _ => none)))))), (q7, .inr (6, [.ref q8, .ref q9, .ref q10, .ref q11, .ref q12, .int 0])), (q8, .inl (Z.2.1 0, 60, .inl (fun _ => 0))), (q9, .inl (Z.2.1 0, 60, .inl (fun _ => 0))), (q10, .inl (Z.2.1 0, 60, .inl (fun _ => 0))), (q11, .inl (Z.2.1 0, 60, .inl (fun _ => 0))), (q12, .inl (Z.2.1 0, 60, .inl (fun _ => 0))), (q13, .inr (1, [.ref q14, .ref q15, .int 0, .int 0])), (q14, .inl (Z.2.1 4, 20, .inr (.inr (.inr (.inr (fun _ => none)))))), (q15, .inl (Z.2.1 1, 1280, .inr (.inl (fun _ => 0)))), (q16, .inl (Z.2.1 1, 64, .inr (.inl (fun _ => 0))))] H := hw
  refine W.widen (k := 16) (n := 2166) (Nat.le_of_ble_eq_true rfl) (Nat.le_of_ble_eq_true rfl) ?_
  exact xp_ret X hr hlocks hw hl ⟨q1, q2, q3, q4, q5, q6, q7, q8, q9, q10, q11, q12, q13, q14, q15, q16, rfl⟩ dX9_init_50
set_option maxHeartbeats 4000000 in
set_option maxRecDepth 100000 in
theorem k_X10_init (l : Launch) (Z : xz_T) (rest : va_W) (h0 : Nat) : Met l yX10_init (wq yX10_init cX10_init 1 none) { frames := 1, cells := 17, slots := 5519, locals := 30 } (xKc Z rest [(h0, .inr (8, [.int 0, .null, .null, .null, .int 0, .null, .int 0, .null, .int 0, .null, .null, .null, .int 0, .null, .null, .null, .null, .null, .int 0, .null, .null, .null, .null, .int 0, .int 0, .int 0, .int 0, .int 0]))] [.ref h0]) (xKq Z rest (fun w => ∃ q1 q2 q3 q4 q5 q6 q7 q8 q9 q10 q11 q12 q13 q14 q15 q16 q17 : Nat, w = [(h0, .inr (8, [.int 0, .ref q1, .ref q2, .ref q3, .int 0, .ref q4, .int 0, .ref q5, .int 0, .ref q6, .ref q7, .ref q8, .int 0, .ref q9, .ref q10, .ref q11, .ref q12, .ref q13, .int 0, .ref q14, .ref q15, .ref q16, .ref q17, .int 0, .int 0, .int 0, .int 0, .int (-1)])), (q1, .inl (Z.2.1 0, 120, .inl (fun _ => 0))), (q2, .inl (Z.2.1 0, 120, .inl (fun _ => 0))), (q3, .inl (Z.2.1 0, 120, .inl (fun _ => 0))), (q4, .inl (Z.2.1 1, 3000, .inr (.inl (fun _ => 0)))), (q5, .inl (Z.2.1 0, 401, .inl (fun _ => 0))), (q6, .inl (Z.2.1 0, 10, .inl (fun _ => 0))), (q7, .inl (Z.2.1 0, 10, .inl (fun _ => 0))), (q8, .inl (Z.2.1 0, 10, .inl (fun _ => 0))), (q9, .inl (Z.2.1 0, 60, .inl (fun _ => 0))), (q10, .inl (Z.2.1 0, 60, .inl (fun _ => 0))), (q11, .inl (Z.2.1 0, 60, .inl (fun _ => 0))), (q12, .inl (Z.2.1 0, 60, .inl (fun _ => 0))), (q13, .inl (Z.2.1 0, 60, .inl (fun _ => 0))), (q14, .inl (Z.2.1 0, 20, .inl (fun _ => 0))), (q15, .inl (Z.2.1 1, 1280, .inr (.inl (fun _ => 0)))), (q16, .inl (Z.2.1 1, 64, .inr (.inl (fun _ => 0)))), (q17, .inl (Z.2.1 1, 64, .inr (.inl (fun _ => 0))))])) 17 5519 (fun q => Z.2.2.1 ≤ q) := by
  refine Met.ofW (cc := cX10_init) (maxL := 1) (ret := none) (by decide +kernel) rfl ?_
  intro p e s m args below meth c s₁ B hml hv0
  obtain ⟨rfl, hk, hw⟩ := hv0
  have X : CallFix p m c cX10_init 1 s _ (wq yX10_init cX10_init 1 none) RX10 := ⟨B.exec, B.bytes, hml, findClass_of_methodNamed B.named, atoms_spec (ws := (wq yX10_init cX10_init 1 none)) B.pre⟩
  have hr := B.returns
  have hlocks := B.notSynchronized
  have hin : meth.name = "<init>" := (name_of_methodNamed B.named B.method).1
  have hl : xl Z [] := fun _ h => by cases h
  have hv := lv_entry [.ref h0] (n := 1) (Nat.le_of_ble_eq_true rfl)
  rw [lg_entry_eq]
  generalize (lg_sl [.ref h0] ++ List.replicate (1 - (lg_sl [.ref h0]).length) Slot.unset).toArray = ls at hv ⊢
  replace hv : lv_has ls 1 [(0, .ref h0)] := hv
  refine lv_aload_n X.1 X.2.1 dX10_init_0 rfl (lv_at hv 0 rfl) ?_
  refine W.objInit X.1 X.2.1 X.2.2.2.1 (X.2.2.2.2 _ (List.mem_cons_of_mem _ tw_518)) (X.2.2.2.2 _ (List.mem_cons_of_mem _ tw_60)) (X.2.2.2.2 _ (List.mem_cons_of_mem _ tw_61)) rfl (by rw [X.2.2.1]; exact hv.1) rfl dX10_init_1 (Nat.le_of_ble_eq_true rfl) (Nat.le_of_ble_eq_true rfl) ?_
  refine W.eq (g2 := F0 m 4 ls []) rfl ?_
  refine lv_aload_n X.1 X.2.1 dX10_init_4 rfl (lv_at hv 0 rfl) ?_
  refine lv_bipush (v := 120) X.1 X.2.1 dX10_init_5 (by decide) ?_
  refine xp_newi X hk hw 120 rfl (by decide) (Nat.le_of_ble_eq_true rfl) (Nat.le_of_ble_eq_true rfl) dX10_init_7 (fun q1 H hw => ?_)
  replace hw : wl Z rest [(h0, .inr (8, [.int 0, .null, .null, .null, .int 0, .null, .int 0, .null, .int 0, .null, .null, .null, .int 0, .null, .null, .null, .null, .null, .int 0, .null, .null, .null, .null, .int 0, .int 0, .int 0, .int 0, .int 0])), (q1, .inl (Z.2.1 0, 120, .inl (fun _ => 0)))] H := hw
  refine xp_putF X hk hw hl hin (i := 0) (v := .ref q1) 1 rfl rfl tlX10 tyX10 tyX10_ok nmX10 (by decide) tw_520 rfl rfl rfl rfl (Nat.le_of_ble_eq_true rfl) dX10_init_9 (fun H locs hw hl => ?_)
  replace hw : wl Z rest [(h0, .inr (8, [.int 0, .ref q1, .null, .null, .int 0, .null, .int 0, .null, .int 0, .null, .null, .null, .int 0, .null, .null, .null, .null, .null, .int 0, .null, .null, .null, .null, .int 0, .int 0, .int 0, .int 0, .int 0])), (q1, .inl (Z.2.1 0, 120, .inl (fun _ => 0)))] H := hw
  refine lv_aload_n X.1 X.2.1 dX10_init_12 rfl (lv_at hv 0 rfl) ?_
  refine lv_bipush (v := 120) X.1 X.2.1 dX10_init_13 (by decide) ?_
  refine xp_newi X hk hw 120 rfl (by decide) (Nat.le_of_ble_eq_true rfl) (Nat.le_of_ble_eq_true rfl) dX10_init_15 (fun q2 H hw => ?_)
  replace hw : wl Z rest [(h0, .inr (8, [.int 0, .ref q1, .null, .null, .int 0, .null, .int 0, .null, .int 0, .null, .null, .null, .int 0, .null, .null, .null, .null, .null, .int 0, .null, .null, .null, .null, .int 0, .int 0, .int 0, .int 0, .int 0])), (q1, .inl (Z.2.1 0, 120, .inl (fun _ => 0))), (q2, .inl (Z.2.1 0, 120, .inl (fun _ => 0)))] H := hw
  refine xp_putF X hk hw hl hin (i := 0) (v := .ref q2) 2 rfl rfl tlX10 tyX10 tyX10_ok nmX10 (by decide) tw_521 rfl rfl rfl rfl (Nat.le_of_ble_eq_true rfl) dX10_init_17 (fun H locs hw hl => ?_)
  replace hw : wl Z rest [(h0, .inr (8, [.int 0, .ref q1, .ref q2, .null, .int 0, .null, .int 0, .null, .int 0, .null, .null, .null, .int 0, .null, .null, .null, .null, .null, .int 0, .null, .null, .null, .null, .int 0, .int 0, .int 0, .int 0, .int 0])), (q1, .inl (Z.2.1 0, 120, .inl (fun _ => 0))), (q2, .inl (Z.2.1 0, 120, .inl (fun _ => 0)))] H := hw
  refine lv_aload_n X.1 X.2.1 dX10_init_20 rfl (lv_at hv 0 rfl) ?_
  refine lv_bipush (v := 120) X.1 X.2.1 dX10_init_21 (by decide) ?_
  refine xp_newi X hk hw 120 rfl (by decide) (Nat.le_of_ble_eq_true rfl) (Nat.le_of_ble_eq_true rfl) dX10_init_23 (fun q3 H hw => ?_)
  replace hw : wl Z rest [(h0, .inr (8, [.int 0, .ref q1, .ref q2, .null, .int 0, .null, .int 0, .null, .int 0, .null, .null, .null, .int 0, .null, .null, .null, .null, .null, .int 0, .null, .null, .null, .null, .int 0, .int 0, .int 0, .int 0, .int 0])), (q1, .inl (Z.2.1 0, 120, .inl (fun _ => 0))), (q2, .inl (Z.2.1 0, 120, .inl (fun _ => 0))), (q3, .inl (Z.2.1 0, 120, .inl (fun _ => 0)))] H := hw
  refine xp_putF X hk hw hl hin (i := 0) (v := .ref q3) 3 rfl rfl tlX10 tyX10 tyX10_ok nmX10 (by decide) tw_522 rfl rfl rfl rfl (Nat.le_of_ble_eq_true rfl) dX10_init_25 (fun H locs hw hl => ?_)
  replace hw : wl Z rest [(h0, .inr (8, [.int 0, .ref q1, .ref q2, .ref q3, .int 0, .null, .int 0, .null, .int 0, .null, .null, .null, .int 0, .null, .null, .null, .null, .null, .int 0, .null, .null, .null, .null, .int 0, .int 0, .int 0, .int 0, .int 0])), (q1, .inl (Z.2.1 0, 120, .inl (fun _ => 0))), (q2, .inl (Z.2.1 0, 120, .inl (fun _ => 0))), (q3, .inl (Z.2.1 0, 120, .inl (fun _ => 0)))] H := hw
  refine lv_aload_n X.1 X.2.1 dX10_init_28 rfl (lv_at hv 0 rfl) ?_
  refine lv_sipush (v := 3000) X.1 X.2.1 dX10_init_29 (by decide) ?_
  refine xp_newl X hk hw 3000 rfl (by decide) (Nat.le_of_ble_eq_true rfl) (Nat.le_of_ble_eq_true rfl) dX10_init_32 (fun q4 H hw => ?_)
  replace hw : wl Z rest [(h0, .inr (8, [.int 0, .ref q1, .ref q2, .ref q3, .int 0, .null, .int 0, .null, .int 0, .null, .null, .null, .int 0, .null, .null, .null, .null, .null, .int 0, .null, .null, .null, .null, .int 0, .int 0, .int 0, .int 0, .int 0])), (q1, .inl (Z.2.1 0, 120, .inl (fun _ => 0))), (q2, .inl (Z.2.1 0, 120, .inl (fun _ => 0))), (q3, .inl (Z.2.1 0, 120, .inl (fun _ => 0))), (q4, .inl (Z.2.1 1, 3000, .inr (.inl (fun _ => 0))))] H := hw
  refine xp_putF X hk hw hl hin (i := 0) (v := .ref q4) 5 rfl rfl tlX10 tyX10 tyX10_ok nmX10 (by decide) tw_524 rfl rfl rfl rfl (Nat.le_of_ble_eq_true rfl) dX10_init_34 (fun H locs hw hl => ?_)
  replace hw : wl Z rest [(h0, .inr (8, [.int 0, .ref q1, .ref q2, .ref q3, .int 0, .ref q4, .int 0, .null, .int 0, .null, .null, .null, .int 0, .null, .null, .null, .null, .null, .int 0, .null, .null, .null, .null, .int 0, .int 0, .int 0, .int 0, .int 0])), (q1, .inl (Z.2.1 0, 120, .inl (fun _ => 0))), (q2, .inl (Z.2.1 0, 120, .inl (fun _ => 0))), (q3, .inl (Z.2.1 0, 120, .inl (fun _ => 0))), (q4, .inl (Z.2.1 1, 3000, .inr (.inl (fun _ => 0))))] H := hw
  refine lv_aload_n X.1 X.2.1 dX10_init_37 rfl (lv_at hv 0 rfl) ?_
  refine lv_sipush (v := 401) X.1 X.2.1 dX10_init_38 (by decide) ?_
  refine xp_newi X hk hw 401 rfl (by decide) (Nat.le_of_ble_eq_true rfl) (Nat.le_of_ble_eq_true rfl) dX10_init_41 (fun q5 H hw => ?_)
  replace hw : wl Z rest [(h0, .inr (8, [.int 0, .ref q1, .ref q2, .ref q3, .int 0, .ref q4, .int 0, .null, .int 0, .null, .null, .null, .int 0, .null, .null, .null, .null, .null, .int 0, .null, .null, .null, .null, .int 0, .int 0, .int 0, .int 0, .int 0])), (q1, .inl (Z.2.1 0, 120, .inl (fun _ => 0))), (q2, .inl (Z.2.1 0, 120, .inl (fun _ => 0))), (q3, .inl (Z.2.1 0, 120, .inl (fun _ => 0))), (q4, .inl (Z.2.1 1, 3000, .inr (.inl (fun _ => 0)))), (q5, .inl (Z.2.1 0, 401, .inl (fun _ => 0)))] H := hw
  refine xp_putF X hk hw hl hin (i := 0) (v := .ref q5) 7 rfl rfl tlX10 tyX10 tyX10_ok nmX10 (by decide) tw_526 rfl rfl rfl rfl (Nat.le_of_ble_eq_true rfl) dX10_init_43 (fun H locs hw hl => ?_)
  replace hw : wl Z rest [(h0, .inr (8, [.int 0, .ref q1, .ref q2, .ref q3, .int 0, .ref q4, .int 0, .ref q5, .int 0, .null, .null, .null, .int 0, .null, .null, .null, .null, .null, .int 0, .null, .null, .null, .null, .int 0, .int 0, .int 0, .int 0, .int 0])), (q1, .inl (Z.2.1 0, 120, .inl (fun _ => 0))), (q2, .inl (Z.2.1 0, 120, .inl (fun _ => 0))), (q3, .inl (Z.2.1 0, 120, .inl (fun _ => 0))), (q4, .inl (Z.2.1 1, 3000, .inr (.inl (fun _ => 0)))), (q5, .inl (Z.2.1 0, 401, .inl (fun _ => 0)))] H := hw
  refine lv_aload_n X.1 X.2.1 dX10_init_46 rfl (lv_at hv 0 rfl) ?_
  refine lv_bipush (v := 10) X.1 X.2.1 dX10_init_47 (by decide) ?_
  refine xp_newi X hk hw 10 rfl (by decide) (Nat.le_of_ble_eq_true rfl) (Nat.le_of_ble_eq_true rfl) dX10_init_49 (fun q6 H hw => ?_)
  replace hw : wl Z rest [(h0, .inr (8, [.int 0, .ref q1, .ref q2, .ref q3, .int 0, .ref q4, .int 0, .ref q5, .int 0, .null, .null, .null, .int 0, .null, .null, .null, .null, .null, .int 0, .null, .null, .null, .null, .int 0, .int 0, .int 0, .int 0, .int 0])), (q1, .inl (Z.2.1 0, 120, .inl (fun _ => 0))), (q2, .inl (Z.2.1 0, 120, .inl (fun _ => 0))), (q3, .inl (Z.2.1 0, 120, .inl (fun _ => 0))), (q4, .inl (Z.2.1 1, 3000, .inr (.inl (fun _ => 0)))), (q5, .inl (Z.2.1 0, 401, .inl (fun _ => 0))), (q6, .inl (Z.2.1 0, 10, .inl (fun _ => 0)))] H := hw
  refine xp_putF X hk hw hl hin (i := 0) (v := .ref q6) 9 rfl rfl tlX10 tyX10 tyX10_ok nmX10 (by decide) tw_528 rfl rfl rfl rfl (Nat.le_of_ble_eq_true rfl) dX10_init_51 (fun H locs hw hl => ?_)
  replace hw : wl Z rest [(h0, .inr (8, [.int 0, .ref q1, .ref q2, .ref q3, .int 0, .ref q4, .int 0, .ref q5, .int 0, .ref q6, .null, .null, .int 0, .null, .null, .null, .null, .null, .int 0, .null, .null, .null, .null, .int 0, .int 0, .int 0, .int 0, .int 0])), (q1, .inl (Z.2.1 0, 120, .inl (fun _ => 0))), (q2, .inl (Z.2.1 0, 120, .inl (fun _ => 0))), (q3, .inl (Z.2.1 0, 120, .inl (fun _ => 0))), (q4, .inl (Z.2.1 1, 3000, .inr (.inl (fun _ => 0)))), (q5, .inl (Z.2.1 0, 401, .inl (fun _ => 0))), (q6, .inl (Z.2.1 0, 10, .inl (fun _ => 0)))] H := hw
  refine lv_aload_n X.1 X.2.1 dX10_init_54 rfl (lv_at hv 0 rfl) ?_
  refine lv_bipush (v := 10) X.1 X.2.1 dX10_init_55 (by decide) ?_
  refine xp_newi X hk hw 10 rfl (by decide) (Nat.le_of_ble_eq_true rfl) (Nat.le_of_ble_eq_true rfl) dX10_init_57 (fun q7 H hw => ?_)
  replace hw : wl Z rest [(h0, .inr (8, [.int 0, .ref q1, .ref q2, .ref q3, .int 0, .ref q4, .int 0, .ref q5, .int 0, .ref q6, .null, .null, .int 0, .null, .null, .null, .null, .null, .int 0, .null, .null, .null, .null, .int 0, .int 0, .int 0, .int 0, .int 0])), (q1, .inl (Z.2.1 0, 120, .inl (fun _ => 0))), (q2, .inl (Z.2.1 0, 120, .inl (fun _ => 0))), (q3, .inl (Z.2.1 0, 120, .inl (fun _ => 0))), (q4, .inl (Z.2.1 1, 3000, .inr (.inl (fun _ => 0)))), (q5, .inl (Z.2.1 0, 401, .inl (fun _ => 0))), (q6, .inl (Z.2.1 0, 10, .inl (fun _ => 0))), (q7, .inl (Z.2.1 0, 10, .inl (fun _ => 0)))] H := hw
  refine xp_putF X hk hw hl hin (i := 0) (v := .ref q7) 10 rfl rfl tlX10 tyX10 tyX10_ok nmX10 (by decide) tw_529 rfl rfl rfl rfl (Nat.le_of_ble_eq_true rfl) dX10_init_59 (fun H locs hw hl => ?_)
  replace hw : wl Z rest [(h0, .inr (8, [.int 0, .ref q1, .ref q2, .ref q3, .int 0, .ref q4, .int 0, .ref q5, .int 0, .ref q6, .ref q7, .null, .int 0, .null, .null, .null, .null, .null, .int 0, .null, .null, .null, .null, .int 0, .int 0, .int 0, .int 0, .int 0])), (q1, .inl (Z.2.1 0, 120, .inl (fun _ => 0))), (q2, .inl (Z.2.1 0, 120, .inl (fun _ => 0))), (q3, .inl (Z.2.1 0, 120, .inl (fun _ => 0))), (q4, .inl (Z.2.1 1, 3000, .inr (.inl (fun _ => 0)))), (q5, .inl (Z.2.1 0, 401, .inl (fun _ => 0))), (q6, .inl (Z.2.1 0, 10, .inl (fun _ => 0))), (q7, .inl (Z.2.1 0, 10, .inl (fun _ => 0)))] H := hw
  refine lv_aload_n X.1 X.2.1 dX10_init_62 rfl (lv_at hv 0 rfl) ?_
  refine lv_bipush (v := 10) X.1 X.2.1 dX10_init_63 (by decide) ?_
  refine xp_newi X hk hw 10 rfl (by decide) (Nat.le_of_ble_eq_true rfl) (Nat.le_of_ble_eq_true rfl) dX10_init_65 (fun q8 H hw => ?_)
  replace hw : wl Z rest [(h0, .inr (8, [.int 0, .ref q1, .ref q2, .ref q3, .int 0, .ref q4, .int 0, .ref q5, .int 0, .ref q6, .ref q7, .null, .int 0, .null, .null, .null, .null, .null, .int 0, .null, .null, .null, .null, .int 0, .int 0, .int 0, .int 0, .int 0])), (q1, .inl (Z.2.1 0, 120, .inl (fun _ => 0))), (q2, .inl (Z.2.1 0, 120, .inl (fun _ => 0))), (q3, .inl (Z.2.1 0, 120, .inl (fun _ => 0))), (q4, .inl (Z.2.1 1, 3000, .inr (.inl (fun _ => 0)))), (q5, .inl (Z.2.1 0, 401, .inl (fun _ => 0))), (q6, .inl (Z.2.1 0, 10, .inl (fun _ => 0))), (q7, .inl (Z.2.1 0, 10, .inl (fun _ => 0))), (q8, .inl (Z.2.1 0, 10, .inl (fun _ => 0)))] H := hw
  refine xp_putF X hk hw hl hin (i := 0) (v := .ref q8) 11 rfl rfl tlX10 tyX10 tyX10_ok nmX10 (by decide) tw_530 rfl rfl rfl rfl (Nat.le_of_ble_eq_true rfl) dX10_init_67 (fun H locs hw hl => ?_)
  replace hw : wl Z rest [(h0, .inr (8, [.int 0, .ref q1, .ref q2, .ref q3, .int 0, .ref q4, .int 0, .ref q5, .int 0, .ref q6, .ref q7, .ref q8, .int 0, .null, .null, .null, .null, .null, .int 0, .null, .null, .null, .null, .int 0, .int 0, .int 0, .int 0, .int 0])), (q1, .inl (Z.2.1 0, 120, .inl (fun _ => 0))), (q2, .inl (Z.2.1 0, 120, .inl (fun _ => 0))), (q3, .inl (Z.2.1 0, 120, .inl (fun _ => 0))), (q4, .inl (Z.2.1 1, 3000, .inr (.inl (fun _ => 0)))), (q5, .inl (Z.2.1 0, 401, .inl (fun _ => 0))), (q6, .inl (Z.2.1 0, 10, .inl (fun _ => 0))), (q7, .inl (Z.2.1 0, 10, .inl (fun _ => 0))), (q8, .inl (Z.2.1 0, 10, .inl (fun _ => 0)))] H := hw
  refine lv_aload_n X.1 X.2.1 dX10_init_70 rfl (lv_at hv 0 rfl) ?_
  refine lv_bipush (v := 60) X.1 X.2.1 dX10_init_71 (by decide) ?_
  refine xp_newi X hk hw 60 rfl (by decide) (Nat.le_of_ble_eq_true rfl) (Nat.le_of_ble_eq_true rfl) dX10_init_73 (fun q9 H hw => ?_)
  replace hw : wl Z rest [(h0, .inr (8, [.int 0, .ref q1, .ref q2, .ref q3, .int 0, .ref q4, .int 0, .ref q5, .int 0, .ref q6, .ref q7, .ref q8, .int 0, .null, .null, .null, .null, .null, .int 0, .null, .null, .null, .null, .int 0, .int 0, .int 0, .int 0, .int 0])), (q1, .inl (Z.2.1 0, 120, .inl (fun _ => 0))), (q2, .inl (Z.2.1 0, 120, .inl (fun _ => 0))), (q3, .inl (Z.2.1 0, 120, .inl (fun _ => 0))), (q4, .inl (Z.2.1 1, 3000, .inr (.inl (fun _ => 0)))), (q5, .inl (Z.2.1 0, 401, .inl (fun _ => 0))), (q6, .inl (Z.2.1 0, 10, .inl (fun _ => 0))), (q7, .inl (Z.2.1 0, 10, .inl (fun _ => 0))), (q8, .inl (Z.2.1 0, 10, .inl (fun _ => 0))), (q9, .inl (Z.2.1 0, 60, .inl (fun _ => 0)))] H := hw
  refine xp_putF X hk hw hl hin (i := 0) (v := .ref q9) 13 rfl rfl tlX10 tyX10 tyX10_ok nmX10 (by decide) tw_532 rfl rfl rfl rfl (Nat.le_of_ble_eq_true rfl) dX10_init_75 (fun H locs hw hl => ?_)
  replace hw : wl Z rest [(h0, .inr (8, [.int 0, .ref q1, .ref q2, .ref q3, .int 0, .ref q4, .int 0, .ref q5, .int 0, .ref q6, .ref q7, .ref q8, .int 0, .ref q9, .null, .null, .null, .null, .int 0, .null, .null, .null, .null, .int 0, .int 0, .int 0, .int 0, .int 0])), (q1, .inl (Z.2.1 0, 120, .inl (fun _ => 0))), (q2, .inl (Z.2.1 0, 120, .inl (fun _ => 0))), (q3, .inl (Z.2.1 0, 120, .inl (fun _ => 0))), (q4, .inl (Z.2.1 1, 3000, .inr (.inl (fun _ => 0)))), (q5, .inl (Z.2.1 0, 401, .inl (fun _ => 0))), (q6, .inl (Z.2.1 0, 10, .inl (fun _ => 0))), (q7, .inl (Z.2.1 0, 10, .inl (fun _ => 0))), (q8, .inl (Z.2.1 0, 10, .inl (fun _ => 0))), (q9, .inl (Z.2.1 0, 60, .inl (fun _ => 0)))] H := hw
  refine lv_aload_n X.1 X.2.1 dX10_init_78 rfl (lv_at hv 0 rfl) ?_
  refine lv_bipush (v := 60) X.1 X.2.1 dX10_init_79 (by decide) ?_
  refine xp_newi X hk hw 60 rfl (by decide) (Nat.le_of_ble_eq_true rfl) (Nat.le_of_ble_eq_true rfl) dX10_init_81 (fun q10 H hw => ?_)
  replace hw : wl Z rest [(h0, .inr (8, [.int 0, .ref q1, .ref q2, .ref q3, .int 0, .ref q4, .int 0, .ref q5, .int 0, .ref q6, .ref q7, .ref q8, .int 0, .ref q9, .null, .null, .null, .null, .int 0, .null, .null, .null, .null, .int 0, .int 0, .int 0, .int 0, .int 0])), (q1, .inl (Z.2.1 0, 120, .inl (fun _ => 0))), (q2, .inl (Z.2.1 0, 120, .inl (fun _ => 0))), (q3, .inl (Z.2.1 0, 120, .inl (fun _ => 0))), (q4, .inl (Z.2.1 1, 3000, .inr (.inl (fun _ => 0)))), (q5, .inl (Z.2.1 0, 401, .inl (fun _ => 0))), (q6, .inl (Z.2.1 0, 10, .inl (fun _ => 0))), (q7, .inl (Z.2.1 0, 10, .inl (fun _ => 0))), (q8, .inl (Z.2.1 0, 10, .inl (fun _ => 0))), (q9, .inl (Z.2.1 0, 60, .inl (fun _ => 0))), (q10, .inl (Z.2.1 0, 60, .inl (fun _ => 0)))] H := hw
  refine xp_putF X hk hw hl hin (i := 0) (v := .ref q10) 14 rfl rfl tlX10 tyX10 tyX10_ok nmX10 (by decide) tw_533 rfl rfl rfl rfl (Nat.le_of_ble_eq_true rfl) dX10_init_83 (fun H locs hw hl => ?_)
  replace hw : wl Z rest [(h0, .inr (8, [.int 0, .ref q1, .ref q2, .ref q3, .int 0, .ref q4, .int 0, .ref q5, .int 0, .ref q6, .ref q7, .ref q8, .int 0, .ref q9, .ref q10, .null, .null, .null, .int 0, .null, .null, .null, .null, .int 0, .int 0, .int 0, .int 0, .int 0])), (q1, .inl (Z.2.1 0, 120, .inl (fun _ => 0))), (q2, .inl (Z.2.1 0, 120, .inl (fun _ => 0))), (q3, .inl (Z.2.1 0, 120, .inl (fun _ => 0))), (q4, .inl (Z.2.1 1, 3000, .inr (.inl (fun _ => 0)))), (q5, .inl (Z.2.1 0, 401, .inl (fun _ => 0))), (q6, .inl (Z.2.1 0, 10, .inl (fun _ => 0))), (q7, .inl (Z.2.1 0, 10, .inl (fun _ => 0))), (q8, .inl (Z.2.1 0, 10, .inl (fun _ => 0))), (q9, .inl (Z.2.1 0, 60, .inl (fun _ => 0))), (q10, .inl (Z.2.1 0, 60, .inl (fun _ => 0)))] H := hw
  refine lv_aload_n X.1 X.2.1 dX10_init_86 rfl (lv_at hv 0 rfl) ?_
  refine lv_bipush (v := 60) X.1 X.2.1 dX10_init_87 (by decide) ?_
  refine xp_newi X hk hw 60 rfl (by decide) (Nat.le_of_ble_eq_true rfl) (Nat.le_of_ble_eq_true rfl) dX10_init_89 (fun q11 H hw => ?_)
  replace hw : wl Z rest [(h0, .inr (8, [.int 0, .ref q1, .ref q2, .ref q3, .int 0, .ref q4, .int 0, .ref q5, .int 0, .ref q6, .ref q7, .ref q8, .int 0, .ref q9, .ref q10, .null, .null, .null, .int 0, .null, .null, .null, .null, .int 0, .int 0, .int 0, .int 0, .int 0])), (q1, .inl (Z.2.1 0, 120, .inl (fun _ => 0))), (q2, .inl (Z.2.1 0, 120, .inl (fun _ => 0))), (q3, .inl (Z.2.1 0, 120, .inl (fun _ => 0))), (q4, .inl (Z.2.1 1, 3000, .inr (.inl (fun _ => 0)))), (q5, .inl (Z.2.1 0, 401, .inl (fun _ => 0))), (q6, .inl (Z.2.1 0, 10, .inl (fun _ => 0))), (q7, .inl (Z.2.1 0, 10, .inl (fun _ => 0))), (q8, .inl (Z.2.1 0, 10, .inl (fun _ => 0))), (q9, .inl (Z.2.1 0, 60, .inl (fun _ => 0))), (q10, .inl (Z.2.1 0, 60, .inl (fun _ => 0))), (q11, .inl (Z.2.1 0, 60, .inl (fun _ => 0)))] H := hw
  refine xp_putF X hk hw hl hin (i := 0) (v := .ref q11) 15 rfl rfl tlX10 tyX10 tyX10_ok nmX10 (by decide) tw_534 rfl rfl rfl rfl (Nat.le_of_ble_eq_true rfl) dX10_init_91 (fun H locs hw hl => ?_)
  replace hw : wl Z rest [(h0, .inr (8, [.int 0, .ref q1, .ref q2, .ref q3, .int 0, .ref q4, .int 0, .ref q5, .int 0, .ref q6, .ref q7, .ref q8, .int 0, .ref q9, .ref q10, .ref q11, .null, .null, .int 0, .null, .null, .null, .null, .int 0, .int 0, .int 0, .int 0, .int 0])), (q1, .inl (Z.2.1 0, 120, .inl (fun _ => 0))), (q2, .inl (Z.2.1 0, 120, .inl (fun _ => 0))), (q3, .inl (Z.2.1 0, 120, .inl (fun _ => 0))), (q4, .inl (Z.2.1 1, 3000, .inr (.inl (fun _ => 0)))), (q5, .inl (Z.2.1 0, 401, .inl (fun _ => 0))), (q6, .inl (Z.2.1 0, 10, .inl (fun _ => 0))), (q7, .inl (Z.2.1 0, 10, .inl (fun _ => 0))), (q8, .inl (Z.2.1 0, 10, .inl (fun _ => 0))), (q9, .inl (Z.2.1 0, 60, .inl (fun _ => 0))), (q10, .inl (Z.2.1 0, 60, .inl (fun _ => 0))), (q11, .inl (Z.2.1 0, 60, .inl (fun _ => 0)))] H := hw
  refine lv_aload_n X.1 X.2.1 dX10_init_94 rfl (lv_at hv 0 rfl) ?_
  refine lv_bipush (v := 60) X.1 X.2.1 dX10_init_95 (by decide) ?_
  refine xp_newi X hk hw 60 rfl (by decide) (Nat.le_of_ble_eq_true rfl) (Nat.le_of_ble_eq_true rfl) dX10_init_97 (fun q12 H hw => ?_)
  replace hw : wl Z rest [(h0, .inr (8, [.int 0, .ref q1, .ref q2, .ref q3, .int 0, .ref q4, .int 0, .ref q5, .int 0, .ref q6, .ref q7, .ref q8, .int 0, .ref q9, .ref q10, .ref q11, .null, .null, .int 0, .null, .null, .null, .null, .int 0, .int 0, .int 0, .int 0, .int 0])), (q1, .inl (Z.2.1 0, 120, .inl (fun _ => 0))), (q2, .inl (Z.2.1 0, 120, .inl (fun _ => 0))), (q3, .inl (Z.2.1 0, 120, .inl (fun _ => 0))), (q4, .inl (Z.2.1 1, 3000, .inr (.inl (fun _ => 0)))), (q5, .inl (Z.2.1 0, 401, .inl (fun _ => 0))), (q6, .inl (Z.2.1 0, 10, .inl (fun _ => 0))), (q7, .inl (Z.2.1 0, 10, .inl (fun _ => 0))), (q8, .inl (Z.2.1 0, 10, .inl (fun _ => 0))), (q9, .inl (Z.2.1 0, 60, .inl (fun _ => 0))), (q10, .inl (Z.2.1 0, 60, .inl (fun _ => 0))), (q11, .inl (Z.2.1 0, 60, .inl (fun _ => 0))), (q12, .inl (Z.2.1 0, 60, .inl (fun _ => 0)))] H := hw
  refine xp_putF X hk hw hl hin (i := 0) (v := .ref q12) 16 rfl rfl tlX10 tyX10 tyX10_ok nmX10 (by decide) tw_535 rfl rfl rfl rfl (Nat.le_of_ble_eq_true rfl) dX10_init_99 (fun H locs hw hl => ?_)
  replace hw : wl Z rest [(h0, .inr (8, [.int 0, .ref q1, .ref q2, .ref q3, .int 0, .ref q4, .int 0, .ref q5, .int 0, .ref q6, .ref q7, .ref q8, .int 0, .ref q9, .ref q10, .ref q11, .ref q12, .null, .int 0, .null, .null, .null, .null, .int 0, .int 0, .int 0, .int 0, .int 0])), (q1, .inl (Z.2.1 0, 120, .inl (fun _ => 0))), (q2, .inl (Z.2.1 0, 120, .inl (fun _ => 0))), (q3, .inl (Z.2.1 0, 120, .inl (fun _ => 0))), (q4, .inl (Z.2.1 1, 3000, .inr (.inl (fun _ => 0)))), (q5, .inl (Z.2.1 0, 401, .inl (fun _ => 0))), (q6, .inl (Z.2.1 0, 10, .inl (fun _ => 0))), (q7, .inl (Z.2.1 0, 10, .inl (fun _ => 0))), (q8, .inl (Z.2.1 0, 10, .inl (fun _ => 0))), (q9, .inl (Z.2.1 0, 60, .inl (fun _ => 0))), (q10, .inl (Z.2.1 0, 60, .inl (fun _ => 0))), (q11, .inl (Z.2.1 0, 60, .inl (fun _ => 0))), (q12, .inl (Z.2.1 0, 60, .inl (fun _ => 0)))] H := hw
  refine lv_aload_n X.1 X.2.1 dX10_init_102 rfl (lv_at hv 0 rfl) ?_
  refine lv_bipush (v := 60) X.1 X.2.1 dX10_init_103 (by decide) ?_
  refine xp_newi X hk hw 60 rfl (by decide) (Nat.le_of_ble_eq_true rfl) (Nat.le_of_ble_eq_true rfl) dX10_init_105 (fun q13 H hw => ?_)
  replace hw : wl Z rest [(h0, .inr (8, [.int 0, .ref q1, .ref q2, .ref q3, .int 0, .ref q4, .int 0, .ref q5, .int 0, .ref q6, .ref q7, .ref q8, .int 0, .ref q9, .ref q10, .ref q11, .ref q12, .null, .int 0, .null, .null, .null, .null, .int 0, .int 0, .int 0, .int 0, .int 0])), (q1, .inl (Z.2.1 0, 120, .inl (fun _ => 0))), (q2, .inl (Z.2.1 0, 120, .inl (fun _ => 0))), (q3, .inl (Z.2.1 0, 120, .inl (fun _ => 0))), (q4, .inl (Z.2.1 1, 3000, .inr (.inl (fun _ => 0)))), (q5, .inl (Z.2.1 0, 401, .inl (fun _ => 0))), (q6, .inl (Z.2.1 0, 10, .inl (fun _ => 0))), (q7, .inl (Z.2.1 0, 10, .inl (fun _ => 0))), (q8, .inl (Z.2.1 0, 10, .inl (fun _ => 0))), (q9, .inl (Z.2.1 0, 60, .inl (fun _ => 0))), (q10, .inl (Z.2.1 0, 60, .inl (fun _ => 0))), (q11, .inl (Z.2.1 0, 60, .inl (fun _ => 0))), (q12, .inl (Z.2.1 0, 60, .inl (fun _ => 0))), (q13, .inl (Z.2.1 0, 60, .inl (fun _ => 0)))] H := hw
  refine xp_putF X hk hw hl hin (i := 0) (v := .ref q13) 17 rfl rfl tlX10 tyX10 tyX10_ok nmX10 (by decide) tw_536 rfl rfl rfl rfl (Nat.le_of_ble_eq_true rfl) dX10_init_107 (fun H locs hw hl => ?_)
  replace hw : wl Z rest [(h0, .inr (8, [.int 0, .ref q1, .ref q2, .ref q3, .int 0, .ref q4, .int 0, .ref q5, .int 0, .ref q6, .ref q7, .ref q8, .int 0, .ref q9, .ref q10, .ref q11, .ref q12, .ref q13, .int 0, .null, .null, .null, .null, .int 0, .int 0, .int 0, .int 0, .int 0])), (q1, .inl (Z.2.1 0, 120, .inl (fun _ => 0))), (q2, .inl (Z.2.1 0, 120, .inl (fun _ => 0))), (q3, .inl (Z.2.1 0, 120, .inl (fun _ => 0))), (q4, .inl (Z.2.1 1, 3000, .inr (.inl (fun _ => 0)))), (q5, .inl (Z.2.1 0, 401, .inl (fun _ => 0))), (q6, .inl (Z.2.1 0, 10, .inl (fun _ => 0))), (q7, .inl (Z.2.1 0, 10, .inl (fun _ => 0))), (q8, .inl (Z.2.1 0, 10, .inl (fun _ => 0))), (q9, .inl (Z.2.1 0, 60, .inl (fun _ => 0))), (q10, .inl (Z.2.1 0, 60, .inl (fun _ => 0))), (q11, .inl (Z.2.1 0, 60, .inl (fun _ => 0))), (q12, .inl (Z.2.1 0, 60, .inl (fun _ => 0))), (q13, .inl (Z.2.1 0, 60, .inl (fun _ => 0)))] H := hw
  refine lv_aload_n X.1 X.2.1 dX10_init_110 rfl (lv_at hv 0 rfl) ?_
  refine lv_bipush (v := 20) X.1 X.2.1 dX10_init_111 (by decide) ?_
  refine xp_newi X hk hw 20 rfl (by decide) (Nat.le_of_ble_eq_true rfl) (Nat.le_of_ble_eq_true rfl) dX10_init_113 (fun q14 H hw => ?_)
  replace hw : wl Z rest [(h0, .inr (8, [.int 0, .ref q1, .ref q2, .ref q3, .int 0, .ref q4, .int 0, .ref q5, .int 0, .ref q6, .ref q7, .ref q8, .int 0, .ref q9, .ref q10, .ref q11, .ref q12, .ref q13, .int 0, .null, .null, .null, .null, .int 0, .int 0, .int 0, .int 0, .int 0])), (q1, .inl (Z.2.1 0, 120, .inl (fun _ => 0))), (q2, .inl (Z.2.1 0, 120, .inl (fun _ => 0))), (q3, .inl (Z.2.1 0, 120, .inl (fun _ => 0))), (q4, .inl (Z.2.1 1, 3000, .inr (.inl (fun _ => 0)))), (q5, .inl (Z.2.1 0, 401, .inl (fun _ => 0))), (q6, .inl (Z.2.1 0, 10, .inl (fun _ => 0))), (q7, .inl (Z.2.1 0, 10, .inl (fun _ => 0))), (q8, .inl (Z.2.1 0, 10, .inl (fun _ => 0))), (q9, .inl (Z.2.1 0, 60, .inl (fun _ => 0))), (q10, .inl (Z.2.1 0, 60, .inl (fun _ => 0))), (q11, .inl (Z.2.1 0, 60, .inl (fun _ => 0))), (q12, .inl (Z.2.1 0, 60, .inl (fun _ => 0))), (q13, .inl (Z.2.1 0, 60, .inl (fun _ => 0))), (q14, .inl (Z.2.1 0, 20, .inl (fun _ => 0)))] H := hw
  refine xp_putF X hk hw hl hin (i := 0) (v := .ref q14) 19 rfl rfl tlX10 tyX10 tyX10_ok nmX10 (by decide) tw_538 rfl rfl rfl rfl (Nat.le_of_ble_eq_true rfl) dX10_init_115 (fun H locs hw hl => ?_)
  replace hw : wl Z rest [(h0, .inr (8, [.int 0, .ref q1, .ref q2, .ref q3, .int 0, .ref q4, .int 0, .ref q5, .int 0, .ref q6, .ref q7, .ref q8, .int 0, .ref q9, .ref q10, .ref q11, .ref q12, .ref q13, .int 0, .ref q14, .null, .null, .null, .int 0, .int 0, .int 0, .int 0, .int 0])), (q1, .inl (Z.2.1 0, 120, .inl (fun _ => 0))), (q2, .inl (Z.2.1 0, 120, .inl (fun _ => 0))), (q3, .inl (Z.2.1 0, 120, .inl (fun _ => 0))), (q4, .inl (Z.2.1 1, 3000, .inr (.inl (fun _ => 0)))), (q5, .inl (Z.2.1 0, 401, .inl (fun _ => 0))), (q6, .inl (Z.2.1 0, 10, .inl (fun _ => 0))), (q7, .inl (Z.2.1 0, 10, .inl (fun _ => 0))), (q8, .inl (Z.2.1 0, 10, .inl (fun _ => 0))), (q9, .inl (Z.2.1 0, 60, .inl (fun _ => 0))), (q10, .inl (Z.2.1 0, 60, .inl (fun _ => 0))), (q11, .inl (Z.2.1 0, 60, .inl (fun _ => 0))), (q12, .inl (Z.2.1 0, 60, .inl (fun _ => 0))), (q13, .inl (Z.2.1 0, 60, .inl (fun _ => 0))), (q14, .inl (Z.2.1 0, 20, .inl (fun _ => 0)))] H := hw
  refine lv_aload_n X.1 X.2.1 dX10_init_118 rfl (lv_at hv 0 rfl) ?_
  refine lv_sipush (v := 1280) X.1 X.2.1 dX10_init_119 (by decide) ?_
  refine xp_newl X hk hw 1280 rfl (by decide) (Nat.le_of_ble_eq_true rfl) (Nat.le_of_ble_eq_true rfl) dX10_init_122 (fun q15 H hw => ?_)
  replace hw : wl Z rest [(h0, .inr (8, [.int 0, .ref q1, .ref q2, .ref q3, .int 0, .ref q4, .int 0, .ref q5, .int 0, .ref q6, .ref q7, .ref q8, .int 0, .ref q9, .ref q10, .ref q11, .ref q12, .ref q13, .int 0, .ref q14, .null, .null, .null, .int 0, .int 0, .int 0, .int 0, .int 0])), (q1, .inl (Z.2.1 0, 120, .inl (fun _ => 0))), (q2, .inl (Z.2.1 0, 120, .inl (fun _ => 0))), (q3, .inl (Z.2.1 0, 120, .inl (fun _ => 0))), (q4, .inl (Z.2.1 1, 3000, .inr (.inl (fun _ => 0)))), (q5, .inl (Z.2.1 0, 401, .inl (fun _ => 0))), (q6, .inl (Z.2.1 0, 10, .inl (fun _ => 0))), (q7, .inl (Z.2.1 0, 10, .inl (fun _ => 0))), (q8, .inl (Z.2.1 0, 10, .inl (fun _ => 0))), (q9, .inl (Z.2.1 0, 60, .inl (fun _ => 0))), (q10, .inl (Z.2.1 0, 60, .inl (fun _ => 0))), (q11, .inl (Z.2.1 0, 60, .inl (fun _ => 0))), (q12, .inl (Z.2.1 0, 60, .inl (fun _ => 0))), (q13, .inl (Z.2.1 0, 60, .inl (fun _ => 0))), (q14, .inl (Z.2.1 0, 20, .inl (fun _ => 0))), (q15, .inl (Z.2.1 1, 1280, .inr (.inl (fun _ => 0))))] H := hw
  refine xp_putF X hk hw hl hin (i := 0) (v := .ref q15) 20 rfl rfl tlX10 tyX10 tyX10_ok nmX10 (by decide) tw_539 rfl rfl rfl rfl (Nat.le_of_ble_eq_true rfl) dX10_init_124 (fun H locs hw hl => ?_)
  replace hw : wl Z rest [(h0, .inr (8, [.int 0, .ref q1, .ref q2, .ref q3, .int 0, .ref q4, .int 0, .ref q5, .int 0, .ref q6, .ref q7, .ref q8, .int 0, .ref q9, .ref q10, .ref q11, .ref q12, .ref q13, .int 0, .ref q14, .ref q15, .null, .null, .int 0, .int 0, .int 0, .int 0, .int 0])), (q1, .inl (Z.2.1 0, 120, .inl (fun _ => 0))), (q2, .inl (Z.2.1 0, 120, .inl (fun _ => 0))), (q3, .inl (Z.2.1 0, 120, .inl (fun _ => 0))), (q4, .inl (Z.2.1 1, 3000, .inr (.inl (fun _ => 0)))), (q5, .inl (Z.2.1 0, 401, .inl (fun _ => 0))), (q6, .inl (Z.2.1 0, 10, .inl (fun _ => 0))), (q7, .inl (Z.2.1 0, 10, .inl (fun _ => 0))), (q8, .inl (Z.2.1 0, 10, .inl (fun _ => 0))), (q9, .inl (Z.2.1 0, 60, .inl (fun _ => 0))), (q10, .inl (Z.2.1 0, 60, .inl (fun _ => 0))), (q11, .inl (Z.2.1 0, 60, .inl (fun _ => 0))), (q12, .inl (Z.2.1 0, 60, .inl (fun _ => 0))), (q13, .inl (Z.2.1 0, 60, .inl (fun _ => 0))), (q14, .inl (Z.2.1 0, 20, .inl (fun _ => 0))), (q15, .inl (Z.2.1 1, 1280, .inr (.inl (fun _ => 0))))] H := hw
  refine lv_aload_n X.1 X.2.1 dX10_init_127 rfl (lv_at hv 0 rfl) ?_
  refine lv_bipush (v := 64) X.1 X.2.1 dX10_init_128 (by decide) ?_
  refine xp_newl X hk hw 64 rfl (by decide) (Nat.le_of_ble_eq_true rfl) (Nat.le_of_ble_eq_true rfl) dX10_init_130 (fun q16 H hw => ?_)
  replace hw : wl Z rest [(h0, .inr (8, [.int 0, .ref q1, .ref q2, .ref q3, .int 0, .ref q4, .int 0, .ref q5, .int 0, .ref q6, .ref q7, .ref q8, .int 0, .ref q9, .ref q10, .ref q11, .ref q12, .ref q13, .int 0, .ref q14, .ref q15, .null, .null, .int 0, .int 0, .int 0, .int 0, .int 0])), (q1, .inl (Z.2.1 0, 120, .inl (fun _ => 0))), (q2, .inl (Z.2.1 0, 120, .inl (fun _ => 0))), (q3, .inl (Z.2.1 0, 120, .inl (fun _ => 0))), (q4, .inl (Z.2.1 1, 3000, .inr (.inl (fun _ => 0)))), (q5, .inl (Z.2.1 0, 401, .inl (fun _ => 0))), (q6, .inl (Z.2.1 0, 10, .inl (fun _ => 0))), (q7, .inl (Z.2.1 0, 10, .inl (fun _ => 0))), (q8, .inl (Z.2.1 0, 10, .inl (fun _ => 0))), (q9, .inl (Z.2.1 0, 60, .inl (fun _ => 0))), (q10, .inl (Z.2.1 0, 60, .inl (fun _ => 0))), (q11, .inl (Z.2.1 0, 60, .inl (fun _ => 0))), (q12, .inl (Z.2.1 0, 60, .inl (fun _ => 0))), (q13, .inl (Z.2.1 0, 60, .inl (fun _ => 0))), (q14, .inl (Z.2.1 0, 20, .inl (fun _ => 0))), (q15, .inl (Z.2.1 1, 1280, .inr (.inl (fun _ => 0)))), (q16, .inl (Z.2.1 1, 64, .inr (.inl (fun _ => 0))))] H := hw
  refine xp_putF X hk hw hl hin (i := 0) (v := .ref q16) 21 rfl rfl tlX10 tyX10 tyX10_ok nmX10 (by decide) tw_540 rfl rfl rfl rfl (Nat.le_of_ble_eq_true rfl) dX10_init_132 (fun H locs hw hl => ?_)
  replace hw : wl Z rest [(h0, .inr (8, [.int 0, .ref q1, .ref q2, .ref q3, .int 0, .ref q4, .int 0, .ref q5, .int 0, .ref q6, .ref q7, .ref q8, .int 0, .ref q9, .ref q10, .ref q11, .ref q12, .ref q13, .int 0, .ref q14, .ref q15, .ref q16, .null, .int 0, .int 0, .int 0, .int 0, .int 0])), (q1, .inl (Z.2.1 0, 120, .inl (fun _ => 0))), (q2, .inl (Z.2.1 0, 120, .inl (fun _ => 0))), (q3, .inl (Z.2.1 0, 120, .inl (fun _ => 0))), (q4, .inl (Z.2.1 1, 3000, .inr (.inl (fun _ => 0)))), (q5, .inl (Z.2.1 0, 401, .inl (fun _ => 0))), (q6, .inl (Z.2.1 0, 10, .inl (fun _ => 0))), (q7, .inl (Z.2.1 0, 10, .inl (fun _ => 0))), (q8, .inl (Z.2.1 0, 10, .inl (fun _ => 0))), (q9, .inl (Z.2.1 0, 60, .inl (fun _ => 0))), (q10, .inl (Z.2.1 0, 60, .inl (fun _ => 0))), (q11, .inl (Z.2.1 0, 60, .inl (fun _ => 0))), (q12, .inl (Z.2.1 0, 60, .inl (fun _ => 0))), (q13, .inl (Z.2.1 0, 60, .inl (fun _ => 0))), (q14, .inl (Z.2.1 0, 20, .inl (fun _ => 0))), (q15, .inl (Z.2.1 1, 1280, .inr (.inl (fun _ => 0)))), (q16, .inl (Z.2.1 1, 64, .inr (.inl (fun _ => 0))))] H := hw
  refine lv_aload_n X.1 X.2.1 dX10_init_135 rfl (lv_at hv 0 rfl) ?_
  refine lv_bipush (v := 64) X.1 X.2.1 dX10_init_136 (by decide) ?_
  refine xp_newl X hk hw 64 rfl (by decide) (Nat.le_of_ble_eq_true rfl) (Nat.le_of_ble_eq_true rfl) dX10_init_138 (fun q17 H hw => ?_)
  replace hw : wl Z rest [(h0, .inr (8, [.int 0, .ref q1, .ref q2, .ref q3, .int 0, .ref q4, .int 0, .ref q5, .int 0, .ref q6, .ref q7, .ref q8, .int 0, .ref q9, .ref q10, .ref q11, .ref q12, .ref q13, .int 0, .ref q14, .ref q15, .ref q16, .null, .int 0, .int 0, .int 0, .int 0, .int 0])), (q1, .inl (Z.2.1 0, 120, .inl (fun _ => 0))), (q2, .inl (Z.2.1 0, 120, .inl (fun _ => 0))), (q3, .inl (Z.2.1 0, 120, .inl (fun _ => 0))), (q4, .inl (Z.2.1 1, 3000, .inr (.inl (fun _ => 0)))), (q5, .inl (Z.2.1 0, 401, .inl (fun _ => 0))), (q6, .inl (Z.2.1 0, 10, .inl (fun _ => 0))), (q7, .inl (Z.2.1 0, 10, .inl (fun _ => 0))), (q8, .inl (Z.2.1 0, 10, .inl (fun _ => 0))), (q9, .inl (Z.2.1 0, 60, .inl (fun _ => 0))), (q10, .inl (Z.2.1 0, 60, .inl (fun _ => 0))), (q11, .inl (Z.2.1 0, 60, .inl (fun _ => 0))), (q12, .inl (Z.2.1 0, 60, .inl (fun _ => 0))), (q13, .inl (Z.2.1 0, 60, .inl (fun _ => 0))), (q14, .inl (Z.2.1 0, 20, .inl (fun _ => 0))), (q15, .inl (Z.2.1 1, 1280, .inr (.inl (fun _ => 0)))), (q16, .inl (Z.2.1 1, 64, .inr (.inl (fun _ => 0)))), (q17, .inl (Z.2.1 1, 64, .inr (.inl (fun _ => 0))))] H := hw
  refine xp_putF X hk hw hl hin (i := 0) (v := .ref q17) 22 rfl rfl tlX10 tyX10 tyX10_ok nmX10 (by decide) tw_541 rfl rfl rfl rfl (Nat.le_of_ble_eq_true rfl) dX10_init_140 (fun H locs hw hl => ?_)
  replace hw : wl Z rest [(h0, .inr (8, [.int 0, .ref q1, .ref q2, .ref q3, .int 0, .ref q4, .int 0, .ref q5, .int 0, .ref q6, .ref q7, .ref q8, .int 0, .ref q9, .ref q10, .ref q11, .ref q12, .ref q13, .int 0, .ref q14, .ref q15, .ref q16, .ref q17, .int 0, .int 0, .int 0, .int 0, .int 0])), (q1, .inl (Z.2.1 0, 120, .inl (fun _ => 0))), (q2, .inl (Z.2.1 0, 120, .inl (fun _ => 0))), (q3, .inl (Z.2.1 0, 120, .inl (fun _ => 0))), (q4, .inl (Z.2.1 1, 3000, .inr (.inl (fun _ => 0)))), (q5, .inl (Z.2.1 0, 401, .inl (fun _ => 0))), (q6, .inl (Z.2.1 0, 10, .inl (fun _ => 0))), (q7, .inl (Z.2.1 0, 10, .inl (fun _ => 0))), (q8, .inl (Z.2.1 0, 10, .inl (fun _ => 0))), (q9, .inl (Z.2.1 0, 60, .inl (fun _ => 0))), (q10, .inl (Z.2.1 0, 60, .inl (fun _ => 0))), (q11, .inl (Z.2.1 0, 60, .inl (fun _ => 0))), (q12, .inl (Z.2.1 0, 60, .inl (fun _ => 0))), (q13, .inl (Z.2.1 0, 60, .inl (fun _ => 0))), (q14, .inl (Z.2.1 0, 20, .inl (fun _ => 0))), (q15, .inl (Z.2.1 1, 1280, .inr (.inl (fun _ => 0)))), (q16, .inl (Z.2.1 1, 64, .inr (.inl (fun _ => 0)))), (q17, .inl (Z.2.1 1, 64, .inr (.inl (fun _ => 0))))] H := hw
  refine lv_aload_n X.1 X.2.1 dX10_init_143 rfl (lv_at hv 0 rfl) ?_
  refine lv_iconst (v := (-1)) X.1 X.2.1 dX10_init_144 (by decide) ?_
  refine xp_put X hk hw hl (i := 0) (v := .int (-1)) 27 rfl rfl tlX10 tyX10 tyX10_ok nmX10 (by decide) tw_546 rfl rfl rfl (Nat.le_of_ble_eq_true rfl) dX10_init_145 (fun H locs hw hl => ?_)
  replace hw : wl Z rest [(h0, .inr (8, [.int 0, .ref q1, .ref q2, .ref q3, .int 0, .ref q4, .int 0, .ref q5, .int 0, .ref q6, .ref q7, .ref q8, .int 0, .ref q9, .ref q10, .ref q11, .ref q12, .ref q13, .int 0, .ref q14, .ref q15, .ref q16, .ref q17, .int 0, .int 0, .int 0, .int 0, .int (-1)])), (q1, .inl (Z.2.1 0, 120, .inl (fun _ => 0))), (q2, .inl (Z.2.1 0, 120, .inl (fun _ => 0))), (q3, .inl (Z.2.1 0, 120, .inl (fun _ => 0))), (q4, .inl (Z.2.1 1, 3000, .inr (.inl (fun _ => 0)))), (q5, .inl (Z.2.1 0, 401, .inl (fun _ => 0))), (q6, .inl (Z.2.1 0, 10, .inl (fun _ => 0))), (q7, .inl (Z.2.1 0, 10, .inl (fun _ => 0))), (q8, .inl (Z.2.1 0, 10, .inl (fun _ => 0))), (q9, .inl (Z.2.1 0, 60, .inl (fun _ => 0))), (q10, .inl (Z.2.1 0, 60, .inl (fun _ => 0))), (q11, .inl (Z.2.1 0, 60, .inl (fun _ => 0))), (q12, .inl (Z.2.1 0, 60, .inl (fun _ => 0))), (q13, .inl (Z.2.1 0, 60, .inl (fun _ => 0))), (q14, .inl (Z.2.1 0, 20, .inl (fun _ => 0))), (q15, .inl (Z.2.1 1, 1280, .inr (.inl (fun _ => 0)))), (q16, .inl (Z.2.1 1, 64, .inr (.inl (fun _ => 0)))), (q17, .inl (Z.2.1 1, 64, .inr (.inl (fun _ => 0))))] H := hw
  refine W.widen (k := 17) (n := 5519) (Nat.le_of_ble_eq_true rfl) (Nat.le_of_ble_eq_true rfl) ?_
  exact xp_ret X hr hlocks hw hl ⟨q1, q2, q3, q4, q5, q6, q7, q8, q9, q10, q11, q12, q13, q14, q15, q16, q17, rfl⟩ dX10_init_148
