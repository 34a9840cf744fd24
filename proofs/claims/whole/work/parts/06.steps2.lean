section XJ
variable {p : Program} {l : Launch} {e : Env} {R : Room} {s : State} {m : MethodId} {args : Array Value} {below : List Frame} {meth : Method} {c : Code} {H : Heap} {locs : List Loc} {cells slots : Nat} {Q : State → Prop}
variable {cc : ByteArray} {pc nL : Nat} {ls : Array Slot} {rest : List Value} {Z : xz_T} {et : Nat → Nat} {S : xs_T} {c0 : Cond} {own : String}
theorem xw_get (X : CallFix p m c cc nL s args (c0 :: TB) own) (hk : xk Z s) (hw : wd Z et S H) {C : String} {T : u_T} {N ci index i : Nat} (k : Nat) {fs : List Value} {v : Value} (hE : xE Z et S i = some (.inr (ci, fs))) (hc : vwCl[ci]? = some (C, T, N)) (hin : ∀ w ∈ u_ws C T N, w ∈ TB) (hkN : k < N) (hv : fs[k]? = some v) (hlink : Cond.fieldLink own index (T k).1 (T k).2.1 (T k).2.2.1 ∈ TB) (hdg : decode cc pc = .ok (.getfield index, 3))
    (kk : W p l e R s m args below meth c H locs cells slots Q (F0 m (pc + 3) ls (v :: rest))) : W p l e R s m args below meth c H locs cells slots Q (F0 m pc ls (.ref (et i) :: rest)) :=
  xg_get (G := xE Z et S) X hk hw k hE hc hin hkN hv hlink hdg kk
theorem xw_getN (X : CallFix p m c cc nL s args (c0 :: TB) own) (hk : xk Z s) (hw : wd Z et S H) {C host : String} {T : u_T} {N ci index i : Nat} (k : Nat) {fs : List Value} {v : Value} (hE : xE Z et S i = some (.inr (ci, fs))) (hc : vwCl[ci]? = some (C, T, N)) (hin : ∀ w ∈ u_ws C T N, w ∈ TB) (hkN : k < N) (hv : fs[k]? = some v) (hlink : Cond.fieldLinkNest own index (T k).1 (T k).2.1 (T k).2.2.1 host ∈ xk_ng) (hdg : decode cc pc = .ok (.getfield index, 3))
    (kk : W p l e R s m args below meth c H locs cells slots Q (F0 m (pc + 3) ls (v :: rest))) : W p l e R s m args below meth c H locs cells slots Q (F0 m pc ls (.ref (et i) :: rest)) :=
  xg_getN (G := xE Z et S) X hk hw k hE hc hin hkN hv hlink hdg kk
theorem xw_put (X : CallFix p m c cc nL s args (c0 :: TB) own) (hk : xk Z s) (hw : wd Z et S H) (hl : xl Z locs) {C : String} {T : u_T} {N ci index i : Nat} (k : Nat) {fs : List Value} {v : Int32} (hE : xE Z et S i = some (.inr (ci, fs))) (hE' : xE Z et (sF S i k v) i = some (.inr (ci, fs.set k (.int v)))) (hc : vwCl[ci]? = some (C, T, N)) (hin : ∀ w ∈ u_ws C T N, w ∈ TB) (ty0 : Nat → FieldType) (hty : ∀ k, k < N → parseFieldDescriptor (T k).2.2.1 = some (ty0 k)) (hnm : ∀ a, a < N → ∀ b, b < N → a ≠ b → (T a).2.1 ≠ (T b).2.1) (hkN : k < N) (hlink : Cond.fieldLink own index (T k).1 (T k).2.1 (T k).2.2.1 ∈ TB) (hfin : (T k).2.2.2 = false) (hn : ty0 k = .int) (hlk : k < fs.length) (hdg : decode cc pc = .ok (.putfield index, 3))
    (kk : ∀ (H1 : Heap) (locs1 : List Loc), wd Z et (sF S i k v) H1 → xl Z locs1 → W p l e R s m args below meth c H1 locs1 cells slots Q (F0 m (pc + 3) ls rest)) : W p l e R s m args below meth c H locs cells slots Q (F0 m pc ls (.int v :: .ref (et i) :: rest)) :=
  xg_put (G := xE Z et S) X hk hw hl k hE hc hin ty0 hty hnm hkN hlink hfin (by rw [hn]; rfl) (by rw [hn]; rfl) hlk hdg (fun H1 locs1 hw1 hl1 => kk H1 locs1 (ww.at hw1 hE' (fun j hj => xE_F hj)) hl1)
theorem xw_putN (X : CallFix p m c cc nL s args (c0 :: TB) own) (hk : xk Z s) (hw : wd Z et S H) (hl : xl Z locs) {C host : String} {T : u_T} {N ci index i : Nat} (k : Nat) {fs : List Value} {v : Int32} (hE : xE Z et S i = some (.inr (ci, fs))) (hE' : xE Z et (sF S i k v) i = some (.inr (ci, fs.set k (.int v)))) (hc : vwCl[ci]? = some (C, T, N)) (hin : ∀ w ∈ u_ws C T N, w ∈ TB) (ty0 : Nat → FieldType) (hty : ∀ k, k < N → parseFieldDescriptor (T k).2.2.1 = some (ty0 k)) (hnm : ∀ a, a < N → ∀ b, b < N → a ≠ b → (T a).2.1 ≠ (T b).2.1) (hkN : k < N) (hlink : Cond.fieldLinkNest own index (T k).1 (T k).2.1 (T k).2.2.1 host ∈ xk_ng) (hfin : (T k).2.2.2 = false) (hn : ty0 k = .int) (hlk : k < fs.length) (hdg : decode cc pc = .ok (.putfield index, 3))
    (kk : ∀ (H1 : Heap) (locs1 : List Loc), wd Z et (sF S i k v) H1 → xl Z locs1 → W p l e R s m args below meth c H1 locs1 cells slots Q (F0 m (pc + 3) ls rest)) : W p l e R s m args below meth c H locs cells slots Q (F0 m pc ls (.int v :: .ref (et i) :: rest)) :=
  xg_putN (G := xE Z et S) X hk hw hl k hE hc hin ty0 hty hnm hkN hlink hfin (by rw [hn]; rfl) (by rw [hn]; rfl) hlk hdg (fun H1 locs1 hw1 hl1 => kk H1 locs1 (ww.at hw1 hE' (fun j hj => xE_F hj)) hl1)
theorem xw_putF (X : CallFix p m c cc nL s args (c0 :: TB) own) (hk : xk Z s) (hw : wd Z et S H) (hl : xl Z locs) (hin2 : meth.name = "<init>") {C : String} {T : u_T} {N ci index i : Nat} (k : Nat) {fs : List Value} {v : Int32} (hE : xE Z et S i = some (.inr (ci, fs))) (hE' : xE Z et (sF S i k v) i = some (.inr (ci, fs.set k (.int v)))) (hc : vwCl[ci]? = some (C, T, N)) (hin : ∀ w ∈ u_ws C T N, w ∈ TB) (ty0 : Nat → FieldType) (hty : ∀ k, k < N → parseFieldDescriptor (T k).2.2.1 = some (ty0 k)) (hnm : ∀ a, a < N → ∀ b, b < N → a ≠ b → (T a).2.1 ≠ (T b).2.1) (hkN : k < N) (hlink : Cond.fieldLink own index (T k).1 (T k).2.1 (T k).2.2.1 ∈ TB) (hfin : (T k).2.2.2 = true) (hdecl : (T k).1 = own) (hn : ty0 k = .int) (hlk : k < fs.length) (hdg : decode cc pc = .ok (.putfield index, 3))
    (kk : ∀ (H1 : Heap) (locs1 : List Loc), wd Z et (sF S i k v) H1 → xl Z locs1 → W p l e R s m args below meth c H1 locs1 cells slots Q (F0 m (pc + 3) ls rest)) : W p l e R s m args below meth c H locs cells slots Q (F0 m pc ls (.int v :: .ref (et i) :: rest)) :=
  xg_putF (G := xE Z et S) X hk hw hl hin2 k hE hc hin ty0 hty hnm hkN hlink hfin hdecl (by rw [hn]; rfl) (by rw [hn]; rfl) hlk hdg (fun H1 locs1 hw1 hl1 => kk H1 locs1 (ww.at hw1 hE' (fun j hj => xE_F hj)) hl1)
theorem xw_ild (X : CallFix p m c cc nL s args (c0 :: TB) own) (hk : xk Z s) (hw : wd Z et S H) {i n j : Nat} {x : Int32} (hE : xE Z et S i = ai Z n (xI S i)) (hx : x = nI j) (hj : j < n) (hn : n < 2 ^ 31) (hdg : decode cc pc = .ok (.iaload, 1))
    (kk : W p l e R s m args below meth c H locs cells slots Q (F0 m (pc + 1) ls (.int (xI S i j) :: rest))) : W p l e R s m args below meth c H locs cells slots Q (F0 m pc ls (.int x :: .ref (et i) :: rest)) := xg_ild (G := xE Z et S) X hk hw hE hx hj hn hdg kk
theorem xw_lld (X : CallFix p m c cc nL s args (c0 :: TB) own) (hk : xk Z s) (hw : wd Z et S H) {i n j : Nat} {x : Int32} (hE : xE Z et S i = al Z n (xL S i)) (hx : x = nI j) (hj : j < n) (hn : n < 2 ^ 31) (hdg : decode cc pc = .ok (.laload, 1))
    (kk : W p l e R s m args below meth c H locs cells slots Q (F0 m (pc + 1) ls (.long (xL S i j) :: rest))) : W p l e R s m args below meth c H locs cells slots Q (F0 m pc ls (.int x :: .ref (et i) :: rest)) := xg_lld (G := xE Z et S) X hk hw hE hx hj hn hdg kk
theorem xI_self (S : xs_T) (i k : Nat) (v : Int32) : xI (sI S i k v) i = va_up (xI S i) k v := va_up_self _ _ _
theorem xL_self (S : xs_T) (i k : Nat) (v : Int64) : xL (sL S i k v) i = va_up (xL S i) k v := va_up_self _ _ _
theorem xL_selft (S : xs_T) (i : Nat) (f : Nat → Int64) : xL (tL S i f) i = f := va_up_self _ _ _
theorem xQ_self (S : xs_T) (i k : Nat) (v : Option Nat) : xQ (sQ S i k v) i = va_up (xQ S i) k v := va_up_self _ _ _
theorem xw_ist (X : CallFix p m c cc nL s args (c0 :: TB) own) (hk : xk Z s) (hw : wd Z et S H) (hl : xl Z locs) {i n j : Nat} {x y : Int32} (hE : xE Z et S i = ai Z n (xI S i)) (hE' : xE Z et (sI S i j y) i = ai Z n (xI (sI S i j y) i)) (hx : x = nI j) (hj : j < n) (hn : n < 2 ^ 31) (hdg : decode cc pc = .ok (.iastore, 1))
    (kk : ∀ (H1 : Heap) (locs1 : List Loc), wd Z et (sI S i j y) H1 → xl Z locs1 → W p l e R s m args below meth c H1 locs1 cells slots Q (F0 m (pc + 1) ls rest)) : W p l e R s m args below meth c H locs cells slots Q (F0 m pc ls (.int y :: .int x :: .ref (et i) :: rest)) :=
  xg_ist (G := xE Z et S) X hk hw hl hE hx hj hn hdg (fun H1 locs1 hw1 hl1 => kk H1 locs1 (ww.at hw1 (by rw [hE', xI_self]) (fun j hj => xE_I hj)) hl1)
theorem xw_lst (X : CallFix p m c cc nL s args (c0 :: TB) own) (hk : xk Z s) (hw : wd Z et S H) (hl : xl Z locs) {i n j : Nat} {x : Int32} {y : Int64} (hE : xE Z et S i = al Z n (xL S i)) (hE' : xE Z et (sL S i j y) i = al Z n (xL (sL S i j y) i)) (hx : x = nI j) (hj : j < n) (hn : n < 2 ^ 31) (hdg : decode cc pc = .ok (.lastore, 1))
    (kk : ∀ (H1 : Heap) (locs1 : List Loc), wd Z et (sL S i j y) H1 → xl Z locs1 → W p l e R s m args below meth c H1 locs1 cells slots Q (F0 m (pc + 1) ls rest)) : W p l e R s m args below meth c H locs cells slots Q (F0 m pc ls (.long y :: .int x :: .ref (et i) :: rest)) :=
  xg_lst (G := xE Z et S) X hk hw hl hE hx hj hn hdg (fun H1 locs1 hw1 hl1 => kk H1 locs1 (ww.at hw1 (by rw [hE', xL_self]) (fun j hj => xE_L hj)) hl1)
theorem xw_len (X : CallFix p m c cc nL s args (c0 :: TB) own) (hk : xk Z s) (hw : wd Z et S H) {i n : Nat} (hE : xE Z et S i = al Z n (xL S i)) (hdg : decode cc pc = .ok (.arraylength, 1))
    (kk : W p l e R s m args below meth c H locs cells slots Q (F0 m (pc + 1) ls (.int (nI n) :: rest))) : W p l e R s m args below meth c H locs cells slots Q (F0 m pc ls (.ref (et i) :: rest)) := xg_len (G := xE Z et S) X hk hw hE hdg kk
theorem xw_cpy (X : CallFix p m c cc nL s args (c0 :: TB) own) (hk : xk Z s) (hw : wd Z et S H) (hl : xl Z locs) (hls : ls.size = nL) {i i2 n n2 sp dp k index : Nat} {x y z : Int32} (hE : xE Z et S i = al Z n (xL S i)) (hE2 : xE Z et S i2 = al Z n2 (xL S i2)) (hE' : ∀ f, xE Z et (tL S i2 f) i2 = al Z n2 (xL (tL S i2 f) i2)) (hx : x = nI sp) (hy : y = nI dp) (hz : z = nI k) (h4 : sp + k ≤ n) (h5 : dp + k ≤ n2) (hn : n < 2 ^ 31) (hn2 : n2 < 2 ^ 31)
    (hlink : Cond.methodLink own index arraycopyName ∈ TB) (hframes : 1 ≤ R.frames) (hlocals : (rest.map fun v => v.category).sum + (nativeFrameWords "java/lang/System" "arraycopy" 5 + 11) ≤ R.locals) (hdg : decode cc pc = .ok (.invokestatic index, 3))
    (kk : ∀ (H1 : Heap) (locs1 : List Loc), wd Z et (tL S i2 (va_cpy (xL S i) (xL S i2) sp dp k)) H1 → xl Z locs1 → W p l e R s m args below meth c H1 locs1 cells slots Q (F0 m (pc + 3) ls rest)) : W p l e R s m args below meth c H locs cells slots Q (F0 m pc ls (.int z :: .int y :: .ref (et i2) :: .int x :: .ref (et i) :: rest)) :=
  xg_cpy (G := xE Z et S) X hk hw hl hls hE hE2 hx hy hz h4 h5 hn hn2 hlink hframes hlocals hdg (fun H1 locs1 hw1 hl1 => kk H1 locs1 (ww.at hw1 (by rw [hE', xL_selft]) (fun j hj => xE_tL hj)) hl1)
theorem xw_qld (X : CallFix p m c cc nL s args (c0 :: TB) own) (hk : xk Z s) (hw : wd Z et S H) {i n j t0 : Nat} {C : String} {x : Int32} (hE : xE Z et S i = aq Z t0 n (fun k => (xQ S i k).map et)) (ht : [(Z.2.1 0, FieldType.int), (Z.2.1 1, .long), (Z.2.1 2, .object RX7), (Z.2.1 3, .object RX3), (Z.2.1 4, .object RX5)][t0]? = some (Z.2.1 t0, .object C)) (hx : x = nI j) (hj : j < n) (hn : n < 2 ^ 31) (hdg : decode cc pc = .ok (.aaload, 1))
    (kk : W p l e R s m args below meth c H locs cells slots Q (F0 m (pc + 1) ls (va_rf ((xQ S i j).map et) :: rest))) : W p l e R s m args below meth c H locs cells slots Q (F0 m pc ls (.int x :: .ref (et i) :: rest)) := xg_qld (G := xE Z et S) X hk hw hE ht hx hj hn hdg kk
theorem sQ_map (S : xs_T) (i j : Nat) (q : Option Nat) (et : Nat → Nat) : (fun k => (xQ (sQ S i j q) i k).map et) = va_up (fun k => (xQ S i k).map et) j (q.map et) := by
  funext k
  rw [xQ_self]
  by_cases h : k = j
  · subst h
    rw [va_up_self, va_up_self]
  · rw [va_up_ne _ _ h, va_up_ne _ _ h]
/-- what may be laid into a row of references of class E -/
def oS (E : String) (Z : xz_T) (et : Nat → Nat) (S : xs_T) (q : Option Nat) : Prop := q = none ∨ ∃ (u ci : Nat) (vs : List Value) (r : vw_C), q = some u ∧ xE Z et S u = some (.inr (ci, vs)) ∧ vwCl[ci]? = some r ∧ Cond.castable r.1 E ∈ xk_ng
theorem xw_qst (X : CallFix p m c cc nL s args (c0 :: TB) own) (hk : xk Z s) (hw : wd Z et S H) (hl : xl Z locs) {i n j t0 : Nat} {E : String} {x : Int32} (q : Option Nat) (hq : oS E Z et S q) (hE : xE Z et S i = aq Z t0 n (fun k => (xQ S i k).map et)) (hE' : xE Z et (sQ S i j q) i = aq Z t0 n (fun k => (xQ (sQ S i j q) i k).map et)) (ht : [(Z.2.1 0, FieldType.int), (Z.2.1 1, .long), (Z.2.1 2, .object RX7), (Z.2.1 3, .object RX3), (Z.2.1 4, .object RX5)][t0]? = some (Z.2.1 t0, .object E)) (hx : x = nI j) (hj : j < n) (hn : n < 2 ^ 31) (hdg : decode cc pc = .ok (.aastore, 1))
    (kk : ∀ (H1 : Heap) (locs1 : List Loc), wd Z et (sQ S i j q) H1 → xl Z locs1 → W p l e R s m args below meth c H1 locs1 cells slots Q (F0 m (pc + 1) ls rest)) : W p l e R s m args below meth c H locs cells slots Q (F0 m pc ls (va_rf (q.map et) :: .int x :: .ref (et i) :: rest)) := by
  have fin : ∀ (H1 : Heap) (locs1 : List Loc), ww Z et (va_up (xE Z et S) i (some (.inl (Z.2.1 t0, n, .inr (.inr (.inr (.inr (va_up (fun k => (xQ S i k).map et) j (q.map et))))))))) H1 → xl Z locs1 → W p l e R s m args below meth c H1 locs1 cells slots Q (F0 m (pc + 1) ls rest) := fun H1 locs1 hw1 hl1 => kk H1 locs1 (ww.at hw1 (by rw [hE', sQ_map]) (fun j hj => xE_Q hj)) hl1
  rcases hq with rfl | ⟨u, ci, vs, r, rfl, hu, hc, hca⟩
  · exact xg_qsn (G := xE Z et S) X hk hw hl hE ht hx hj hn hdg fin
  · exact xg_qst (G := xE Z et S) X hk hw hl hE ht hu hc hca hx hj hn hdg fin
theorem oS_row {S : xs_T} {u : Nat} (h : oR S u) : oS RX5 Z et S (some u) := Or.inr ⟨u, 4, _, (RX5, TX5, 2), rfl, xE_row h, rfl, xn_29⟩
theorem oS_fig {S : xs_T} {u : Nat} (h : oG S u) : oS RX3 Z et S (some u) := Or.inr ⟨u, 3, _, (RX3, TX3, 2), rfl, xE_fig h, rfl, xn_30⟩
theorem oS_T {S : xs_T} {q : Option Nat} (h : oT S q) : oS RX7 Z et S q := by
  rcases h with h | ⟨u, h, h1 | h1 | h1⟩
  · exact Or.inl h
  · exact Or.inr ⟨u, 4, _, (RX5, TX5, 2), h, xE_row h1, rfl, xn_33⟩
  · exact Or.inr ⟨u, 3, _, (RX3, TX3, 2), h, xE_fig h1, rfl, xn_32⟩
  · exact Or.inr ⟨u, 2, _, (RX2, TX2, 0), h, xE_crk h1, rfl, xn_31⟩
/-- references that may be null -/
theorem xv_aload_n (hexec : p.tables.exec = Jvm.exec) (hb : c.code = cc) {k : Fin 4} {i : Nat} {x : Option Nat} (hdg : decode cc pc = .ok (.aload_n k, 1)) (hi : (k : Nat) = i) (hl : ls[i]? = some (.val (va_rf x)))
    (kk : W p l e R s m args below meth c H locs cells slots Q (F0 m (pc + 1) ls (va_rf x :: rest))) : W p l e R s m args below meth c H locs cells slots Q (F0 m pc ls rest) := by
  cases x with
  | none => exact lv_aload_nN hexec hb hdg hi hl kk
  | some a => exact lv_aload_n hexec hb hdg hi hl kk
theorem xv_aload (hexec : p.tables.exec = Jvm.exec) (hb : c.code = cc) {i : Nat} {x : Option Nat} (hdg : decode cc pc = .ok (.aload i, 2)) (hl : ls[i]? = some (.val (va_rf x)))
    (kk : W p l e R s m args below meth c H locs cells slots Q (F0 m (pc + 2) ls (va_rf x :: rest))) : W p l e R s m args below meth c H locs cells slots Q (F0 m pc ls rest) := by
  cases x with
  | none => exact lv_aloadN hexec hb hdg hl kk
  | some a => exact lv_aload hexec hb hdg hl kk
theorem xv_astore_n (hexec : p.tables.exec = Jvm.exec) (hb : c.code = cc) {k : Fin 4} {i nL : Nat} {x : Option Nat} {lv lv' : List (Nat × Value)} (hdg : decode cc pc = .ok (.astore_n k, 1)) (hi : (k : Nat) = i) (h : lv_has ls nL lv) (hn : i < nL) (hl : (i, va_rf x) :: lv.filter (fun q => !(q.1 == i) && !(q.1 + 1 == i && q.2.category == 2)) = lv')
    (kk : ∀ ls' : Array Slot, lv_has ls' nL lv' → W p l e R s m args below meth c H locs cells slots Q (F0 m (pc + 1) ls' rest)) : W p l e R s m args below meth c H locs cells slots Q (F0 m pc ls (va_rf x :: rest)) := by
  cases x with
  | none => exact lv_astore_nN hexec hb hdg hi h hn hl kk
  | some a => exact lv_astore_n hexec hb hdg hi h hn hl kk
theorem xv_astore (hexec : p.tables.exec = Jvm.exec) (hb : c.code = cc) {i nL : Nat} {x : Option Nat} {lv lv' : List (Nat × Value)} (hdg : decode cc pc = .ok (.astore i, 2)) (h : lv_has ls nL lv) (hn : i < nL) (hl : (i, va_rf x) :: lv.filter (fun q => !(q.1 == i) && !(q.1 + 1 == i && q.2.category == 2)) = lv')
    (kk : ∀ ls' : Array Slot, lv_has ls' nL lv' → W p l e R s m args below meth c H locs cells slots Q (F0 m (pc + 2) ls' rest)) : W p l e R s m args below meth c H locs cells slots Q (F0 m pc ls (va_rf x :: rest)) := by
  cases x with
  | none => exact lv_astoreN hexec hb hdg h hn hl kk
  | some a => exact lv_astore hexec hb hdg h hn hl kk
theorem xv_ifnull (hexec : p.tables.exec = Jvm.exec) (hb : c.code = cc) {q : Option Nat} {off : Int} {tgt : Nat} (hdg : decode cc pc = .ok (.ifnull off, 3)) (ht : (pc : Int) + off = (tgt : Int))
    (kt : q = none → W p l e R s m args below meth c H locs cells slots Q (F0 m tgt ls rest)) (kf : ∀ u, q = some u → W p l e R s m args below meth c H locs cells slots Q (F0 m (pc + 3) ls rest)) : W p l e R s m args below meth c H locs cells slots Q (F0 m pc ls (va_rf (q.map et) :: rest)) := by
  cases q with
  | none => exact lv_ifnullN hexec hb hdg ht (kt rfl)
  | some u => exact lv_ifnull hexec hb hdg (kf u rfl)
theorem xv_ifnonnull (hexec : p.tables.exec = Jvm.exec) (hb : c.code = cc) {q : Option Nat} {off : Int} {tgt : Nat} (hdg : decode cc pc = .ok (.ifnonnull off, 3)) (ht : (pc : Int) + off = (tgt : Int))
    (kt : ∀ u, q = some u → W p l e R s m args below meth c H locs cells slots Q (F0 m tgt ls rest)) (kf : q = none → W p l e R s m args below meth c H locs cells slots Q (F0 m (pc + 3) ls rest)) : W p l e R s m args below meth c H locs cells slots Q (F0 m pc ls (va_rf (q.map et) :: rest)) := by
  cases q with
  | none => exact lv_ifnonnullN hexec hb hdg (kf rfl)
  | some u => exact lv_ifnonnull hexec hb hdg ht (kt u rfl)
theorem xw_instR (X : CallFix p m c cc nL s args (c0 :: TB) own) (hk : xk Z s) (hw : wd Z et S H) {q : Option Nat} {index : Nat} (hq : oT S q) (hlink : Cond.classLink own index RX5 ∈ TB) (hdg : decode cc pc = .ok (.instanceof index, 3))
    (kt : ∀ u, q = some u → oR S u → W p l e R s m args below meth c H locs cells slots Q (F0 m (pc + 3) ls (.int 1 :: rest))) (kf : ¬ iR S q → W p l e R s m args below meth c H locs cells slots Q (F0 m (pc + 3) ls (.int 0 :: rest))) : W p l e R s m args below meth c H locs cells slots Q (F0 m pc ls (va_rf (q.map et) :: rest)) := by
  have hL := X.2.2.2.2 _ (List.mem_cons_of_mem _ hlink)
  rcases hq with rfl | ⟨u, rfl, h1 | h1 | h1⟩
  · exact lv_instN X.1 X.2.1 hdg (kf (fun ⟨u, h, _⟩ => by cases h))
  · exact va_instS X.1 X.2.1 X.2.2.2.1 hL (hk.1.1 4 _ rfl).2 (va_recv hk.1 (ww.P1 hw (xE_row h1)) (ci := 4) (q0 := 0) rfl rfl) hdg (kt u rfl h1)
  · exact va_instNo X.1 X.2.1 X.2.2.2.1 hL hk.2.2.2.2.1 (va_recv hk.1 (ww.P1 hw (xE_fig h1)) (ci := 3) (q0 := 0) rfl rfl) hdg (kf (fun ⟨u', h, h2⟩ => by cases h; have := h1.1; have := h2.2.1; omega))
  · exact va_instNo X.1 X.2.1 X.2.2.2.1 hL hk.2.2.2.1 (va_recv hk.1 (ww.P1 hw (xE_crk h1)) (ci := 2) (q0 := 0) rfl rfl) hdg (kf (fun ⟨u', h, h2⟩ => by cases h; have := h1.1; have := h2.2.1; omega))
theorem xw_instG (X : CallFix p m c cc nL s args (c0 :: TB) own) (hk : xk Z s) (hw : wd Z et S H) {q : Option Nat} {index : Nat} (hq : oT S q) (hlink : Cond.classLink own index RX3 ∈ TB) (hdg : decode cc pc = .ok (.instanceof index, 3))
    (kt : ∀ u, q = some u → oG S u → W p l e R s m args below meth c H locs cells slots Q (F0 m (pc + 3) ls (.int 1 :: rest))) (kf : ¬ iG S q → W p l e R s m args below meth c H locs cells slots Q (F0 m (pc + 3) ls (.int 0 :: rest))) : W p l e R s m args below meth c H locs cells slots Q (F0 m pc ls (va_rf (q.map et) :: rest)) := by
  have hL := X.2.2.2.2 _ (List.mem_cons_of_mem _ hlink)
  rcases hq with rfl | ⟨u, rfl, h1 | h1 | h1⟩
  · exact lv_instN X.1 X.2.1 hdg (kf (fun ⟨u, h, _⟩ => by cases h))
  · exact va_instNo X.1 X.2.1 X.2.2.2.1 hL hk.2.2.2.2.2.1 (va_recv hk.1 (ww.P1 hw (xE_row h1)) (ci := 4) (q0 := 0) rfl rfl) hdg (kf (fun ⟨u', h, h2⟩ => by cases h; have := h2.1; have := h1.2.1; omega))
  · exact va_instS X.1 X.2.1 X.2.2.2.1 hL (hk.1.1 3 _ rfl).2 (va_recv hk.1 (ww.P1 hw (xE_fig h1)) (ci := 3) (q0 := 0) rfl rfl) hdg (kt u rfl h1)
  · exact va_instNo X.1 X.2.1 X.2.2.2.1 hL hk.2.2.2.2.2.2 (va_recv hk.1 (ww.P1 hw (xE_crk h1)) (ci := 2) (q0 := 0) rfl rfl) hdg (kf (fun ⟨u', h, h2⟩ => by cases h; have := h1.1; have := h2.2.1; omega))
theorem xw_castR (X : CallFix p m c cc nL s args (c0 :: TB) own) (hk : xk Z s) (hw : wd Z et S H) {u index : Nat} (h1 : oR S u) (hlink : Cond.classLink own index RX5 ∈ TB) (hdg : decode cc pc = .ok (.checkcast index, 3))
    (kk : W p l e R s m args below meth c H locs cells slots Q (F0 m (pc + 3) ls (.ref (et u) :: rest))) : W p l e R s m args below meth c H locs cells slots Q (F0 m pc ls (.ref (et u) :: rest)) :=
  va_castS X.1 X.2.1 X.2.2.2.1 (X.2.2.2.2 _ (List.mem_cons_of_mem _ hlink)) (hk.1.1 4 _ rfl).2 (va_recv hk.1 (ww.P1 hw (xE_row h1)) (ci := 4) (q0 := 0) rfl rfl) hdg kk
theorem xw_castG (X : CallFix p m c cc nL s args (c0 :: TB) own) (hk : xk Z s) (hw : wd Z et S H) {u index : Nat} (h1 : oG S u) (hlink : Cond.classLink own index RX3 ∈ TB) (hdg : decode cc pc = .ok (.checkcast index, 3))
    (kk : W p l e R s m args below meth c H locs cells slots Q (F0 m (pc + 3) ls (.ref (et u) :: rest))) : W p l e R s m args below meth c H locs cells slots Q (F0 m pc ls (.ref (et u) :: rest)) :=
  va_castS X.1 X.2.1 X.2.2.2.1 (X.2.2.2.2 _ (List.mem_cons_of_mem _ hlink)) (hk.1.1 3 _ rfl).2 (va_recv hk.1 (ww.P1 hw (xE_fig h1)) (ci := 3) (q0 := 0) rfl rfl) hdg kk
theorem oT_ne {S : xs_T} {u : Nat} (h : oT S (some u)) : xE Z et S u ≠ none := by
  rcases h with h | ⟨v, h, h1 | h1 | h1⟩
  · cases h
  · cases h; rw [xE_row h1]; exact fun h => by cases h
  · cases h; rw [xE_fig h1]; exact fun h => by cases h
  · cases h; rw [xE_crk h1]; exact fun h => by cases h
theorem oT_inj (hw : wd Z et S H) {a b : Option Nat} (ha : oT S a) (hb : oT S b) : a.map et = b.map et ↔ a = b := by
  refine ⟨fun h => ?_, fun h => by rw [h]⟩
  cases a with
  | none => cases b with
    | none => rfl
    | some v => cases h
  | some u => cases b with
    | none => cases h
    | some v =>
      have h1 : et u = et v := Option.some.inj h
      rw [hw.2.1 u v (oT_ne ha) (oT_ne hb) h1]
theorem xw_acmpne (X : CallFix p m c cc nL s args (c0 :: TB) own) (hw : wd Z et S H) {a b : Option Nat} (ha : oT S a) (hb : oT S b) {off : Int} {tgt : Nat} (hdg : decode cc pc = .ok (.if_acmp .ne off, 3)) (ht : (pc : Int) + off = (tgt : Int))
    (kt : ¬ a = b → W p l e R s m args below meth c H locs cells slots Q (F0 m tgt ls rest)) (kf : a = b → W p l e R s m args below meth c H locs cells slots Q (F0 m (pc + 3) ls rest)) : W p l e R s m args below meth c H locs cells slots Q (F0 m pc ls (va_rf (b.map et) :: va_rf (a.map et) :: rest)) :=
  lv_acmp_ne X.1 X.2.1 hdg ht (fun h => kt (fun q => h ((oT_inj hw ha hb).mpr q))) (fun h => kf ((oT_inj hw ha hb).mp h))
/-! RETURNS -/
variable {free : Addr → Prop}
theorem xt_i {Nn : Nat → Nat} {K : Int32 → xs_T → Prop} {v : Int32} (X : CallFix p m c cc nL s args (c0 :: TB) own) (hr : meth.sig.returnType = some .int) (hlocks : meth.locks = false) (hN : S.2.2.2.2 = Nn) (hw : wd Z et S H) (hl : xl Z locs) (h : K v S) (hdg : decode cc pc = .ok (.ireturn, 1)) : W p l e R s m args below meth c H locs cells slots (MQ below (xQi Z et Nn K) args s cells slots (fun q => Z.2.2.1 ≤ q)) (F0 m pc ls [.int v]) :=
  W.iret X.1 X.2.1 hr (fun t ht _ => ⟨v, S, rfl, h, hN, by rw [ht]; exact hw⟩) hl hdg hlocks
theorem xt_z {Nn : Nat → Nat} {K : Int32 → xs_T → Prop} {v : Int32} (X : CallFix p m c cc nL s args (c0 :: TB) own) (hr : meth.sig.returnType = some .boolean) (hlocks : meth.locks = false) (hN : S.2.2.2.2 = Nn) (hw : wd Z et S H) (hl : xl Z locs) (hv : v = 0 ∨ v = 1) (h : K v S) (hdg : decode cc pc = .ok (.ireturn, 1)) : W p l e R s m args below meth c H locs cells slots (MQ below (xQi Z et Nn K) args s cells slots (fun q => Z.2.2.1 ≤ q)) (F0 m pc ls [.int v]) :=
  W.zret X.1 X.2.1 hr (by rcases hv with rfl | rfl <;> rfl) (fun t ht _ => ⟨v, S, rfl, h, hN, by rw [ht]; exact hw⟩) hl hdg hlocks
theorem xt_l {Nn : Nat → Nat} {K : Int64 → xs_T → Prop} {v : Int64} (X : CallFix p m c cc nL s args (c0 :: TB) own) (hr : meth.sig.returnType = some .long) (hlocks : meth.locks = false) (hN : S.2.2.2.2 = Nn) (hw : wd Z et S H) (hl : xl Z locs) (h : K v S) (hdg : decode cc pc = .ok (.lreturn, 1)) : W p l e R s m args below meth c H locs cells slots (MQ below (xQl Z et Nn K) args s cells slots (fun q => Z.2.2.1 ≤ q)) (F0 m pc ls [.long v]) :=
  W.lret X.1 X.2.1 hr (fun t ht _ => ⟨v, S, rfl, h, hN, by rw [ht]; exact hw⟩) hl hdg hlocks
theorem xt_v {Nn : Nat → Nat} {K : xs_T → Prop} (X : CallFix p m c cc nL s args (c0 :: TB) own) (hr : meth.sig.returnType = none) (hlocks : meth.locks = false) (hN : S.2.2.2.2 = Nn) (hw : wd Z et S H) (hl : xl Z locs) (h : K S) (hdg : decode cc pc = .ok (.return_, 1)) : W p l e R s m args below meth c H locs cells slots (MQ below (xQv Z et Nn K) args s cells slots (fun q => Z.2.2.1 ≤ q)) (F0 m pc ls []) :=
  W.vret X.1 X.2.1 hr (fun t ht _ => ⟨S, rfl, h, hN, by rw [ht]; exact hw⟩) hl hdg hlocks
theorem xt_q {Nn : Nat → Nat} {K : Option Nat → xs_T → Prop} {n : String} (q : Option Nat) (X : CallFix p m c cc nL s args (c0 :: TB) own) (hr : meth.sig.returnType = some (.object n)) (hlocks : meth.locks = false) (hN : S.2.2.2.2 = Nn) (hw : wd Z et S H) (hl : xl Z locs) (h : K q S) (hdg : decode cc pc = .ok (.areturn, 1)) : W p l e R s m args below meth c H locs cells slots (MQ below (xQq Z et Nn K) args s cells slots (fun q => Z.2.2.1 ≤ q)) (F0 m pc ls [va_rf (q.map et)]) :=
  W.aret X.1 X.2.1 hr (Or.inl ⟨n, rfl⟩) (va_rf_or _) (fun t ht _ => ⟨q, S, rfl, h, hN, by rw [ht]; exact hw⟩) hl hdg hlocks
variable {S0 : xs_T} {et0 : Nat → Nat}
theorem xt_ai {K : Int32 → xs_T → Prop} {v : Int32} (X : CallFix p m c cc nL s args (c0 :: TB) own) (hr : meth.sig.returnType = some .int) (hlocks : meth.locks = false) (hst : xst Z et0 S0 et) (hg : xgr S0 S) (hw : wd Z et S H) (hl : xl Z locs) (h : K v S) (hdg : decode cc pc = .ok (.ireturn, 1)) : W p l e R s m args below meth c H locs cells slots (MQ below (xAi Z et0 S0 K) args s cells slots (fun q => Z.2.2.1 ≤ q)) (F0 m pc ls [.int v]) :=
  W.iret X.1 X.2.1 hr (fun t ht _ => ⟨v, S, et, rfl, h, hst, hg, by rw [ht]; exact hw⟩) hl hdg hlocks
theorem xt_av {K : xs_T → Prop} (X : CallFix p m c cc nL s args (c0 :: TB) own) (hr : meth.sig.returnType = none) (hlocks : meth.locks = false) (hst : xst Z et0 S0 et) (hg : xgr S0 S) (hw : wd Z et S H) (hl : xl Z locs) (h : K S) (hdg : decode cc pc = .ok (.return_, 1)) : W p l e R s m args below meth c H locs cells slots (MQ below (xAv Z et0 S0 K) args s cells slots (fun q => Z.2.2.1 ≤ q)) (F0 m pc ls []) :=
  W.vret X.1 X.2.1 hr (fun t ht _ => ⟨S, et, rfl, h, hst, hg, by rw [ht]; exact hw⟩) hl hdg hlocks
theorem xt_aq {K : Option Nat → xs_T → Prop} {n : String} (q : Option Nat) (X : CallFix p m c cc nL s args (c0 :: TB) own) (hr : meth.sig.returnType = some (.object n)) (hlocks : meth.locks = false) (hst : xst Z et0 S0 et) (hg : xgr S0 S) (hw : wd Z et S H) (hl : xl Z locs) (h : K q S) (hdg : decode cc pc = .ok (.areturn, 1)) : W p l e R s m args below meth c H locs cells slots (MQ below (xAq Z et0 S0 K) args s cells slots (fun q => Z.2.2.1 ≤ q)) (F0 m pc ls [va_rf (q.map et)]) :=
  W.aret X.1 X.2.1 hr (Or.inl ⟨n, rfl⟩) (va_rf_or _) (fun t ht _ => ⟨q, S, et, rfl, h, hst, hg, by rw [ht]; exact hw⟩) hl hdg hlocks
end XJ

/-! facts that stay -/
theorem oR_N {S S1 : xs_T} {u : Nat} (h : S1.2.2.2.2 = S.2.2.2.2) (o : oR S u) : oR S1 u := by
  unfold oR xN at *
  rw [h]; exact o
theorem oG_N {S S1 : xs_T} {u : Nat} (h : S1.2.2.2.2 = S.2.2.2.2) (o : oG S u) : oG S1 u := by
  unfold oG xN at *
  rw [h]; exact o
theorem oC_N {S S1 : xs_T} {u : Nat} (h : S1.2.2.2.2 = S.2.2.2.2) (o : oC S u) : oC S1 u := by
  unfold oC xN at *
  rw [h]; exact o
theorem oA_N {S S1 : xs_T} {u : Nat} (h : S1.2.2.2.2 = S.2.2.2.2) (o : oA S u) : oA S1 u := by
  rcases o with o | o | ⟨v, h1, h2⟩
  · exact Or.inl o
  · exact Or.inr (Or.inl o)
  · exact Or.inr (Or.inr ⟨v, h1, oR_N h h2⟩)
theorem oT_N {S S1 : xs_T} {q : Option Nat} (h : S1.2.2.2.2 = S.2.2.2.2) (o : oT S q) : oT S1 q := by
  rcases o with o | ⟨v, h1, h2 | h2 | h2⟩
  · exact Or.inl o
  · exact Or.inr ⟨v, h1, Or.inl (oR_N h h2)⟩
  · exact Or.inr ⟨v, h1, Or.inr (Or.inl (oG_N h h2))⟩
  · exact Or.inr ⟨v, h1, Or.inr (Or.inr (oC_N h h2))⟩
theorem oR_g {S S1 : xs_T} {u : Nat} (h : xgr S S1) (o : oR S u) : oR S1 u := by
  obtain ⟨h1, h2, h3, h4⟩ := o
  refine ⟨h1, h2, by have := h.1; omega, ?_⟩
  rw [h.2.2.2.2 (u + 120) (by omega) (by omega)]
  exact h4
theorem oG_g {S S1 : xs_T} {u : Nat} (h : xgr S S1) (o : oG S u) : oG S1 u := ⟨o.1, o.2.1, Nat.lt_of_lt_of_le o.2.2 (Nat.add_le_add_left h.2.1 _)⟩
theorem oC_g {S S1 : xs_T} {u : Nat} (h : xgr S S1) (o : oC S u) : oC S1 u := ⟨o.1, Nat.lt_of_lt_of_le o.2 (Nat.add_le_add_left h.2.2.1 _)⟩
theorem oT_g {S S1 : xs_T} {q : Option Nat} (h : xgr S S1) (o : oT S q) : oT S1 q := by
  rcases o with o | ⟨v, h1, h2 | h2 | h2⟩
  · exact Or.inl o
  · exact Or.inr ⟨v, h1, Or.inl (oR_g h h2)⟩
  · exact Or.inr ⟨v, h1, Or.inr (Or.inl (oG_g h h2))⟩
  · exact Or.inr ⟨v, h1, Or.inr (Or.inr (oC_g h h2))⟩
theorem xgr.trans {A B C : xs_T} (h : xgr A B) (g : xgr B C) : xgr A C := ⟨Nat.le_trans h.1 g.1, Nat.le_trans h.2.1 g.2.1, Nat.le_trans h.2.2.1 g.2.2.1, g.2.2.2.1, fun i h1 h2 => (g.2.2.2.2 i h1 (Nat.lt_of_lt_of_le h2 (Nat.add_le_add_left h.1 _))).trans (h.2.2.2.2 i h1 h2)⟩
theorem xgr.N {A B C : xs_T} (h : xgr A B) (g : C.2.2.2.2 = B.2.2.2.2) : xgr A C := by
  unfold xgr xN at *
  rw [g]; exact h
theorem xgr.refl {A : xs_T} (h : xN A 5 = 0) : xgr A A := ⟨Nat.le_refl _, Nat.le_refl _, Nat.le_refl _, h, fun _ _ _ => rfl⟩
theorem xE_dom {Z : xz_T} {et et' : Nat → Nat} {S S' : xs_T} {i : Nat} (h5 : xN S 5 = 0) (h : xgr S S') (hi : xE Z et S i ≠ none) : xE Z et' S' i ≠ none := by
  by_cases h1 : i < 64
  · intro hn
    apply hi
    unfold xE at hn ⊢
    by_cases h2 : i < 32
    · rw [if_pos h2] at hn ⊢
      unfold xEm at hn ⊢
      repeat' split at hn
      all_goals first | (cases hn; done) | (repeat rw [if_neg (by assumption)])
    · rw [if_neg h2, if_pos h1] at hn ⊢
      have hc : i = 32 ∨ i = 33 ∨ i = 34 ∨ i = 35 ∨ i = 36 ∨ i = 37 ∨ i = 38 ∨ i = 39 ∨ i = 40 ∨ i = 41 ∨ i = 42 ∨ i = 43 ∨ i = 44 ∨ i = 45 ∨ i = 46 ∨ i = 47 ∨ i = 48 ∨ i = 49 ∨ i = 50 ∨ i = 51 ∨ i = 52 ∨ i = 53 ∨ i = 54 ∨ i = 55 ∨ i = 56 ∨ i = 57 ∨ i = 58 ∨ i = 59 ∨ i = 60 ∨ i = 61 ∨ i = 62 ∨ i = 63 := by omega
      rcases hc with rfl | rfl | rfl | rfl | rfl | rfl | rfl | rfl | rfl | rfl | rfl | rfl | rfl | rfl | rfl | rfl | rfl | rfl | rfl | rfl | rfl | rfl | rfl | rfl | rfl | rfl | rfl | rfl | rfl | rfl | rfl | rfl
      all_goals first | rfl | (cases hn; done)
  · have e : ∀ (e0 : Nat → Nat) (T : xs_T), xE Z e0 T i = xEp Z e0 (xF T i) (xL T i) (xN T) i := fun e0 T => by
      unfold xE
      rw [if_neg (by omega), if_neg h1]
    rw [e] at hi ⊢
    obtain ⟨g0, g1, g2, g3, g4⟩ := h
    unfold xEp at hi ⊢
    rw [if_neg h1] at hi ⊢
    by_cases c1 : i < 184
    · rw [if_pos c1] at hi ⊢
      by_cases c2 : i < 64 + xN S 0
      · rw [if_pos (by omega)]
        exact fun h => by cases h
      · rw [if_neg c2, if_neg (by omega)] at hi
        exact absurd rfl hi
    · rw [if_neg c1] at hi ⊢
      by_cases c3 : i < 304
      · rw [if_pos c3] at hi ⊢
        by_cases c2 : i < 184 + xN S 0
        · rw [if_pos (Or.inl (by omega))]
          exact fun h => by cases h
        · rw [if_neg (by omega)] at hi
          exact absurd rfl hi
      · rw [if_neg c3] at hi ⊢
        by_cases c4 : i < 704
        · rw [if_pos c4] at hi ⊢
          by_cases c2 : i < 304 + xN S 1
          · rw [if_pos (by omega)]
            exact fun h => by cases h
          · rw [if_neg c2] at hi
            exact absurd rfl hi
        · rw [if_neg c4] at hi ⊢
          by_cases c2 : i < 704 + xN S 2
          · rw [if_pos (by omega)]
            exact fun h => by cases h
          · rw [if_neg c2] at hi
            exact absurd rfl hi
theorem xst.trans {Z : xz_T} {e0 e1 e2 : Nat → Nat} {S0 S : xs_T} (h5 : xN S0 5 = 0) (hg : xgr S0 S) (h : xst Z e0 S0 e1) (g : xst Z e1 S e2) : xst Z e0 S0 e2 := fun i hi => (g i (xE_dom h5 hg hi)).trans (h i hi)
