theorem xe_0 {Z : xz_T} {et : Nat → Nat} {S : xs_T} : xE Z et S 0 = some (.inr (8, [.int (xF S 0 0), .ref (et 1), .ref (et 2), .ref (et 3), .int (xF S 0 4), .ref (et 5), .int (xF S 0 6), .ref (et 7), .int (xF S 0 8), .ref (et 9), .ref (et 10), .ref (et 11), .int (xF S 0 12), .ref (et 13), .ref (et 14), .ref (et 15), .ref (et 16), .ref (et 17), .int (xF S 0 18), .ref (et 19), .ref (et 20), .ref (et 21), .ref (et 22), .int (xF S 0 23), .int (xF S 0 24), .int (xF S 0 25), .int (xF S 0 26), .int (xF S 0 27)])) := rfl
theorem xe_32 {Z : xz_T} {et : Nat → Nat} {S : xs_T} : xE Z et S 32 = some (.inr (7, [.ref (et 33), .ref (et 34), .ref (et 35), .ref (et 36), .int (xF S 32 4), .int (xF S 32 5), .int (xF S 32 6), .int (xF S 32 7), .int (xF S 32 8)])) := rfl
theorem xe_33 {Z : xz_T} {et : Nat → Nat} {S : xs_T} : xE Z et S 33 = some (.inr (0, [.ref (et 37), .ref (et 38), .ref (et 39), .ref (et 40)])) := rfl
theorem xe_34 {Z : xz_T} {et : Nat → Nat} {S : xs_T} : xE Z et S 34 = some (.inr (6, [.ref (et 42), .ref (et 43), .ref (et 44), .ref (et 45), .ref (et 46), .int (xF S 34 5)])) := rfl
theorem xe_35 {Z : xz_T} {et : Nat → Nat} {S : xs_T} : xE Z et S 35 = some (.inr (1, [.ref (et 47), .ref (et 48), .int (xF S 35 2), .int (xF S 35 3)])) := rfl
theorem xe_40 {Z : xz_T} {et : Nat → Nat} {S : xs_T} : xE Z et S 40 = some (.inr (5, [.ref (et 41), .int (xF S 40 1), .int (xF S 40 2), .int (xF S 40 3)])) := rfl
theorem xe_1 {Z : xz_T} {et : Nat → Nat} {S : xs_T} : xE Z et S 1 = ai Z 120 (xI S 1) := rfl
theorem xe_2 {Z : xz_T} {et : Nat → Nat} {S : xs_T} : xE Z et S 2 = ai Z 120 (xI S 2) := rfl
theorem xe_3 {Z : xz_T} {et : Nat → Nat} {S : xs_T} : xE Z et S 3 = ai Z 120 (xI S 3) := rfl
theorem xe_5 {Z : xz_T} {et : Nat → Nat} {S : xs_T} : xE Z et S 5 = al Z 3000 (xL S 5) := rfl
theorem xe_7 {Z : xz_T} {et : Nat → Nat} {S : xs_T} : xE Z et S 7 = ai Z 401 (xI S 7) := rfl
theorem xe_9 {Z : xz_T} {et : Nat → Nat} {S : xs_T} : xE Z et S 9 = ai Z 10 (xI S 9) := rfl
theorem xe_10 {Z : xz_T} {et : Nat → Nat} {S : xs_T} : xE Z et S 10 = ai Z 10 (xI S 10) := rfl
theorem xe_11 {Z : xz_T} {et : Nat → Nat} {S : xs_T} : xE Z et S 11 = ai Z 10 (xI S 11) := rfl
theorem xe_13 {Z : xz_T} {et : Nat → Nat} {S : xs_T} : xE Z et S 13 = ai Z 60 (xI S 13) := rfl
theorem xe_14 {Z : xz_T} {et : Nat → Nat} {S : xs_T} : xE Z et S 14 = ai Z 60 (xI S 14) := rfl
theorem xe_15 {Z : xz_T} {et : Nat → Nat} {S : xs_T} : xE Z et S 15 = ai Z 60 (xI S 15) := rfl
theorem xe_16 {Z : xz_T} {et : Nat → Nat} {S : xs_T} : xE Z et S 16 = ai Z 60 (xI S 16) := rfl
theorem xe_17 {Z : xz_T} {et : Nat → Nat} {S : xs_T} : xE Z et S 17 = ai Z 60 (xI S 17) := rfl
theorem xe_19 {Z : xz_T} {et : Nat → Nat} {S : xs_T} : xE Z et S 19 = ai Z 20 (xI S 19) := rfl
theorem xe_20 {Z : xz_T} {et : Nat → Nat} {S : xs_T} : xE Z et S 20 = al Z 1280 (xL S 20) := rfl
theorem xe_21 {Z : xz_T} {et : Nat → Nat} {S : xs_T} : xE Z et S 21 = al Z 64 (xL S 21) := rfl
theorem xe_22 {Z : xz_T} {et : Nat → Nat} {S : xs_T} : xE Z et S 22 = al Z 64 (xL S 22) := rfl
theorem xe_36 {Z : xz_T} {et : Nat → Nat} {S : xs_T} : xE Z et S 36 = al Z 64 (xL S 36) := rfl
theorem xe_39 {Z : xz_T} {et : Nat → Nat} {S : xs_T} : xE Z et S 39 = al Z 64 (xL S 39) := rfl
theorem xe_37 {Z : xz_T} {et : Nat → Nat} {S : xs_T} : xE Z et S 37 = aq Z 2 10 (fun k => (xQ S 37 k).map et) := rfl
theorem xe_38 {Z : xz_T} {et : Nat → Nat} {S : xs_T} : xE Z et S 38 = ai Z 10 (xI S 38) := rfl
theorem xe_41 {Z : xz_T} {et : Nat → Nat} {S : xs_T} : xE Z et S 41 = aq Z 3 400 (fun k => (xQ S 41 k).map et) := rfl
theorem xe_42 {Z : xz_T} {et : Nat → Nat} {S : xs_T} : xE Z et S 42 = ai Z 60 (xI S 42) := rfl
theorem xe_43 {Z : xz_T} {et : Nat → Nat} {S : xs_T} : xE Z et S 43 = ai Z 60 (xI S 43) := rfl
theorem xe_44 {Z : xz_T} {et : Nat → Nat} {S : xs_T} : xE Z et S 44 = ai Z 60 (xI S 44) := rfl
theorem xe_45 {Z : xz_T} {et : Nat → Nat} {S : xs_T} : xE Z et S 45 = ai Z 60 (xI S 45) := rfl
theorem xe_46 {Z : xz_T} {et : Nat → Nat} {S : xs_T} : xE Z et S 46 = ai Z 60 (xI S 46) := rfl
theorem xe_47 {Z : xz_T} {et : Nat → Nat} {S : xs_T} : xE Z et S 47 = aq Z 4 20 (fun k => (xQ S 47 k).map et) := rfl
theorem xe_48 {Z : xz_T} {et : Nat → Nat} {S : xs_T} : xE Z et S 48 = al Z 1280 (xL S 48) := rfl
section XR
variable {p : Program} {l : Launch} {e : Env} {R : Room} {s : State} {m : MethodId} {args : Array Value} {below : List Frame} {meth : Method} {c : Code} {H : Heap} {locs : List Loc} {cells slots : Nat}
variable {cc : ByteArray} {pc nL : Nat} {ls : Array Slot} {rest : List Value} {Z : xz_T} {et : Nat → Nat} {S : xs_T} {c0 : Cond} {own : String} {mc ms : Nat} {st0 : List Value}
variable {y : MethodName} {bytes : ByteArray} {maxL n index : Nat} {ret : Option FieldType} {rm : Room} {Qc : Array Value → State → Outcome → State → Prop} {free : Addr → Prop}
theorem xr_I {As : List Value} {i : Nat} (X : CallFix p m c cc nL s args (c0 :: TB) own) (hk : xk Z s) (hw : wd Z et S H) (hls : ls.size = nL) (hM : Met l y (wq y bytes maxL none) rm (xPc Z et S (.ref (et i) :: As)) Qc mc ms free) (hG : GoodIn (c0 :: TB) (wq y bytes maxL none)) (hini : Cond.initialized y.cls ∈ TB) (hlk : Cond.methodLink own index y ∈ TB) (hin : Cond.instanceMethod y ∈ TB) (hy1 : y.name = "<init>") (hrc : rm.cells = mc) (hrs : rm.slots = ms)
    (hd : y.cls ≠ "java/lang/invoke/MethodHandle" ∧ y.cls ≠ "java/lang/invoke/VarHandle" ∧ (parseMethodDescriptor y.desc).map (fun d => d.parameters.length) = some n) (hR : rm.frames + 1 ≤ R.frames ∧ 8 + (maxL + 11) + rm.locals ≤ R.locals) (hst : st0 = As.reverse ++ .ref (et i) :: rest) (hrm : (rest.map fun v => v.category).sum ≤ 8) (hdg : decode cc pc = .ok (.invokespecial index, 3)) (hf : cells + mc ≤ R.cells ∧ slots + ms ≤ R.slots) (hnn : As.length = n := by rfl) :
    va_Run p l e R s m args below meth c H locs cells slots mc ms (F0 m pc ls st0) rest (Qc (Value.ref (et i) :: As).toArray) free :=
  va_runI X hM (cwI n X.2.2.2.2 hG rfl hrc hrs (X.2.2.2.2 _ (List.mem_cons_of_mem _ hini)) (X.2.2.2.2 _ (List.mem_cons_of_mem _ hlk)) (X.2.2.2.2 _ (List.mem_cons_of_mem _ hin)) hy1 hd hR) ⟨xPc.blind, fun U hU hW => ⟨rfl, hk.warm hW, by rw [hU]; exact hw⟩⟩ rfl hnn hls hst (lv_room hrm) hdg hf
theorem xr_IN {As : List Value} {i : Nat} {host : String} (X : CallFix p m c cc nL s args (c0 :: TB) own) (hk : xk Z s) (hw : wd Z et S H) (hls : ls.size = nL) (hM : Met l y (wq y bytes maxL none) rm (xPc Z et S (.ref (et i) :: As)) Qc mc ms free) (hG : GoodIn (c0 :: TB) (wq y bytes maxL none)) (hini : Cond.initialized y.cls ∈ TB) (hlk : Cond.methodLinkNest own index y host ∈ xk_ng) (hin : Cond.instanceMethod y ∈ TB) (hy1 : y.name = "<init>") (hrc : rm.cells = mc) (hrs : rm.slots = ms)
    (hd : y.cls ≠ "java/lang/invoke/MethodHandle" ∧ y.cls ≠ "java/lang/invoke/VarHandle" ∧ (parseMethodDescriptor y.desc).map (fun d => d.parameters.length) = some n) (hR : rm.frames + 1 ≤ R.frames ∧ 8 + (maxL + 11) + rm.locals ≤ R.locals) (hst : st0 = As.reverse ++ .ref (et i) :: rest) (hrm : (rest.map fun v => v.category).sum ≤ 8) (hdg : decode cc pc = .ok (.invokespecial index, 3)) (hf : cells + mc ≤ R.cells ∧ slots + ms ≤ R.slots) (hnn : As.length = n := by rfl) :
    va_Run p l e R s m args below meth c H locs cells slots mc ms (F0 m pc ls st0) rest (Qc (Value.ref (et i) :: As).toArray) free :=
  va_runIN X hM ⟨va_cnB n X.2.2.2.2 hG rfl hrc hrs (hk.2.1 _ hlk) (X.2.2.2.2 _ (List.mem_cons_of_mem _ hini)) hd hR, hy1, X.2.2.2.2 _ (List.mem_cons_of_mem _ hin)⟩ ⟨xPc.blind, fun U hU hW => ⟨rfl, hk.warm hW, by rw [hU]; exact hw⟩⟩ rfl hnn hls hst (lv_room hrm) hdg hf
theorem xr_A {As : List Value} {i ci : Nat} {q : vw_C} {fs : List Value} {x : MethodName} {C owner : String} (X : CallFix p m c cc nL s args (c0 :: TB) own) (hk : xk Z s) (hw : wd Z et S H) (hls : ls.size = nL) (hM : Met l y (wq y bytes maxL ret) rm (xPc Z et S (.ref (et i) :: As)) Qc mc ms free) (hG : GoodIn (c0 :: TB) (va_wsU own index C owner x y (wq y bytes maxL ret))) (hE : xE Z et S i = some (.inr (ci, fs))) (hc : vwCl[ci]? = some q) (hq : q.1 = C) (hrc : rm.cells = mc) (hrs : rm.slots = ms) (hz : Cond.declares ⟨owner, x.name, x.desc⟩ ∈ xk_ng)
    (hd : owner ≠ "java/lang/invoke/MethodHandle" ∧ owner ≠ "java/lang/invoke/VarHandle" ∧ (parseMethodDescriptor x.desc).map (fun d => d.parameters.length) = some n) (hR : rm.frames + 1 ≤ R.frames ∧ 8 + (maxL + 11) + rm.locals ≤ R.locals) (hst : st0 = As.reverse ++ .ref (et i) :: rest) (hrm : (rest.map fun v => v.category).sum ≤ 8) (hdg : decode cc pc = .ok (.invokevirtual index, 3)) (hf : cells + mc ≤ R.cells ∧ slots + ms ≤ R.slots) (hnn : As.length = n := by rfl) :
    va_Run p l e R s m args below meth c H locs cells slots mc ms (F0 m pc ls st0) rest (Qc (Value.ref (et i) :: As).toArray) free := by
  subst hq
  exact va_runU X hM (va_cwA n X.2.2.2.2 hG rfl hrc hrs (hk.2.1 _ hz) hd hR) ⟨xPc.blind, va_recv hk.1 (ww.P1 hw hE) hc (q0 := 0) rfl, fun U hU hW => ⟨rfl, hk.warm hW, by rw [hU]; exact hw⟩⟩ rfl hnn hls hst (lv_room hrm) hdg hf
end XR
theorem tb_U {x y : MethodName} {c : ByteArray} {n idx : Nat} {r : Option FieldType} {c0 : Cond} {own C owner : String} (h : Cond.code y c n r ∈ TB) (h1 : Cond.methodLink own idx x ∈ TB) (h2 : Cond.sameMethod x.cls owner x.name x.desc ∈ TB) (h3 : Cond.selects C x y ∈ TB) (h4 : Cond.instanceMethod y ∈ TB) (h5 : Cond.initialized y.cls ∈ TB) : GoodIn (c0 :: TB) (va_wsU own idx C owner x y (wq y c n r)) := fun w hw => by
  rcases List.mem_append.mp hw with e | e
  · simp only [List.mem_cons, List.not_mem_nil, or_false] at e
    rcases e with e | e | e | e | e <;> subst e
    · exact ⟨List.mem_cons_of_mem _ h1, (tb_good _ h1).2⟩
    · exact ⟨List.mem_cons_of_mem _ h2, (tb_good _ h2).2⟩
    · exact ⟨List.mem_cons_of_mem _ h3, (tb_good _ h3).2⟩
    · exact ⟨List.mem_cons_of_mem _ h4, (tb_good _ h4).2⟩
    · exact ⟨List.mem_cons_of_mem _ h5, (tb_good _ h5).2⟩
  · exact tb_wq h w e
theorem oT_or {S : xs_T} {u : Nat} (h : oT S (some u)) : oR S u ∨ oG S u ∨ oC S u := by
  rcases h with h | ⟨v, h, h1⟩
  · cases h
  · cases h; exact h1
