/-! WHAT IS MADE LATER: a figure, a crank, a row -/
def mkG (S : xs_T) : xs_T := (va_up S.1 (304 + xN S 1) (fun _ => 0), S.2.1, S.2.2.1, S.2.2.2.1, va_up S.2.2.2.2 1 (xN S 1 + 1))
def mkC (S : xs_T) : xs_T := (S.1, S.2.1, S.2.2.1, S.2.2.2.1, va_up S.2.2.2.2 2 (xN S 2 + 1))
/-- a row whose cells aren't there yet; the cells; the row -/
def mkH (S : xs_T) : xs_T := (va_up S.1 (64 + xN S 0) (fun _ => 0), S.2.1, S.2.2.1, S.2.2.2.1, va_up S.2.2.2.2 5 1)
def mkL (S : xs_T) (n : Nat) : xs_T := (S.1, S.2.1, va_up S.2.2.1 (184 + xN S 0) (fun _ => 0), S.2.2.2.1, va_up (va_up S.2.2.2.2 (184 + xN S 0) n) 5 2)
def mkE (S : xs_T) : xs_T := (S.1, S.2.1, S.2.2.1, S.2.2.2.1, va_up (va_up S.2.2.2.2 0 (xN S 0 + 1)) 5 0)
theorem xE_pool {Z : xz_T} {et : Nat → Nat} {S : xs_T} {i : Nat} (h : ¬ i < 64) : xE Z et S i = xEp Z et (xF S i) (xL S i) (xN S) i := by
  unfold xE
  rw [if_neg (by omega), if_neg h]
theorem xE_fixd {Z : xz_T} {et : Nat → Nat} {S S' : xs_T} {i : Nat} (h : i < 64) (h1 : xF S' i = xF S i) (h2 : xI S' i = xI S i) (h3 : xL S' i = xL S i) (h4 : xQ S' i = xQ S i) : xE Z et S' i = xE Z et S i := by
  unfold xE
  by_cases h0 : i < 32
  · rw [if_pos h0, if_pos h0, h1, h2, h3]
  · rw [if_neg h0, if_neg h0, if_pos h, if_pos h, h1, h2, h3, h4]
theorem xE_et {Z : xz_T} {et : Nat → Nat} {S : xs_T} {u a : Nat} (hu : 64 ≤ u) (hq : ∀ i k, xQ S i k ≠ some u) (hr : ∀ i, 64 ≤ i → i < 184 → i < 64 + xN S 0 → i + 120 ≠ u) (i : Nat) : xE Z (va_up et u a) S i = xE Z et S i := by
  have e1 : ∀ j, j < 64 → va_up et u a j = et j := fun j hj => va_up_ne _ _ (by omega)
  by_cases h : i < 64
  · unfold xE
    by_cases h0 : i < 32
    · rw [if_pos h0, if_pos h0]
      unfold xEm
      rw [e1 1 (by decide), e1 2 (by decide), e1 3 (by decide), e1 5 (by decide), e1 7 (by decide), e1 9 (by decide), e1 10 (by decide), e1 11 (by decide), e1 13 (by decide), e1 14 (by decide), e1 15 (by decide), e1 16 (by decide), e1 17 (by decide), e1 19 (by decide), e1 20 (by decide), e1 21 (by decide), e1 22 (by decide)]
    · rw [if_neg h0, if_neg h0, if_pos h, if_pos h]
      have e2 : (fun k => (xQ S i k).map (va_up et u a)) = (fun k => (xQ S i k).map et) := by
        funext k
        cases hk : xQ S i k with
        | none => rfl
        | some v =>
          have hv : v ≠ u := fun q => hq i k (by rw [hk, q])
          show some (va_up et u a v) = some (et v)
          rw [va_up_ne _ _ hv]
      unfold xEc
      rw [e1 33 (by decide), e1 34 (by decide), e1 35 (by decide), e1 36 (by decide), e1 37 (by decide), e1 38 (by decide), e1 39 (by decide), e1 40 (by decide), e1 41 (by decide), e1 42 (by decide), e1 43 (by decide), e1 44 (by decide), e1 45 (by decide), e1 46 (by decide), e1 47 (by decide), e1 48 (by decide), e2]
  · rw [xE_pool h, xE_pool h]
    unfold xEp
    by_cases c1 : i < 184
    · rw [if_neg h, if_pos c1, if_neg h, if_pos c1]
      by_cases c2 : i < 64 + xN S 0
      · rw [if_pos c2, if_pos c2, va_up_ne _ _ (hr i (by omega) c1 c2)]
      · rw [if_neg c2, if_neg c2]
    · rw [if_neg h, if_neg c1, if_neg h, if_neg c1]
theorem xN_G {S : xs_T} {k : Nat} (h : k ≠ 1) : xN (mkG S) k = xN S k := va_up_ne _ _ h
theorem xN_C {S : xs_T} {k : Nat} (h : k ≠ 2) : xN (mkC S) k = xN S k := va_up_ne _ _ h
theorem xE_mkG {Z : xz_T} {et : Nat → Nat} {S : xs_T} (hb : xN S 1 < 400) (i : Nat) (hi : i ≠ 304 + xN S 1) : xE Z et (mkG S) i = xE Z et S i := by
  have hF : xF (mkG S) i = xF S i := va_up_ne _ _ hi
  by_cases h : i < 64
  · exact xE_fixd h hF rfl rfl rfl
  · rw [xE_pool h, xE_pool h, hF]
    have h1 : xN (mkG S) 1 = xN S 1 + 1 := rfl
    unfold xEp
    rw [xN_G (k := 0) (by decide), xN_G (k := 2) (by decide), xN_G (k := 5) (by decide), h1]
    by_cases c1 : i < 184
    · rw [if_neg h, if_pos c1, if_neg h, if_pos c1]
    · rw [if_neg h, if_neg c1, if_neg h, if_neg c1, xN_G (k := i) (by omega)]
      by_cases c2 : i < 304
      · rw [if_pos c2, if_pos c2]; rfl
      · rw [if_neg c2, if_neg c2]
        by_cases c3 : i < 704
        · rw [if_pos c3, if_pos c3]
          by_cases c4 : i < 304 + xN S 1
          · rw [if_pos c4, if_pos (by omega)]
          · rw [if_neg c4, if_neg (by omega)]
        · rw [if_neg c3, if_neg c3]
theorem xE_mkC {Z : xz_T} {et : Nat → Nat} {S : xs_T} (i : Nat) (hi : i ≠ 704 + xN S 2) : xE Z et (mkC S) i = xE Z et S i := by
  by_cases h : i < 64
  · exact xE_fixd h rfl rfl rfl rfl
  · rw [xE_pool h, xE_pool h]
    have h1 : xN (mkC S) 2 = xN S 2 + 1 := rfl
    unfold xEp
    rw [xN_C (k := 0) (by decide), xN_C (k := 1) (by decide), xN_C (k := 5) (by decide), h1]
    by_cases c1 : i < 184
    · rw [if_neg h, if_pos c1, if_neg h, if_pos c1]; rfl
    · rw [if_neg h, if_neg c1, if_neg h, if_neg c1, xN_C (k := i) (by omega)]
      by_cases c2 : i < 304
      · rw [if_pos c2, if_pos c2]; rfl
      · rw [if_neg c2, if_neg c2]
        by_cases c3 : i < 704
        · rw [if_pos c3, if_pos c3]; rfl
        · rw [if_neg c3, if_neg c3]
          by_cases c4 : i < 704 + xN S 2
          · rw [if_pos c4, if_pos (by omega)]
          · rw [if_neg c4, if_neg (by omega)]
theorem mkG_o {S : xs_T} (hb : xN S 1 < 400) : oG (mkG S) (304 + xN S 1) := ⟨by omega, by omega, by rw [show xN (mkG S) 1 = xN S 1 + 1 from rfl]; omega⟩
theorem mkC_o {S : xs_T} : oC (mkC S) (704 + xN S 2) := ⟨by omega, by rw [show xN (mkC S) 2 = xN S 2 + 1 from rfl]; omega⟩
theorem mkG_g {S : xs_T} (h5 : xN S 5 = 0) : xgr S (mkG S) := ⟨Nat.le_of_eq (xN_G (by decide)).symm, by rw [show xN (mkG S) 1 = xN S 1 + 1 from rfl]; omega, Nat.le_of_eq (xN_G (by decide)).symm, (xN_G (by decide)).trans h5, fun i h1 _ => xN_G (by omega)⟩
theorem mkC_g {S : xs_T} (h5 : xN S 5 = 0) : xgr S (mkC S) := ⟨Nat.le_of_eq (xN_C (by decide)).symm, Nat.le_of_eq (xN_C (by decide)).symm, by rw [show xN (mkC S) 2 = xN S 2 + 1 from rfl]; omega, (xN_C (by decide)).trans h5, fun i h1 _ => xN_C (by omega)⟩
theorem xE_fig0 {Z : xz_T} {et : Nat → Nat} {S : xs_T} {u : Nat} {v : Int32} (h : oG S u) : xE Z et (sF S u 0 v) u = some (.inr (3, [.int v, .int (xF S u 1)])) := by
  rw [xE_fig (S := sF S u 0 v) h]
  simp [xF, sF, va_up]
theorem xE_fig1 {Z : xz_T} {et : Nat → Nat} {S : xs_T} {u : Nat} {v : Int32} (h : oG S u) : xE Z et (sF S u 1 v) u = some (.inr (3, [.int (xF S u 0), .int v])) := by
  rw [xE_fig (S := sF S u 1 v) h]
  simp [xF, sF, va_up]
/-- a world grows by one cell -/
theorem wd.grow {Z : xz_T} {et : Nat → Nat} {S S' : xs_T} {H H1 : Heap} {u : Nat} {e : va_E} (hw : wd Z et S H) (hu : 64 ≤ u) (hq : ∀ i k, xQ S i k ≠ some u) (hr : ∀ i, 64 ≤ i → i < 184 → i < 64 + xN S 0 → i + 120 ≠ u) (hn : xE Z et S u = none) (he : va_at Z.1 vwCl (H.size, e) H1) (z : H1.size = H.size + 1) (oq : ∀ q : Nat, q < H.size → H1[q]? = H[q]?)
    (h1 : ∀ et', xE Z et' S' u = some e ∨ ∀ a, et' = va_up et u a → xE Z et' S' u = some e) (h2 : ∀ et' i, i ≠ u → xE Z et' S' i = xE Z et' S i) : wd Z (va_up et u H.size) S' H1 ∧ xst Z et S (va_up et u H.size) := by
  refine ⟨?_, fun i hi => va_up_ne _ _ (fun q => hi (by rw [q]; exact hn))⟩
  refine (ww.push (i := u) hw hn he z oq).to (fun i e' hi => ?_) (fun _ _ => rfl)
  by_cases h : i = u
  · subst h
    rw [va_up_self]
    rcases h1 (va_up et i H.size) with h | h
    · rw [← h]; exact hi
    · rw [← h H.size rfl]; exact hi
  · rw [va_up_ne _ _ h, ← xE_et (et := et) (a := H.size) hu hq hr i, ← h2 _ i h]
    exact hi
section XN
variable {p : Program} {l : Launch} {e : Env} {R : Room} {s : State} {m : MethodId} {args : Array Value} {below : List Frame} {meth : Method} {c : Code} {H : Heap} {locs : List Loc} {cells slots : Nat} {Q : State → Prop}
variable {cc : ByteArray} {pc nL : Nat} {ls : Array Slot} {rest : List Value} {Z : xz_T} {et : Nat → Nat} {S : xs_T} {c0 : Cond} {own : String}
/-- new, of a class in the world -/
theorem xg_new (X : CallFix p m c cc nL s args (c0 :: TB) own) (hk : xk Z s) {C : String} {T : u_T} {N ci index : Nat} (hin : ∀ w ∈ u_ws C T N, w ∈ TB) (ty : Nat → FieldType) (hty : ∀ k, k < N → parseFieldDescriptor (T k).2.2.1 = some (ty k)) (hcl : Cond.classLink own index C ∈ TB) (hinst : Cond.instantiable C N ∈ TB) (hini : Cond.initialized C ∈ TB) (hc : vwCl[ci]? = some (C, T, N)) {fs : List Value} (hfs : ∀ j, j < N → defaultValue (ty j) = vp_V fs j) (hcells : cells + 1 ≤ R.cells) (hslots : slots + N ≤ R.slots) (hdg : decode cc pc = .ok (.new index, 3))
    (kk : ∀ H1 : Heap, va_at Z.1 vwCl (H.size, .inr (ci, fs)) H1 → H1.size = H.size + 1 → (∀ q : Nat, q < H.size → H1[q]? = H[q]?) → W p l e R s m args below meth c H1 locs (cells + 1) (slots + N) Q (F0 m (pc + 3) ls (.ref H.size :: rest))) : W p l e R s m args below meth c H locs cells slots Q (F0 m pc ls rest) := by
  have hts := X.2.2.2.2
  have ok : ∀ w ∈ TB, w.before args s = true := fun w h => hts w (List.mem_cons_of_mem _ h)
  have hKn := hk.1.1 ci _ hc
  refine W.newcK X.1 X.2.1 X.2.2.2.1 (ok _ hcl) (ok _ hinst) (ok _ hini) rfl hdg hcells hslots hKn.2.1 rfl fun H1 kC hkC e1 z1 o1 => ?_
  exact kk H1 ⟨_, hc, (u_born ty hts (fun w h => List.mem_cons_of_mem _ (hin w h)) hKn hkC e1 hty).to hfs⟩ z1 o1
theorem xw_newG (X : CallFix p m c cc nL s args (c0 :: TB) own) (hk : xk Z s) (hw : wd Z et S H) {index : Nat} (hb : xN S 1 < 400) (hq : ∀ i k, xQ S i k ≠ some (304 + xN S 1)) (hcl : Cond.classLink own index RX3 ∈ TB) (hcells : cells + 1 ≤ R.cells) (hslots : slots + 2 ≤ R.slots) (hdg : decode cc pc = .ok (.new index, 3))
    (kk : ∀ (et1 : Nat → Nat) (H1 : Heap), xst Z et S et1 → wd Z et1 (mkG S) H1 → W p l e R s m args below meth c H1 locs (cells + 1) (slots + 2) Q (F0 m (pc + 3) ls (.ref (et1 (304 + xN S 1)) :: rest))) : W p l e R s m args below meth c H locs cells slots Q (F0 m pc ls rest) := by
  refine xg_new X hk (ci := 3) (fs := [.int 0, .int 0]) tlX3 tyX3 tyX3_ok hcl tw_368 tw_50 rfl (fun j hj => by rcases (show j = 0 ∨ j = 1 by omega) with rfl | rfl <;> rfl) hcells hslots hdg (fun H1 he z oq => ?_)
  have hn : xE Z et S (304 + xN S 1) = none := by
    rw [xE_pool (by omega)]
    unfold xEp
    rw [if_neg (by omega), if_neg (by omega), if_neg (by omega), if_pos (by omega), if_neg (by omega)]
  obtain ⟨h1, h2⟩ := wd.grow (S' := mkG S) hw (by omega) hq (fun i a1 a2 a3 => by omega) hn he z oq (fun et' => Or.inl (by
    rw [xE_fig (mkG_o hb)]
    simp [xF, mkG, va_up])) (fun et' i hi => xE_mkG hb i hi)
  have := kk _ H1 h2 h1
  rw [va_up_self] at this
  exact this
theorem xw_newC (X : CallFix p m c cc nL s args (c0 :: TB) own) (hk : xk Z s) (hw : wd Z et S H) {index : Nat} (hq : ∀ i k, xQ S i k ≠ some (704 + xN S 2)) (hcl : Cond.classLink own index RX2 ∈ TB) (hcells : cells + 1 ≤ R.cells) (hslots : slots + 0 ≤ R.slots) (hdg : decode cc pc = .ok (.new index, 3))
    (kk : ∀ (et1 : Nat → Nat) (H1 : Heap), xst Z et S et1 → wd Z et1 (mkC S) H1 → W p l e R s m args below meth c H1 locs (cells + 1) (slots + 0) Q (F0 m (pc + 3) ls (.ref (et1 (704 + xN S 2)) :: rest))) : W p l e R s m args below meth c H locs cells slots Q (F0 m pc ls rest) := by
  refine xg_new X hk (ci := 2) (fs := []) tlX2 tyX2 tyX2_ok hcl tw_354 tw_49 rfl (fun j hj => absurd hj (Nat.not_lt_zero j)) hcells hslots hdg (fun H1 he z oq => ?_)
  have hn : xE Z et S (704 + xN S 2) = none := by
    rw [xE_pool (by omega)]
    unfold xEp
    rw [if_neg (by omega), if_neg (by omega), if_neg (by omega), if_neg (by omega), if_neg (by omega)]
  obtain ⟨h1, h2⟩ := wd.grow (S' := mkC S) hw (by omega) hq (fun i a1 a2 a3 => by omega) hn he z oq (fun et' => Or.inl (xE_crk mkC_o)) (fun et' i hi => xE_mkC i hi)
  have := kk _ H1 h2 h1
  rw [va_up_self] at this
  exact this
end XN
