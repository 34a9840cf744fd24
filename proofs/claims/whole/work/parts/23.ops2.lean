/-! what follows an operation: answer and state -/
abbrev CK (nx : Nat) (S : xs_T) (K : Int32 → xs_T → Prop) (x : Int32 × xs_T) : Prop := ∀ S', CA nx x.2 S' → mfr S S' → K x.1 S'
abbrev MK (S : xs_T) (K : Int32 → xs_T → Prop) (x : Int32 × xs_T) : Prop := ∀ fr' S', MA fr' x.2 S' → cfr S S' → K x.1 S'
/-- an order on the row of a spindle -/
def onRow (A : xs_T) (a : Nat) (f : Nat → Int32 × xs_T) : Int32 × xs_T := if xQ A 37 a = none then (1, A) else match fRow A a with
  | none => (2, A)
  | some u => f u
theorem onRow_n {A : xs_T} {a : Nat} {f : Nat → Int32 × xs_T} (h : xQ A 37 a = none) : onRow A a f = (1, A) := by
  unfold onRow; rw [if_pos h]
theorem onRow_o {A : xs_T} {a : Nat} {f : Nat → Int32 × xs_T} (h : ¬ xQ A 37 a = none) (h2 : fRow A a = none) : onRow A a f = (2, A) := by
  unfold onRow; rw [if_neg h, h2]
theorem onRow_s {A : xs_T} {a u : Nat} {f : Nat → Int32 × xs_T} (h : ¬ xQ A 37 a = none) (h2 : fRow A a = some u) : onRow A a f = f u := by
  unfold onRow; rw [if_neg h, h2]
theorem c_onRow {nx : Nat} {A S : xs_T} {a : Nat} {K : Int32 → xs_T → Prop} {f : Nat → Int32 × xs_T} {P : Nat → Prop} (h : CA nx A S) (hw : WF A) (ha : a < 10) (hK : CK nx S K (onRow A a f)) (hP : ∀ u, oW A u → fRow A a = some u → CK nx S K (f u) → P u) :
    (xQ S 37 a = none → K 1 S) ∧ (∀ u5 : Nat, xQ S 37 a = some u5 → ∃ j6 : Nat, nI a = nI j6 ∧ j6 < 10 ∧ oT S (xQ S 37 j6) ∧ ((∀ u : Nat, xQ S 37 j6 = some u → oR S u → P u) ∧ (¬ iR S (xQ S 37 j6) → K 2 S))) := by
  refine ⟨fun q => ?_, fun u5 q => ⟨a, rfl, ha, c_isRow h hw ha (fun u hr ho => hP u ho hr ?_) (fun hr => ?_)⟩⟩
  · rw [h.held ha] at q
    rw [onRow_n q] at hK
    exact hK S h mfr.refl
  · rw [h.held ha] at q
    rw [onRow_s (by rw [q]; exact fun z => nomatch z) hr] at hK
    exact hK
  · rw [h.held ha] at q
    rw [onRow_o (by rw [q]; exact fun z => nomatch z) hr] at hK
    exact hK S h mfr.refl
theorem m_onRow {fr : Nat → Nat} {A S : xs_T} {a : Nat} {K R : Int32 → xs_T → Prop} {f : Nat → Int32 × xs_T} (h : MA fr A S) (hw : WF A) (ha : a < 10) (hK : MK S K (onRow A a f)) (hN : K 2 S → R (-1) S) (hP : ∀ u, oW A u → u < 184 → fRow A a = some u → MK S K (f u) → R (nI (u - 64)) S) :
    (¬ xI S 9 a = 0 → v_X10_rowOn (nI a) S R) ∧ (xI S 9 a = 0 → K 1 S) := by
  have g := m_held h ha
  refine ⟨fun q => ?_, fun q => ?_⟩
  · have q2 : ¬ xQ A 37 a = none := fun z => q ((hM_none g).mpr z)
    refine m_rowOn h hw ha (fun u hr ho => hP u ho ?_ hr ?_) (fun hr => hN ?_)
    · have := ho.2; have := hw.1.1; omega
    · rw [onRow_s q2 hr] at hK; exact hK
    · rw [onRow_o q2 hr] at hK; exact hK fr S h cfr.refl
  · rw [onRow_n ((hM_none g).mp q)] at hK
    exact hK fr S h cfr.refl
/-! writes into a row -/
def fW (A : xs_T) (u b k : Nat) (g : Nat → Int64) : xs_T := tL A (u + 120) (fun i => if b ≤ i ∧ i < b + k then g (i - b) else xL A (u + 120) i)
theorem WF.fW {A : xs_T} {u b k : Nat} {g : Nat → Int64} (h : WF A) (hu : oW A u) (hg : 8 ≤ xN A u → ∀ i, i < k → b + i < xN A (u + 120) → figC A (g i)) : WF (fW A u b k g) := by
  refine h.row hu (fun hk i hi => ?_)
  show figC A (if b ≤ i ∧ i < b + k then g (i - b) else xL A (u + 120) i)
  by_cases e : b ≤ i ∧ i < b + k
  · rw [if_pos e]
    exact hg hk (i - b) (by omega) (by omega)
  · rw [if_neg e]
    exact h.2.2.2.2.1 u hu hk i hi
def pw (v : Nat → Int64) (b k : Nat) (g : Nat → Int64) (p : Nat) : Int64 := if b ≤ p ∧ p < b + k then g (p - b) else v p
theorem pw_0 (v : Nat → Int64) (b : Nat) (g : Nat → Int64) (p : Nat) : pw v b 0 g p = v p := by
  unfold pw
  rw [if_neg (by omega)]
theorem pw_1 {v : Nat → Int64} {b k : Nat} {g : Nat → Int64} {S : xs_T} {i j : Nat} {x : Int64} (h : ∀ p, xL S i p = pw v b k g p) (hj : j = b + k) (hx : x = g k) : ∀ p, xL (sL S i j x) i p = pw v b (k + 1) g p := fun p => by
  subst hj hx
  rw [gLL]
  unfold pw at *
  by_cases e : p = b + k
  · subst e
    rw [if_pos ⟨rfl, rfl⟩, if_pos (by omega), show b + k - b = k by omega]
  · rw [if_neg (fun z => e z.2), h p]
    by_cases e2 : b ≤ p ∧ p < b + k
    · rw [if_pos e2, if_pos (by omega)]
    · rw [if_neg e2, if_neg (by omega)]
/-- only rows of longs of the reference were written -/
def mw (S S' : xs_T) : Prop := cfr S S' ∧ xF S' = xF S ∧ xI S' = xI S ∧ xL S' 20 = xL S 20
theorem mw.refl {S : xs_T} : mw S S := ⟨cfr.refl, rfl, rfl, rfl⟩
theorem mw.L5 {S S' : xs_T} {j : Nat} {x : Int64} (h : mw S S') : mw S (sL S' 5 j x) := ⟨h.1.trans (cfr.L (by decide)), h.2.1, h.2.2.1, h.2.2.2⟩
theorem mw.L22 {S S' : xs_T} {j : Nat} {x : Int64} (h : mw S S') : mw S (sL S' 22 j x) := ⟨h.1.trans (cfr.L (by decide)), h.2.1, h.2.2.1, h.2.2.2⟩
theorem MA.pool {fr : Nat → Nat} {A S S' : xs_T} {u b k : Nat} {g : Nat → Int64} (h : MA fr A S) (hw : WF A) (hu : oW A u) (hm : mw S S') (hb : b + k ≤ xN A (u + 120)) (hp : ∀ p, xL S' 5 p = pw (xL S 5) (fr u + b) k g p) : MA fr (fW A u b k g) S' := by
  refine h.row hw hu hm.2 (fun i hi => ?_) (fun p hq => ?_)
  · show _ = if b ≤ i ∧ i < b + k then g (i - b) else xL A (u + 120) i
    rw [hp]
    unfold pw
    by_cases e : b ≤ i ∧ i < b + k
    · rw [if_pos e, if_pos (by omega), show fr u + i - (fr u + b) = i - b by omega]
    · rw [if_neg e, if_neg (by omega)]
      exact (m_row h hu).2.2.2.2 i hi
  · rw [hp]
    unfold pw
    rw [if_neg (by omega)]
/-- what the reference reads of a row -/
theorem mw.row {fr : Nat → Nat} {A S S' : xs_T} {u : Nat} (h : MA fr A S) (hm : mw S S') (hu : oW A u) : xI S' 1 (u - 64) = nI (xN A u) ∧ xI S' 2 (u - 64) = nI (xN A (u + 120)) ∧ xI S' 3 (u - 64) = nI (fr u) := by
  rw [hm.2.2.1]
  exact ⟨(m_row h hu).1, (m_row h hu).2.1, (m_row h hu).2.2.1⟩
/-- splice -/
def fSplice (A : xs_T) (a b : Nat) (c : Int32) : Int32 × xs_T := if xQ A 37 a = none ∨ xQ A 37 b = none then (1, A) else match fRow A a with
  | none => (2, A)
  | some u => match fRow A b with
    | none => (2, A)
    | some v => if alike A u v then (if plc (xI A 38 a) c (xN A (u + 120)) ∧ plc (xI A 38 b) c (xN A (v + 120)) then
        (if fFit A u v (xI A 38 a).toInt.toNat c.toInt.toNat = c.toInt.toNat then 0 else 2, fW A v (xI A 38 b).toInt.toNat (fFit A u v (xI A 38 a).toInt.toNat c.toInt.toNat) (fun i => xL A (u + 120) ((xI A 38 a).toInt.toNat + i))) else (3, A)) else (2, A)
theorem WF.splice {A : xs_T} {a b : Nat} {c : Int32} (h : WF A) (ha : a < 10) (hb : b < 10) : WF (fSplice A a b c).2 := by
  unfold fSplice
  by_cases h0 : xQ A 37 a = none ∨ xQ A 37 b = none
  · rw [if_pos h0]; exact h
  rw [if_neg h0]
  cases hu : fRow A a with
  | none => exact h
  | some u =>
    cases hv : fRow A b with
    | none => exact h
    | some v =>
      show WF (if alike A u v then _ else _ : Int32 × xs_T).2
      by_cases e : alike A u v
      · rw [if_pos e]
        by_cases e2 : plc (xI A 38 a) c (xN A (u + 120)) ∧ plc (xI A 38 b) c (xN A (v + 120))
        · rw [if_pos e2]
          have ou := (fRow_s h ha hu).2
          have ov := (fRow_s h hb hv).2
          obtain ⟨p, n, e3, e4, e5⟩ := plc_nat e2.1 (h.2.1 u ou).2
          have hb1 := (h.2.1 u ou).2
          refine WF.fW h ov (fun hk i hi hi2 => ?_)
          rw [e3, e4, nI_toInt (by omega), nI_toInt (by omega), Int.toNat_natCast, Int.toNat_natCast] at hi
          rw [e3, nI_toInt (by omega), Int.toNat_natCast]
          have := fFit_le A u v p n
          exact h.2.2.2.2.1 u ou (by rcases e with z | z <;> omega) _ (by omega)
        · rw [if_neg e2]; exact h
      · rw [if_neg e]; exact h
theorem c_splice {nx : Nat} {A S : xs_T} {a b : Nat} {c : Int32} {K : Int32 → xs_T → Prop} (h : CA nx A S) (hw : WF A) (ha : a < 10) (hb : b < 10) (hK : CK nx S K (fSplice A a b c)) : v_X0_splice (nI a) (nI b) c S K := by
  unfold v_X0_splice
  unfold fSplice at hK
  refine ⟨a, rfl, ha, fun q => ?_, fun u5 q => ⟨b, rfl, hb, fun q2 => ?_, fun u10 q2 => ⟨a, rfl, ha, c_isRow h hw ha (fun u hr ou => ⟨b, rfl, hb, c_isRow h hw hb (fun v hr2 ov => ?_) (fun hr2 => ?_)⟩) (fun hr => ?_)⟩⟩⟩
  · rw [h.held ha] at q
    rw [if_pos (Or.inl q)] at hK
    exact hK S h mfr.refl
  · rw [h.held hb] at q2
    rw [if_pos (Or.inr q2)] at hK
    exact hK S h mfr.refl
  all_goals rw [h.held ha] at q
  all_goals rw [h.held hb] at q2
  all_goals rw [if_neg (by rw [q, q2]; rintro (z | z) <;> exact nomatch z), hr] at hK
  · rw [hr2] at hK
    replace hK : CK nx S K (if alike A u v then _ else _) := hK
    refine c_alike h hw ou ov (fun e => ?_) (fun e => by rw [if_neg e] at hK; exact hK S h mfr.refl)
    rw [if_pos e] at hK
    rw [← h.mark ha, ← h.mark hb] at hK
    refine ⟨a, rfl, ha, c_hasPlaces h hw ou (fun p1 => ⟨fun z => absurd z (by decide), fun _ => ⟨b, rfl, hb, c_hasPlaces h hw ov (fun p2 => ⟨fun _ => ?_, fun z => absurd z (by decide)⟩) (fun p2 => ⟨fun z => absurd rfl z, fun _ => ?_⟩)⟩⟩) (fun p1 => ⟨fun _ => ?_, fun z => absurd rfl z⟩)⟩
    · rw [if_pos ⟨p1, p2⟩] at hK
      obtain ⟨p, n, e3, rfl, e5⟩ := plc_nat p1 (hw.2.1 u ou).2
      obtain ⟨p', n', e3', e4', e5'⟩ := plc_nat p2 (hw.2.1 v ov).2
      have hb1 := (hw.2.1 u ou).2
      have hb2 := (hw.2.1 v ov).2
      have hnn : n' = n := nI_inj (by omega) (by omega) e4'.symm
      subst hnn
      rw [e3, e3', nI_toInt (by omega), nI_toInt (by omega), nI_toInt (by omega), Int.toNat_natCast, Int.toNat_natCast, Int.toNat_natCast] at hK
      have hf := fFit_le A u v p n'
      refine ⟨a, rfl, ha, ?_⟩
      rw [e3]
      refine c_howMany h hw ou ov e e5 ⟨a, rfl, ha, b, rfl, hb, p, p', fFit A u v p n', e3, e3', rfl, by rw [c_len h ou]; omega, by rw [c_len h ov]; omega, ?_⟩
      rintro _ rfl
      have hS := h.row hw ov (g := fun i => if p' ≤ i ∧ i < p' + fFit A u v p n' then xL A (u + 120) (p + (i - p')) else xL A (v + 120) i) (g' := va_cpy (xL S (u + 120)) (xL S (v + 120)) p p' (fFit A u v p n')) (fun i hi => by
        by_cases z : p' ≤ i ∧ i < p' + fFit A u v p n'
        · rw [if_pos z, pk_cpy_in z.1 z.2]
          exact (h.2.2.2.2.1 u ou).2.2 _ (by omega)
        · rw [if_neg z, pk_cpy_out (by omega)]
          exact (h.2.2.2.2.1 v ov).2.2 _ hi)
      have hm : mfr S (tL S (v + 120) (va_cpy (xL S (u + 120)) (xL S (v + 120)) p p' (fFit A u v p n'))) := mfr.T (by omega)
      have hQ := hK _ hS hm
      have hi : nI (fFit A u v p n') = nI n' ↔ fFit A u v p n' = n' := nI_eq (by omega) (by omega)
      refine ⟨fun z => ?_, fun z => ?_⟩
      · have hQ : K (if fFit A u v p n' = n' then 0 else 2) _ := hQ
        rw [if_neg (fun y => z (hi.mpr y))] at hQ
        exact hQ
      · have hQ : K (if fFit A u v p n' = n' then 0 else 2) _ := hQ
        rw [if_pos (hi.mp z)] at hQ
        exact hQ
    · rw [if_neg (fun z => p2 z.2)] at hK
      exact hK S h mfr.refl
    · rw [if_neg (fun z => p1 z.1)] at hK
      exact hK S h mfr.refl
  · rw [hr2] at hK
    exact hK S h mfr.refl
  · exact hK S h mfr.refl
