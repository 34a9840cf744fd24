/-! THE WORLD BY NUMBERS: every cell of both systems has a number (id); et : id → address; G : id → what the cell holds -/
abbrev xz_T : Type := va_G × (Nat → ClassId) × Nat × Heap
def ww (Z : xz_T) (et : Nat → Nat) (G : Nat → Option va_E) (H : Heap) : Prop :=
  (∀ (i : Nat) (e : va_E), G i = some e → Z.2.2.1 ≤ et i ∧ va_at Z.1 vwCl (et i, e) H) ∧ (∀ i j : Nat, G i ≠ none → G j ≠ none → et i = et j → i = j) ∧ Z.2.2.1 ≤ H.size ∧ ∀ q : Nat, q < Z.2.2.1 → H[q]? = Z.2.2.2[q]?
def xl (Z : xz_T) (locs : List Loc) : Prop := ∀ q ∈ locs, Z.2.2.1 ≤ q.base
theorem sn_ne {α : Type} {o : Option α} {a : α} (h : o = some a) : o ≠ none := fun q => by rw [q] at h; cases h
theorem ww.set {Z : xz_T} {et : Nat → Nat} {G : Nat → Option va_E} {H H1 : Heap} {i : Nat} {e0 e : va_E} (h : ww Z et G H) (hi : G i = some e0) (he : va_at Z.1 vwCl (et i, e) H1) (z : H1.size = H.size) (oq : ∀ q : Nat, q ≠ et i → H1[q]? = H[q]?) : ww Z et (va_up G i (some e)) H1 := by
  have dom : ∀ j, va_up G i (some e) j ≠ none → G j ≠ none := by
    intro j hj
    by_cases hji : j = i
    · subst hji; exact sn_ne hi
    · rw [va_up_ne _ _ hji] at hj; exact hj
  refine ⟨fun j e' hj => ?_, fun a b ha hb => h.2.1 a b (dom a ha) (dom b hb), by rw [z]; exact h.2.2.1, fun q hq => ?_⟩
  · by_cases hji : j = i
    · subst hji
      rw [va_up_self] at hj
      cases hj
      exact ⟨(h.1 j e0 hi).1, he⟩
    · rw [va_up_ne _ _ hji] at hj
      obtain ⟨h1, h2⟩ := h.1 j e' hj
      exact ⟨h1, h2.kept (oq _ fun hh => hji (h.2.1 j i (sn_ne hj) (sn_ne hi) hh))⟩
  · have h1 := (h.1 i e0 hi).1
    rw [oq q (by omega)]
    exact h.2.2.2 q hq
theorem ww.push {Z : xz_T} {et : Nat → Nat} {G : Nat → Option va_E} {H H1 : Heap} {i : Nat} {e : va_E} (h : ww Z et G H) (hi : G i = none) (he : va_at Z.1 vwCl (H.size, e) H1) (z : H1.size = H.size + 1) (oq : ∀ q : Nat, q < H.size → H1[q]? = H[q]?) : ww Z (va_up et i H.size) (va_up G i (some e)) H1 := by
  have key : ∀ j, va_up G i (some e) j ≠ none → (j = i ∧ va_up et i H.size j = H.size) ∨ (j ≠ i ∧ G j ≠ none ∧ va_up et i H.size j = et j ∧ et j < H.size) := by
    intro j hj
    by_cases hji : j = i
    · subst hji
      exact Or.inl ⟨rfl, va_up_self _ _ _⟩
    · rw [va_up_ne _ _ hji] at hj
      refine Or.inr ⟨hji, hj, va_up_ne _ _ hji, ?_⟩
      cases hg : G j with
      | none => exact absurd hg hj
      | some e' => exact (h.1 j e' hg).2.lt
  refine ⟨fun j e' hj => ?_, fun a b ha hb hab => ?_, by have := h.2.2.1; omega, fun q hq => ?_⟩
  · rcases key j (sn_ne hj) with ⟨h1, h2⟩ | ⟨h1, h2, h3, h4⟩
    · subst h1
      rw [va_up_self] at hj
      cases hj
      rw [h2]
      exact ⟨h.2.2.1, he⟩
    · rw [va_up_ne _ _ h1] at hj
      rw [h3]
      exact ⟨(h.1 j e' hj).1, (h.1 j e' hj).2.kept (oq _ h4)⟩
  · rcases key a ha with ⟨h1, h2⟩ | ⟨h1, h2, h3, h4⟩ <;> rcases key b hb with ⟨g1, g2⟩ | ⟨g1, g2, g3, g4⟩
    · rw [h1, g1]
    · rw [h2, g3] at hab; omega
    · rw [h3, g2] at hab; omega
    · rw [h3, g3] at hab; exact h.2.1 a b h2 g2 hab
  · have := h.2.2.1
    rw [oq q (by omega)]
    exact h.2.2.2 q hq
theorem ww.to {Z : xz_T} {et et' : Nat → Nat} {G G' : Nat → Option va_E} {H : Heap} (h : ww Z et G H) (hg : ∀ i e, G' i = some e → G i = some e) (he : ∀ i, G' i ≠ none → et' i = et i) : ww Z et' G' H := by
  have nn : ∀ i, G' i ≠ none → G i ≠ none := fun i hi => by
    cases hq : G' i with
    | none => exact absurd hq hi
    | some e => exact sn_ne (hg i e hq)
  refine ⟨fun i e hi => ?_, fun a b ha hb hab => ?_, h.2.2⟩
  · rw [he i (sn_ne hi)]
    exact h.1 i e (hg i e hi)
  · rw [he a ha, he b hb] at hab
    exact h.2.1 a b (nn a ha) (nn b hb) hab
theorem ww.P1 {Z : xz_T} {et : Nat → Nat} {G : Nat → Option va_E} {H : Heap} (h : ww Z et G H) {i : Nat} {e : va_E} (hi : G i = some e) : va_P Z.1 vwCl [(et i, e)] H := fun k q hk => by
  have hz : k < 1 := (List.getElem?_eq_some_iff.mp hk).1
  have h0 : k = 0 := by omega
  subst h0
  cases hk
  exact (h.1 i e hi).2
/-- what the tables say, kept from method to method -/
def xk (Z : xz_T) (U : State) : Prop := va_K Z.1 vwCl [(Z.2.1 0, .int), (Z.2.1 1, .long), (Z.2.1 2, .object RX7), (Z.2.1 3, .object RX3), (Z.2.1 4, .object RX5)] U ∧ (∀ w ∈ xk_ng, va_Nw w U) ∧ (va_AO RX7 U ∧ va_AO RX3 U ∧ va_AO RX5 U) ∧ va_Nc RX2 RX5 U ∧ va_Nc RX3 RX5 U ∧ va_Nc RX5 RX3 U ∧ va_Nc RX2 RX3 U
theorem xk.warm {Z : xz_T} {s U : State} (hW : s.WarmedH U.vm) (h : xk Z s) : xk Z U := ⟨va_K.moved hW.alike h.1, xk_ng_warm hW h.2.1, ⟨h.2.2.1.1.moved hW.alike, h.2.2.1.2.1.moved hW.alike, h.2.2.1.2.2.moved hW.alike⟩, h.2.2.2.1.moved hW.alike, h.2.2.2.2.1.moved hW.alike, h.2.2.2.2.2.1.moved hW.alike, h.2.2.2.2.2.2.moved hW.alike⟩
theorem xk.same {Z : xz_T} {s U : State} (hW : s.vm = U.vm) (h : xk Z s) : xk Z U := by
  have ha : s.vm.Alike U.vm := by rw [hW]; exact Vm.Alike.refl U.vm
  refine ⟨va_K.moved ha h.1, fun w hw => ?_, ⟨h.2.2.1.1.moved ha, h.2.2.1.2.1.moved ha, h.2.2.1.2.2.moved ha⟩, h.2.2.2.1.moved ha, h.2.2.2.2.1.moved ha, h.2.2.2.2.2.1.moved ha, h.2.2.2.2.2.2.moved ha⟩
  have h0 := h.2.1 w hw
  have ht : w.onTables = true := by
    simp only [xk_ng, List.mem_cons, List.not_mem_nil, or_false] at hw
    rcases hw with e | e | e | e | e | e | e | e | e | e | e | e | e | e | e | e | e | e | e | e | e | e | e | e | e | e | e | e | e | e | e | e | e | e <;> subst e <;> rfl
  exact va_Nw.same ht hW h0
/-! THE STORE: ints of objects, int rows, long rows, rows of references (by number), numbers (how many, how long) -/
abbrev xs_T : Type := (Nat → Nat → Int32) × (Nat → Nat → Int32) × (Nat → Nat → Int64) × (Nat → Nat → Option Nat) × (Nat → Nat)
def xF (S : xs_T) (i k : Nat) : Int32 := S.1 i k
def xI (S : xs_T) (i k : Nat) : Int32 := S.2.1 i k
def xL (S : xs_T) (i k : Nat) : Int64 := S.2.2.1 i k
def xQ (S : xs_T) (i k : Nat) : Option Nat := S.2.2.2.1 i k
def xN (S : xs_T) (i : Nat) : Nat := S.2.2.2.2 i
def sF (S : xs_T) (i k : Nat) (v : Int32) : xs_T := (va_up S.1 i (va_up (S.1 i) k v), S.2)
def sI (S : xs_T) (i k : Nat) (v : Int32) : xs_T := (S.1, va_up S.2.1 i (va_up (S.2.1 i) k v), S.2.2)
def sL (S : xs_T) (i k : Nat) (v : Int64) : xs_T := (S.1, S.2.1, va_up S.2.2.1 i (va_up (S.2.2.1 i) k v), S.2.2.2)
def tL (S : xs_T) (i : Nat) (f : Nat → Int64) : xs_T := (S.1, S.2.1, va_up S.2.2.1 i f, S.2.2.2)
def sQ (S : xs_T) (i k : Nat) (v : Option Nat) : xs_T := (S.1, S.2.1, S.2.2.1, va_up S.2.2.2.1 i (va_up (S.2.2.2.1 i) k v), S.2.2.2.2)
def sN (S : xs_T) (i v : Nat) : xs_T := (S.1, S.2.1, S.2.2.1, S.2.2.2.1, va_up S.2.2.2.2 i v)
abbrev ai (Z : xz_T) (n : Nat) (f : Nat → Int32) : Option va_E := some (.inl (Z.2.1 0, n, .inl f))
abbrev al (Z : xz_T) (n : Nat) (f : Nat → Int64) : Option va_E := some (.inl (Z.2.1 1, n, .inr (.inl f)))
abbrev aq (Z : xz_T) (c n : Nat) (f : Nat → Option Nat) : Option va_E := some (.inl (Z.2.1 c, n, .inr (.inr (.inr (.inr f)))))
def xEm (Z : xz_T) (et : Nat → Nat) (f ia : Nat → Int32) (la : Nat → Int64) (j : Nat) : Option va_E :=
  if j = 0 then some (.inr (8, [.int (f 0), .ref (et 1), .ref (et 2), .ref (et 3), .int (f 4), .ref (et 5), .int (f 6), .ref (et 7), .int (f 8), .ref (et 9), .ref (et 10), .ref (et 11), .int (f 12), .ref (et 13), .ref (et 14), .ref (et 15), .ref (et 16), .ref (et 17), .int (f 18), .ref (et 19), .ref (et 20), .ref (et 21), .ref (et 22), .int (f 23), .int (f 24), .int (f 25), .int (f 26), .int (f 27)]))
  else if j = 1 ∨ j = 2 ∨ j = 3 then ai Z 120 ia
  else if j = 5 then al Z 3000 la
  else if j = 7 then ai Z 401 ia
  else if j = 9 ∨ j = 10 ∨ j = 11 then ai Z 10 ia
  else if j = 13 ∨ j = 14 ∨ j = 15 ∨ j = 16 ∨ j = 17 then ai Z 60 ia
  else if j = 19 then ai Z 20 ia
  else if j = 20 then al Z 1280 la
  else if j = 21 ∨ j = 22 then al Z 64 la
  else none
def xEc (Z : xz_T) (et : Nat → Nat) (f ia : Nat → Int32) (la : Nat → Int64) (qa : Nat → Option Nat) (j : Nat) : Option va_E :=
  if j = 32 then some (.inr (7, [.ref (et 33), .ref (et 34), .ref (et 35), .ref (et 36), .int (f 4), .int (f 5), .int (f 6), .int (f 7), .int (f 8)]))
  else if j = 33 then some (.inr (0, [.ref (et 37), .ref (et 38), .ref (et 39), .ref (et 40)]))
  else if j = 34 then some (.inr (6, [.ref (et 42), .ref (et 43), .ref (et 44), .ref (et 45), .ref (et 46), .int (f 5)]))
  else if j = 35 then some (.inr (1, [.ref (et 47), .ref (et 48), .int (f 2), .int (f 3)]))
  else if j = 36 ∨ j = 39 then al Z 64 la
  else if j = 37 then aq Z 2 10 (fun k => (qa k).map et)
  else if j = 38 then ai Z 10 ia
  else if j = 40 then some (.inr (5, [.ref (et 41), .int (f 1), .int (f 2), .int (f 3)]))
  else if j = 41 then aq Z 3 400 (fun k => (qa k).map et)
  else if j = 42 ∨ j = 43 ∨ j = 44 ∨ j = 45 ∨ j = 46 then ai Z 60 ia
  else if j = 47 then aq Z 4 20 (fun k => (qa k).map et)
  else if j = 48 then al Z 1280 la
  else none
def xEp (Z : xz_T) (et : Nat → Nat) (f : Nat → Int32) (la : Nat → Int64) (n : Nat → Nat) (j : Nat) : Option va_E :=
  if j < 64 then none
  else if j < 184 then (if j < 64 + n 0 then some (.inr (4, [.int (f 0), .ref (et (j + 120))])) else if j = 64 + n 0 ∧ 1 ≤ n 5 then some (.inr (4, [.int (f 0), .null])) else none)
  else if j < 304 then (if j < 184 + n 0 ∨ (j = 184 + n 0 ∧ n 5 = 2) then al Z (n j) la else none)
  else if j < 704 then (if j < 304 + n 1 then some (.inr (3, [.int (f 0), .int (f 1)])) else none)
  else if j < 704 + n 2 then some (.inr (2, [])) else none
def xE (Z : xz_T) (et : Nat → Nat) (S : xs_T) (j : Nat) : Option va_E :=
  if j < 32 then xEm Z et (xF S j) (xI S j) (xL S j) j else if j < 64 then xEc Z et (xF S j) (xI S j) (xL S j) (xQ S j) j else xEp Z et (xF S j) (xL S j) (xN S) j
/-- the world of a store -/
def wd (Z : xz_T) (et : Nat → Nat) (S : xs_T) (H : Heap) : Prop := ww Z et (xE Z et S) H
/-- a row, a figure -/
def oR (S : xs_T) (u : Nat) : Prop := 64 ≤ u ∧ u < 184 ∧ u < 64 + xN S 0 ∧ xN S (u + 120) ≤ 64
def oG (S : xs_T) (u : Nat) : Prop := 304 ≤ u ∧ u < 704 ∧ u < 304 + xN S 1
def oC (S : xs_T) (u : Nat) : Prop := 704 ≤ u ∧ u < 704 + xN S 2
theorem xE_row {Z : xz_T} {et : Nat → Nat} {S : xs_T} {u : Nat} (h : oR S u) : xE Z et S u = some (.inr (4, [.int (xF S u 0), .ref (et (u + 120))])) := by
  obtain ⟨h1, h2, h3, h4⟩ := h
  simp only [xE, xEp]
  rw [if_neg (by omega), if_neg (by omega), if_neg (by omega), if_pos h2, if_pos h3]
theorem xE_arr {Z : xz_T} {et : Nat → Nat} {S : xs_T} {u : Nat} (h : oR S u) : xE Z et S (u + 120) = al Z (xN S (u + 120)) (xL S (u + 120)) := by
  obtain ⟨h1, h2, h3, h4⟩ := h
  simp only [xE, xEp]
  rw [if_neg (by omega), if_neg (by omega), if_neg (by omega), if_neg (by omega), if_pos (by omega), if_pos (Or.inl (by omega))]
theorem xE_fig {Z : xz_T} {et : Nat → Nat} {S : xs_T} {u : Nat} (h : oG S u) : xE Z et S u = some (.inr (3, [.int (xF S u 0), .int (xF S u 1)])) := by
  obtain ⟨h1, h2, h3⟩ := h
  simp only [xE, xEp]
  rw [if_neg (by omega), if_neg (by omega), if_neg (by omega), if_neg (by omega), if_neg (by omega), if_pos h2, if_pos h3]
theorem xE_crk {Z : xz_T} {et : Nat → Nat} {S : xs_T} {u : Nat} (h : oC S u) : xE Z et S u = some (.inr (2, [])) := by
  obtain ⟨h1, h2⟩ := h
  simp only [xE, xEp]
  rw [if_neg (by omega), if_neg (by omega), if_neg (by omega), if_neg (by omega), if_neg (by omega), if_neg (by omega), if_pos h2]
theorem xE_F {Z : xz_T} {et : Nat → Nat} {S : xs_T} {i k j : Nat} {v : Int32} (h : j ≠ i) : xE Z et (sF S i k v) j = xE Z et S j := by
  have e : xF (sF S i k v) j = xF S j := va_up_ne _ _ h
  show (if j < 32 then xEm Z et (xF (sF S i k v) j) (xI S j) (xL S j) j else if j < 64 then xEc Z et (xF (sF S i k v) j) (xI S j) (xL S j) (xQ S j) j else xEp Z et (xF (sF S i k v) j) (xL S j) (xN S) j) = _
  rw [e]; rfl
theorem xE_I {Z : xz_T} {et : Nat → Nat} {S : xs_T} {i k j : Nat} {v : Int32} (h : j ≠ i) : xE Z et (sI S i k v) j = xE Z et S j := by
  have e : xI (sI S i k v) j = xI S j := va_up_ne _ _ h
  show (if j < 32 then xEm Z et (xF S j) (xI (sI S i k v) j) (xL S j) j else if j < 64 then xEc Z et (xF S j) (xI (sI S i k v) j) (xL S j) (xQ S j) j else xEp Z et (xF S j) (xL S j) (xN S) j) = _
  rw [e]; rfl
theorem xE_tL {Z : xz_T} {et : Nat → Nat} {S : xs_T} {i j : Nat} {f : Nat → Int64} (h : j ≠ i) : xE Z et (tL S i f) j = xE Z et S j := by
  have e : xL (tL S i f) j = xL S j := va_up_ne _ _ h
  show (if j < 32 then xEm Z et (xF S j) (xI S j) (xL (tL S i f) j) j else if j < 64 then xEc Z et (xF S j) (xI S j) (xL (tL S i f) j) (xQ S j) j else xEp Z et (xF S j) (xL (tL S i f) j) (xN S) j) = _
  rw [e]; rfl
theorem xE_L {Z : xz_T} {et : Nat → Nat} {S : xs_T} {i k j : Nat} {v : Int64} (h : j ≠ i) : xE Z et (sL S i k v) j = xE Z et S j := xE_tL h
theorem xE_Q {Z : xz_T} {et : Nat → Nat} {S : xs_T} {i k j : Nat} {v : Option Nat} (h : j ≠ i) : xE Z et (sQ S i k v) j = xE Z et S j := by
  have e : xQ (sQ S i k v) j = xQ S j := va_up_ne _ _ h
  show (if j < 32 then xEm Z et (xF S j) (xI S j) (xL S j) j else if j < 64 then xEc Z et (xF S j) (xI S j) (xL S j) (xQ (sQ S i k v) j) j else xEp Z et (xF S j) (xL S j) (xN S) j) = _
  rw [e]; rfl
theorem ww.at {Z : xz_T} {et : Nat → Nat} {S S' : xs_T} {i : Nat} {e : va_E} {H : Heap} (h : ww Z et (va_up (xE Z et S) i (some e)) H) (he : xE Z et S' i = some e) (hne : ∀ j, j ≠ i → xE Z et S' j = xE Z et S j) : wd Z et S' H := by
  refine h.to (fun j e' hj => ?_) (fun _ _ => rfl)
  by_cases hji : j = i
  · subst hji
    rw [va_up_self, ← he]
    exact hj
  · rw [va_up_ne _ _ hji, ← hne j hji]
    exact hj
/-- what a spindle may hold; a row of longs that is given -/
def oT (S : xs_T) (q : Option Nat) : Prop := q = none ∨ ∃ u, q = some u ∧ (oR S u ∨ oG S u ∨ oC S u)
def iR (S : xs_T) (q : Option Nat) : Prop := ∃ u, q = some u ∧ oR S u
def iG (S : xs_T) (q : Option Nat) : Prop := ∃ u, q = some u ∧ oG S u
def oA (S : xs_T) (b : Nat) : Prop := b = 36 ∨ b = 39 ∨ ∃ u, b = u + 120 ∧ oR S u
def aN (S : xs_T) (b : Nat) : Nat := if b = 36 ∨ b = 39 then 64 else xN S b
theorem oA_lt {S : xs_T} {b : Nat} (h : oA S b) : aN S b < 2 ^ 31 := by
  unfold aN
  split
  · omega
  · rcases h with h | h | ⟨u, rfl, h⟩
    · omega
    · omega
    · have := h.2.2.2
      omega
theorem xE_oA {Z : xz_T} {et : Nat → Nat} {S : xs_T} {b : Nat} (h : oA S b) : xE Z et S b = al Z (aN S b) (xL S b) := by
  rcases h with h | h | ⟨u, rfl, h⟩
  · subst h; rfl
  · subst h; rfl
  · rw [xE_arr h]
    have h1 := h.1
    have e : aN S (u + 120) = xN S (u + 120) := by
      unfold aN
      rw [if_neg (by omega)]
    rw [e]
theorem oR_lt {S : xs_T} {u : Nat} (h : oR S u) : xN S (u + 120) < 2 ^ 31 := by
  have := h.2.2.2
  omega
