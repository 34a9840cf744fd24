/-! begin -/
def rOK (r : Int32) : Prop := 0 ≤ r.toInt ∧ r.toInt ≤ 5
def ext (A A' : xs_T) : Prop := (xF A' = xF A ∧ nA A 1 ≤ nA A' 1) ∧ nA A' 7 = nA A 7 ∧ nA A' 4 = nA A 4 ∧ (∀ i, 42 ≤ i → xI A' i = xI A i) ∧ ∀ u, oW A u → oW A' u ∧ xN A' (u + 120) = xN A (u + 120) ∧ xN A' u = xN A u
def gd (A : xs_T) (x : Int32 × xs_T) : Prop := rOK x.1 ∧ ext A x.2
theorem ext.refl {A : xs_T} : ext A A := ⟨⟨rfl, Nat.le_refl _⟩, rfl, rfl, fun _ _ => rfl, fun _ hu => ⟨hu, rfl, rfl⟩⟩
theorem ext.fW {A : xs_T} {u b k : Nat} {g : Nat → Int64} : ext A (fW A u b k g) := ⟨⟨rfl, Nat.le_refl _⟩, rfl, rfl, fun _ _ => rfl, fun _ hu => ⟨hu, rfl, rfl⟩⟩
theorem ext.hold {A A' : xs_T} {k : Nat} {q : Option Nat} (h : ext A A') : ext A (sQ A' 37 k q) := ⟨h.1, h.2.1, h.2.2.1, h.2.2.2.1, fun u hu => h.2.2.2.2 u hu⟩
theorem ext.new {A : xs_T} {k n : Nat} (h0 : nA A 0 < 120) : ext A (fNew A k n) := by
  refine ⟨⟨rfl, Nat.le_refl _⟩, rfl, rfl, fun _ _ => rfl, fun u hu => ⟨fNew_o.mpr (Or.inl hu), ?_, ?_⟩⟩
  · have h1 := hu.1
    have h2 := hu.2
    rw [fNew_N, if_neg (by omega), if_neg (by omega)]
  · have h1 := hu.1
    have h2 := hu.2
    rw [fNew_N, if_neg (by omega), if_neg (by omega)]
theorem ext.fig {A : xs_T} {s : Nat} (h0 : nA A 0 ≤ 120) : ext A (fFg A s) := ⟨⟨rfl, Nat.le_succ _⟩, rfl, rfl, fun _ _ => rfl, fun u hu => ⟨hu, by have := hu.2; rw [fFg_N (by omega)], by have := hu.2; rw [fFg_N (by omega)]⟩⟩
theorem r_0 : rOK 0 := by unfold rOK; rw [ti_0]; decide
theorem r_1 : rOK 1 := by unfold rOK; rw [ti_1]; decide
theorem r_2 : rOK 2 := by unfold rOK; rw [ti_2]; decide
theorem r_3 : rOK 3 := by unfold rOK; rw [ti_3]; decide
theorem r_4 : rOK 4 := by unfold rOK; rw [ti_4]; decide
theorem r_5 : rOK 5 := by unfold rOK; rw [ti_5]; decide
theorem gd_on {A : xs_T} {a : Nat} {f : Nat → Int32 × xs_T} (hf : ∀ u, gd A (f u)) : gd A (onRow A a f) := by
  by_cases h1 : xQ A 37 a = none
  · rw [onRow_n h1]; exact ⟨r_1, ext.refl⟩
  · cases h2 : fRow A a with
    | none => rw [onRow_o h1 h2]; exact ⟨r_2, ext.refl⟩
    | some u => rw [onRow_s h1 h2]; exact hf u
theorem gd_if {A : xs_T} {c : Prop} {i : Decidable c} {x y : Int32 × xs_T} (hx : gd A x) (hy : gd A y) : gd A (if c then x else y) := by
  split
  · exact hx
  · exact hy
theorem gd_ifc {A : xs_T} {c : Prop} {i : Decidable c} {x y : Int32 × xs_T} (hx : c → gd A x) (hy : ¬ c → gd A y) : gd A (if c then x else y) := by
  split
  · exact hx (by assumption)
  · exact hy (by assumption)
theorem gd_doN {A : xs_T} (h0 : nA A 0 ≤ 120) (k a b : Nat) (c : Int32) : gd A (fDoN k a b c A) := by
  have seat : ∀ u f, gd A (seatN_ A a u f) := fun u f => gd_if (gd_if ⟨r_0, ext.fW⟩ ⟨r_2, ext.refl⟩) ⟨r_3, ext.refl⟩
  unfold fDoN
  split
  · exact ⟨r_0, ⟨rfl, Nat.le_refl _⟩, rfl, rfl, fun i hi => va_up_ne _ _ (by omega), fun _ hu => ⟨hu, rfl, rfl⟩⟩
  · unfold fSplice
    refine gd_if ⟨r_1, ext.refl⟩ ?_
    split
    · exact ⟨r_2, ext.refl⟩
    · split
      · exact ⟨r_2, ext.refl⟩
      · refine gd_if (gd_if ⟨?_, ext.fW⟩ ⟨r_3, ext.refl⟩) ⟨r_2, ext.refl⟩
        show rOK (if _ then 0 else 2)
        split
        · exact r_0
        · exact r_2
  · exact gd_on (fun u => ⟨r_0, ext.fW⟩)
  · exact gd_on (fun u => gd_if ⟨r_0, ext.fW⟩ ⟨r_3, ext.refl⟩)
  · exact gd_on (fun u => gd_if ⟨r_0, ext.fW⟩ ⟨r_3, ext.refl⟩)
  · exact gd_if ⟨r_5, ext.refl⟩ (gd_ifc (fun z => ⟨r_0, (ext.new z.1).hold⟩) (fun _ => ⟨r_4, ext.refl⟩))
  · exact gd_on (fun u => gd_ifc (fun z => ⟨r_0, (show ext A (fTw A u) from ext.new z.1).hold⟩) (fun _ => ⟨r_4, ext.refl⟩))
  · exact ⟨r_0, ext.refl.hold⟩
  · exact ⟨r_0, ext.refl.hold.hold⟩
  · refine gd_if ⟨r_0, ext.refl.hold⟩ (gd_if ⟨r_0, (show ext A (sA A 2 (nA A 2 + 1)) from ⟨⟨rfl, Nat.le_refl _⟩, rfl, rfl, fun _ _ => rfl, fun _ hu => ⟨hu, rfl, rfl⟩⟩).hold⟩ (gd_if ⟨r_4, ext.refl⟩ ⟨r_0, (show ext A (fFg A (b - 1)) from ext.fig h0).hold⟩))
  · exact gd_on (fun u => gd_if (gd_if ⟨r_0, ext.fW⟩ ⟨r_3, ext.refl⟩) ⟨r_2, ext.refl⟩)
  · refine gd_on (fun u => gd_if ⟨r_2, ext.refl⟩ ?_)
    split
    · exact seat _ _
    · exact gd_if (seat _ _) ⟨r_2, ext.refl⟩
  · exact gd_on (fun u => gd_if ⟨r_2, ext.refl⟩ (gd_if ⟨r_0, ext.refl.hold⟩ ⟨r_3, ext.refl⟩))
  · exact ⟨r_0, ext.refl⟩
/-- orders that leave all cells as they are -/
def kp_ (A A' : xs_T) : Prop := ∀ u, oW A u → xL A' (u + 120) = xL A (u + 120)
theorem kp_new {A : xs_T} {k n : Nat} : kp_ A (fNew A k n) := fun u hu => by
  funext i
  have := hu.2
  rw [fNew_L, if_neg (by omega)]
theorem kp_on {A : xs_T} {a : Nat} {f : Nat → Int32 × xs_T} (hf : ∀ u, kp_ A (f u).2) : kp_ A (onRow A a f).2 := by
  by_cases h1 : xQ A 37 a = none
  · rw [onRow_n h1]; exact fun _ _ => rfl
  · cases h2 : fRow A a with
    | none => rw [onRow_o h1 h2]; exact fun _ _ => rfl
    | some u => rw [onRow_s h1 h2]; exact hf u
theorem kp_if {A : xs_T} {c : Prop} {i : Decidable c} {x y : Int32 × xs_T} (hx : kp_ A x.2) (hy : kp_ A y.2) : kp_ A (if c then x else y).2 := by
  split
  · exact hx
  · exact hy
theorem kp_doN {A : xs_T} {k a b : Nat} {c : Int32} (h : ¬ (k = 1 ∨ k = 2 ∨ k = 3 ∨ k = 4 ∨ k = 10 ∨ k = 11)) : kp_ A (fDoN k a b c A).2 := by
  have r : kp_ A A := fun _ _ => rfl
  have tw : ∀ v, kp_ A (fTw A v) := fun v u hu => by
    have h2 := hu.2
    unfold fTw fW
    funext i
    rw [gLt, if_neg (by omega)]
    exact congrFun (kp_new u hu) i
  unfold fDoN
  split
  · exact r
  · omega
  · omega
  · omega
  · omega
  · exact kp_if (x := (5, A)) r (kp_if (x := (0, _)) kp_new (y := (4, A)) r)
  · exact kp_on (fun u => kp_if (x := (0, _)) (tw u) (y := (4, A)) r)
  · exact r
  · exact r
  · exact kp_if (x := (0, _)) r (kp_if (x := (0, _)) r (kp_if (x := (4, A)) r (y := (0, _)) r))
  · omega
  · omega
  · exact kp_on (fun u => kp_if (x := (2, A)) r (kp_if (x := (0, _)) r (y := (3, A)) r))
  · exact r
