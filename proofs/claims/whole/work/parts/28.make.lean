/-! things made -/
def fHang (A : xs_T) (a b : Nat) : Int32 × xs_T := if b = 0 then (0, sQ A 37 a none) else if b = 1 then (0, sQ (sA A 2 (nA A 2 + 1)) 37 a (some (704 + nA A 2))) else if nA A 1 = 400 then (4, A) else (0, sQ (sA (sN A (304 + nA A 1) (b - 1)) 1 (nA A 1 + 1)) 37 a (some (304 + nA A 1)))
theorem hT_n {A : xs_T} : hT A none := fun u hu => by cases hu
theorem WF.crank {A : xs_T} (h : WF A) (hc : nA A 2 < nA A 7) : WF (sA A 2 (nA A 2 + 1)) := by
  obtain ⟨h1, h2, h3, h4, h5, h6, h7⟩ := h
  refine ⟨⟨h1.1, h1.2.1, h1.2.2.1, h1.2.2.2.1, h1.2.2.2.2.1, h1.2.2.2.2.2.1, hc⟩, h2, h3, fun k hk u hu => ?_, h5, h6, h7⟩
  rcases h4 k hk u hu with z | z | z
  · exact Or.inl z
  · exact Or.inr (Or.inl z)
  · exact Or.inr (Or.inr ⟨z.1, by show u < 704 + (nA A 2 + 1); omega⟩)
theorem CA.crank {nx : Nat} {A S : xs_T} (h : CA nx A S) : CA nx (sA A 2 (nA A 2 + 1)) (mkC S) := by
  obtain ⟨c1, c2, c3, c4, c5, c6, c7⟩ := h
  obtain ⟨d1, d2, d3, d4, d5, d6, d7, d8, d9, d10, d11, d12, d13⟩ := c1
  refine ⟨⟨d1, d2, d3, d4, d5, d6, d7, d8, d9, d10, d11, ?_, d13⟩, c2, c3, c4, fun u hu => ⟨(c5 u hu).1, ?_, (c5 u hu).2.2⟩, fun i k u hu => ?_, c7⟩
  · show xN S 2 + 1 = nA A 2 + 1
    rw [d12]
  · show va_up S.2.2.2.2 2 (xN S 2 + 1) (u + 120) = _
    rw [va_up_ne _ _ (by omega)]
    exact (c5 u hu).2.1
  · rcases c6 i k u hu with z | z | z
    · exact Or.inl z
    · exact Or.inr (Or.inl z)
    · exact Or.inr (Or.inr ⟨z.1, by show u < 704 + (nA A 2 + 1); omega⟩)
theorem MA.crank {fr : Nat → Nat} {A S : xs_T} (h : MA fr A S) : MA fr (sA A 2 (nA A 2 + 1)) (sF S 0 8 (xF S 0 8 + 1)) := by
  obtain ⟨c1, c2, c3, c4, c5, c6⟩ := h
  obtain ⟨d1, d2, d3, d4, d5⟩ := c1
  refine ⟨⟨d1, d2, d3, ?_, d5⟩, c2, c3, c4, c5, c6⟩
  show xF S 0 8 + 1 = nI (nA A 2 + 1)
  rw [d4, nI_1]
def fFg (A : xs_T) (s : Nat) : xs_T := sA (sN A (304 + nA A 1) s) 1 (nA A 1 + 1)
theorem fFg_N {A : xs_T} {s i : Nat} (h : i < 304 ∨ (i ≠ 304 + nA A 1)) : xN (fFg A s) i = xN A i := by
  show xN (sN A (304 + nA A 1) s) i = xN A i
  rw [gNN, if_neg (by omega)]
theorem fFg_C {A : xs_T} {s : Nat} {x : Int64} (h : figC A x) : figC (fFg A s) x := by
  obtain ⟨f, h1, h2⟩ := h
  exact ⟨f, by show f ≤ nA A 1 + 1; omega, h2⟩
theorem WF.fig {A : xs_T} {s : Nat} (h : WF A) (hn : nA A 1 < 400) (h1 : 1 ≤ s) (h4 : s ≤ 4) : WF (fFg A s) := by
  obtain ⟨g1, g2, g3, g4, g5, g6, g7⟩ := h
  have oWe : ∀ u, oW (fFg A s) u → oW A u ∧ u < 184 := fun u hu => ⟨hu, by have := g1.1; have : u < 64 + nA A 0 := hu.2; omega⟩
  refine ⟨⟨g1.1, hn, g1.2.2⟩, fun u hu => ?_, fun f hf => ?_, fun k hk u hu => ?_, fun u hu hk i hi => ?_, fun j hj => ?_, g7⟩
  · obtain ⟨o1, o2⟩ := oWe u hu
    rw [fFg_N (by omega), fFg_N (by omega)]
    exact g2 u o1
  · show 1 ≤ xN (sN A (304 + nA A 1) s) (304 + f) ∧ xN (sN A (304 + nA A 1) s) (304 + f) ≤ 4
    have hf : f < nA A 1 + 1 := hf
    rw [gNN]
    by_cases e : f = nA A 1
    · rw [if_pos (by omega)]; omega
    · rw [if_neg (by omega)]; exact g3 f (by omega)
  · rcases g4 k hk u hu with z | z | z
    · exact Or.inl z
    · exact Or.inr (Or.inl ⟨z.1, by show u < 304 + (nA A 1 + 1); omega⟩)
    · exact Or.inr (Or.inr z)
  · obtain ⟨o1, o2⟩ := oWe u hu
    rw [fFg_N (by omega)] at hk hi
    exact fFg_C (g5 u o1 hk i hi)
  · have hb : xN (fFg A s) (5000 + j) = xN A (5000 + j) := fFg_N (by omega)
    have o := (g6 j hj).1
    have o2 := (oWe _ o).2
    rw [hb]
    refine ⟨o, fun hk i hi => ?_⟩
    rw [fFg_N (by omega)] at hk hi
    exact fFg_C ((g6 j hj).2 hk i hi)
theorem CA.fig {nx : Nat} {A S : xs_T} {s : Nat} (h : CA nx A S) (hw : WF A) (hn : nA A 1 < 400) : CA nx (fFg A s) (sF (sQ (sF (sF (mkG S) (304 + nA A 1) 0 (nI s)) (304 + nA A 1) 1 (nI (nA A 1 + 1))) 41 (nA A 1) (some (304 + nA A 1))) 40 1 (nI (nA A 1 + 1))) := by
  obtain ⟨c1, c2, c3, c4, c5, c6, c7⟩ := h
  obtain ⟨g1, g2, g3, g4, g5, g6, g7⟩ := hw
  have hR := g1.1
  obtain ⟨d1, d2, d3, d4, d5, d6, d7, d8, d9, d10, d11, d12, d13⟩ := c1
  have oWe : ∀ u, oW (fFg A s) u → oW A u ∧ u < 184 ∧ 64 ≤ u := fun u hu => ⟨hu, by have : u < 64 + nA A 0 := hu.2; omega, hu.1⟩
  have F : ∀ i k, i ≠ 304 + nA A 1 → ¬ (i = 40 ∧ k = 1) → xF (sF (sQ (sF (sF (mkG S) (304 + nA A 1) 0 (nI s)) (304 + nA A 1) 1 (nI (nA A 1 + 1))) 41 (nA A 1) (some (304 + nA A 1))) 40 1 (nI (nA A 1 + 1))) i k = xF S i k := fun i k h1 h2 => by
    rw [gFF, if_neg h2, gFQ, gFF, if_neg (fun z => h1 z.1), gFF, if_neg (fun z => h1 z.1)]
    show va_up S.1 (304 + xN S 1) (fun _ => 0) i k = S.1 i k
    rw [va_up_ne _ _ (by omega)]
  have N : ∀ i, i ≠ 1 → xN (sF (sQ (sF (sF (mkG S) (304 + nA A 1) 0 (nI s)) (304 + nA A 1) 1 (nI (nA A 1 + 1))) 41 (nA A 1) (some (304 + nA A 1))) 40 1 (nI (nA A 1 + 1))) i = xN S i := fun i h1 => va_up_ne _ _ h1
  have Q : ∀ i k, xQ (sF (sQ (sF (sF (mkG S) (304 + nA A 1) 0 (nI s)) (304 + nA A 1) 1 (nI (nA A 1 + 1))) 41 (nA A 1) (some (304 + nA A 1))) 40 1 (nI (nA A 1 + 1))) i k = if i = 41 ∧ k = nA A 1 then some (304 + nA A 1) else xQ S i k := fun i k => by
    rw [gQF, gQQ]; rfl
  refine ⟨⟨?_, ?_, ?_, ?_, ?_, ?_, rfl, ?_, ?_, ?_, ?_, ?_, ?_⟩, c2, fun k hk => ⟨?_, (c3 k hk).2⟩, fun f hf => ?_, fun u hu => ?_, fun i k => ?_, c7.1, ?_, ?_, fun j hj => ⟨?_, fun i hi => ?_⟩⟩
  · rw [F _ _ (by omega) (by omega)]; exact d1
  · rw [F _ _ (by omega) (by omega)]; exact d2
  · rw [F _ _ (by omega) (by omega)]; exact d3
  · rw [F _ _ (by omega) (by omega)]; exact d4
  · rw [F _ _ (by omega) (by omega)]; exact d5
  · rw [F _ _ (by omega) (by omega)]; exact d6
  · rw [F _ _ (by omega) (by omega)]; exact d8
  · rw [F _ _ (by omega) (by omega)]; exact d9
  · rw [N _ (by omega)]; exact d10
  · show xN S 1 + 1 = nA A 1 + 1
    rw [d11]
  · rw [N _ (by omega)]; exact d12
  · rw [N _ (by omega)]; exact d13
  · rw [Q, if_neg (by omega)]; exact (c3 k hk).1
  · have hf : f < nA A 1 + 1 := hf
    by_cases e : f = nA A 1
    · subst e
      rw [Q, if_pos ⟨rfl, rfl⟩]
      refine ⟨?_, ?_, rfl⟩
      · rw [gFF, if_neg (by omega), gFQ, gFF, if_neg (by omega), gFF, if_pos ⟨rfl, rfl⟩]
        show nI s = nI (xN (sN A (304 + nA A 1) s) (304 + nA A 1))
        rw [gNN, if_pos rfl]
      · rw [gFF, if_neg (by omega), gFQ, gFF, if_pos ⟨rfl, rfl⟩]
    · rw [F _ _ (by omega) (by omega), F _ _ (by omega) (by omega), Q, if_neg (by omega), fFg_N (by omega)]
      exact c4 f (by omega)
  · obtain ⟨o1, o2, o3⟩ := oWe u hu
    rw [F _ _ (by omega) (by omega), N _ (by omega), fFg_N (by omega), fFg_N (by omega)]
    exact c5 u o1
  · rw [Q]
    by_cases e : i = 41 ∧ k = nA A 1
    · rw [if_pos e]
      intro u hu
      have := Option.some.inj hu
      exact Or.inr (Or.inl ⟨by omega, by show u < 304 + (nA A 1 + 1); omega⟩)
    · rw [if_neg e]
      intro u hu
      rcases c6 i k u hu with z | z | z
      · exact Or.inl z
      · exact Or.inr (Or.inl ⟨z.1, by show u < 304 + (nA A 1 + 1); omega⟩)
      · exact Or.inr (Or.inr z)
  · rw [F _ _ (by omega) (by omega)]; exact c7.2.1
  · rw [F _ _ (by omega) (by omega)]; exact c7.2.2.1
  · rw [Q, if_neg (by omega), fFg_N (by omega)]; exact (c7.2.2.2 j hj).1
  · have o2 := (oWe _ (g6 j hj).1).2.1
    rw [fFg_N (i := 5000 + j) (by omega), fFg_N (by omega)] at hi
    exact (c7.2.2.2 j hj).2 i hi
theorem MA.fig {fr : Nat → Nat} {A S : xs_T} {s : Nat} (h : MA fr A S) (hw : WF A) (hn : nA A 1 < 400) : MA fr (fFg A s) (sI (sF S 0 6 (nI (nA A 1 + 1))) 7 (nA A 1 + 1) (nI s)) := by
  obtain ⟨c1, c2, c3, c4, c5, c6⟩ := h
  obtain ⟨d1, d2, d3, d4⟩ := c1
  have hR := hw.1.1
  have oWe : ∀ u, oW (fFg A s) u → oW A u ∧ u < 184 ∧ 64 ≤ u := fun u hu => ⟨hu, by have : u < 64 + nA A 0 := hu.2; omega, hu.1⟩
  refine ⟨⟨d1, d2, rfl, d4⟩, c2, c3, fun f hf => ?_, ⟨fun u hu => ?_, fun u v hu hv => ?_, c5.2.2⟩, fun j hj => ?_⟩
  · have hf : f < nA A 1 + 1 := hf
    rw [gII]
    by_cases e : f = nA A 1
    · subst e
      rw [if_pos ⟨rfl, rfl⟩]
      show nI s = nI (xN (sN A (304 + nA A 1) s) (304 + nA A 1))
      rw [gNN, if_pos rfl]
    · rw [if_neg (by omega), fFg_N (by omega), gIF]
      exact c4 f (by omega)
  · obtain ⟨o1, o2, o3⟩ := oWe u hu
    rw [fFg_N (by omega), fFg_N (by omega)]
    exact c5.1 u o1
  · obtain ⟨o1, o2, o3⟩ := oWe u hu
    obtain ⟨p1, p2, p3⟩ := oWe v hv
    rw [fFg_N (by omega)]
    exact c5.2.1 u v o1 p1
  · have o2 := (oWe _ (hw.2.2.2.2.2.1 j hj).1).2.1
    rw [fFg_N (i := 5000 + j) (by omega), fFg_N (by omega)]
    exact c6 j hj
theorem WF.hang {A : xs_T} {a b : Nat} (h : WF A) (hb : b ≤ 5) (hc : nA A 2 < nA A 7) : WF (fHang A a b).2 := by
  unfold fHang
  by_cases e0 : b = 0
  · rw [if_pos e0]; exact WF.hold h hT_n
  rw [if_neg e0]
  by_cases e1 : b = 1
  · rw [if_pos e1]
    refine WF.hold (WF.crank h hc) (fun u hu => Or.inr (Or.inr ?_))
    have := Option.some.inj hu
    exact ⟨by omega, by show u < 704 + (nA A 2 + 1); omega⟩
  rw [if_neg e1]
  by_cases e4 : nA A 1 = 400
  · rw [if_pos e4]; exact h
  rw [if_neg e4]
  have := h.1.2.1
  refine WF.hold (WF.fig h (by omega) (by omega) (by omega)) (fun u hu => Or.inr (Or.inl ?_))
  have := Option.some.inj hu
  exact ⟨by omega, by show u < 304 + (nA A 1 + 1); omega⟩
theorem c_hang {nx : Nat} {A S : xs_T} {a b : Nat} {K : Int32 → xs_T → Prop} (h : CA nx A S) (hw : WF A) (ha : a < 10) (hb : b ≤ 5) (hK : CK nx S K (fHang A a b)) : v_X0_hang (nI a) (nI b) S K := by
  unfold v_X0_hang
  unfold fHang at hK
  have hn := hw.1.2.1
  have e0 : nI b = 0 ↔ b = 0 := nI_eq (b := 0) (by omega) (by decide)
  have e1 : nI b = 1 ↔ b = 1 := nI_eq (b := 1) (by omega) (by decide)
  refine ⟨fun q => ⟨fun q2 => ?_, fun q2 => ⟨fun i k z => ?_, ?_⟩⟩, fun q => ⟨a, rfl, ha, ?_⟩⟩
  · rw [e0] at q
    rw [e1] at q2
    rw [if_neg q, if_neg q2] at hK
    unfold v_X6_hasRoomForFigure
    rw [h.1.2.2.2.2.2.2.1]
    have i4 : 400 ≤ nI (nA A 1) ↔ 400 ≤ nA A 1 := nI_leI (a := 400) (by decide) (by omega)
    refine ⟨fun z => ⟨fun y => absurd rfl y, fun _ => ?_⟩, fun z => ⟨fun _ => ?_, fun y => absurd y (by decide)⟩⟩
    · rw [i4] at z
      rw [if_pos (by omega)] at hK
      exact hK S h mfr.refl
    · rw [i4] at z
      rw [if_neg (by omega)] at hK
      unfold v_X6_makeFigure
      have d11 := h.1.2.2.2.2.2.2.2.2.2.2.1
      rw [d11]
      refine ⟨by omega, fun i k y => ?_, ?_⟩
      · have hR := hw.1.1
        rcases h.2.2.2.2.2.1 i k _ y with x | x | x <;> omega
      · rintro _ _ rfl rfl
        unfold v_X3_init v_X7_init
        refine ⟨⟨by omega, by omega, ?_⟩, ?_⟩
        · show 304 + nA A 1 < 304 + (xN S 1 + 1)
          rw [d11]; omega
        rintro _ rfl _ rfl
        have hz : ∀ j, j ≠ 304 + nA A 1 → xF (mkG S) j = xF S j := fun j hj => va_up_ne _ _ (by rw [d11]; exact hj)
        have f40 : xF (mkG S) 40 1 = nI (nA A 1) := by
          rw [hz 40 (by omega)]
          exact h.1.2.2.2.2.2.2.1
        have f40' : ∀ x y, xF (sF (sF (mkG S) (304 + nA A 1) 0 x) (304 + nA A 1) 1 y) 40 1 = nI (nA A 1) := fun x y => by
          rw [gFF, if_neg (by omega), gFF, if_neg (by omega), f40]
        refine ⟨nA A 1, f40' _ _, by omega, ?_⟩
        rintro _ rfl _ rfl
        have f40'' : ∀ x y q, xF (sQ (sF (sF (mkG S) (304 + nA A 1) 0 x) (304 + nA A 1) 1 y) 41 (nA A 1) q) 40 1 = nI (nA A 1) := fun x y q => f40' x y
        rw [f40'', f40, nI_1]
        have eb : nI b - 1 = nI (b - 1) := by rw [show b = (b - 1) + 1 by omega, nI_pred]; rfl
        rw [eb]
        have hC := h.fig (s := b - 1) hw (by omega)
        have hT1 : hT (fFg A (b - 1)) (some (304 + nA A 1)) := fun u hu => by
          have := Option.some.inj hu
          exact Or.inr (Or.inl ⟨by omega, by show u < 304 + (nA A 1 + 1); omega⟩)
        refine ⟨CA_oT hC (WF.fig hw (by omega) (by omega) (by omega)) hT1, a, rfl, ha, ?_⟩
        rintro _ rfl
        refine hK _ (hC.hold hT1) ?_
        intro i hi
        refine ⟨?_, rfl, rfl⟩
        funext k
        rw [gFQ, gFF, if_neg (by omega), gFQ, gFF, if_neg (by omega), gFF, if_neg (by omega), hz i (by omega)]
  · rw [h.1.2.2.2.2.2.2.2.2.2.2.2.1] at z
    have hR := hw.1.1
    rcases h.2.2.2.2.2.1 i k _ z with x | x | x <;> omega
  · rw [e0] at q
    rw [e1] at q2
    rw [if_neg q, if_pos q2] at hK
    rintro _ _ rfl rfl
    unfold v_X2_init v_X7_init
    refine ⟨a, rfl, ha, ?_⟩
    rintro _ rfl
    rw [h.1.2.2.2.2.2.2.2.2.2.2.2.1]
    refine hK _ (h.crank.hold (fun u hu => Or.inr (Or.inr ?_))) (fun i hi => ⟨rfl, rfl, rfl⟩)
    have := Option.some.inj hu
    exact ⟨by omega, by show u < 704 + (nA A 2 + 1); omega⟩
  · rw [e0] at q
    rintro _ rfl
    rw [if_pos q] at hK
    exact hK _ (h.hold hT_n) mfr.Q
theorem m_hang {fr : Nat → Nat} {A S : xs_T} {a b : Nat} {K : Int32 → xs_T → Prop} (h : MA fr A S) (hw : WF A) (ha : a < 10) (hb : b ≤ 5) (hK : MK S K (fHang A a b)) : v_X10_hang (nI a) (nI b) S K := by
  unfold fHang at hK
  have hn := hw.1.2.1
  have e0 : nI b = 0 ↔ b = 0 := nI_eq (b := 0) (by omega) (by decide)
  have e1 : nI b = 1 ↔ b = 1 := nI_eq (b := 1) (by omega) (by decide)
  have hf : xF S 0 6 = nI (nA A 1) := h.1.2.2.1
  have i4 : nI (nA A 1) = 400 ↔ nA A 1 = 400 := nI_eq (b := 400) (by omega) (by decide)
  have body : ¬ (2 ≤ b ∧ nA A 1 = 400) → v_X10_hang_17 K (nI a) (nI b) S := fun hno => by
    unfold v_X10_hang_17
    refine ⟨fun q => ⟨fun q2 => ?_, fun q2 => ?_⟩, fun q => m_hold ha ?_⟩
    · rw [e0] at q
      rw [e1] at q2
      rw [if_neg q, if_neg q2, if_neg (by omega)] at hK
      rintro _ rfl
      have eb : nI b - 1 = nI (b - 1) := by rw [show b = (b - 1) + 1 by omega, nI_pred]; rfl
      refine ⟨nA A 1 + 1, ?_, by omega, ?_⟩
      · show xF S 0 6 + 1 = _
        rw [hf, nI_1]
      rintro _ rfl
      have hx : ∀ x y, xF (sI (sF S 0 6 (nI (nA A 1 + 1))) 7 x y) 0 6 = nI (nA A 1 + 1) := fun x y => rfl
      rw [hf, nI_1, eb, hx]
      refine m_hold ha (hK fr _ ((h.fig hw (by omega)).hold (Or.inr (Or.inl ⟨by omega, by omega, rfl, by rw [show 304 + nA A 1 - 303 = nA A 1 + 1 by omega]⟩))) (((cfr.F (by decide)).trans (cfr.I (by decide))).trans cfr_hold))
    · rw [e0] at q
      rw [e1] at q2
      rw [if_neg q, if_pos q2] at hK
      rintro _ rfl
      refine m_hold ha (hK fr _ (h.crank.hold (Or.inr (Or.inr ⟨by omega, rfl, ?_⟩))) ((cfr.F (by decide)).trans cfr_hold))
      show xF S 0 8 + 1 = _
      rw [h.1.2.2.2.1, nI_1, show 704 + nA A 2 - 703 = nA A 2 + 1 by omega]
    · rw [e0] at q
      rw [if_pos q] at hK
      exact hK fr _ (h.hold ⟨rfl, rfl⟩) cfr_hold
  unfold v_X10_hang
  rw [hf, i4]
  have i1 : nI b ≤ 1 ↔ b ≤ 1 := nI_leI (b := 1) (by omega) (by decide)
  refine ⟨fun q => body (by rw [i1] at q; omega), fun q => ⟨fun q2 => body (by omega), fun q2 => ?_⟩⟩
  rw [i1] at q
  rw [if_neg (by omega), if_neg (by omega), if_pos q2] at hK
  exact hK fr S h cfr.refl
