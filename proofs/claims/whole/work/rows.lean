section
-- ===== PART A: goes FIRST, ahead of the names: the tables' words, and 'selects' of the private methods out of them =====
/-- a private method of a class that the tables say can be made, by its rows of tables_1 -/
def lw_okq (q : MethodName × Nat) : Prop := (q.1.cls ≠ "java/lang/invoke/MethodHandle" ∧ q.1.cls ≠ "java/lang/invoke/VarHandle") ∧ Cond.instantiable q.1.cls q.2 ∈ tables_1 ∧ Cond.privateMethod q.1 ∈ tables_1 ∧ Cond.instanceMethod q.1 ∈ tables_1
theorem lw_p0 : lw_okq (⟨"PinBarrels", "begin", "(IIII)I"⟩, 9) := ⟨⟨by decide +kernel, by decide +kernel⟩, List.mem_of_getElem? (i := 17) (by decide +kernel), List.mem_of_getElem? (i := 180) (by decide +kernel), List.mem_of_getElem? (i := 181) (by decide +kernel)⟩
theorem lw_p1 : lw_okq (⟨"PinBarrels", "rowAtRisk", "(III)LPinBarrels$Row;"⟩, 9) := ⟨⟨by decide +kernel, by decide +kernel⟩, List.mem_of_getElem? (i := 17) (by decide +kernel), List.mem_of_getElem? (i := 184) (by decide +kernel), List.mem_of_getElem? (i := 185) (by decide +kernel)⟩
theorem lw_p2 : lw_okq (⟨"PinBarrels$Bench", "splice", "(III)I"⟩, 4) := ⟨⟨by decide +kernel, by decide +kernel⟩, List.mem_of_getElem? (i := 25) (by decide +kernel), List.mem_of_getElem? (i := 200) (by decide +kernel), List.mem_of_getElem? (i := 201) (by decide +kernel)⟩
theorem lw_p3 : lw_okq (⟨"PinBarrels$Bench", "howManyFit", "(LPinBarrels$Row;ILPinBarrels$Row;I)I"⟩, 4) := ⟨⟨by decide +kernel, by decide +kernel⟩, List.mem_of_getElem? (i := 25) (by decide +kernel), List.mem_of_getElem? (i := 217) (by decide +kernel), List.mem_of_getElem? (i := 218) (by decide +kernel)⟩
theorem lw_p4 : lw_okq (⟨"PinBarrels$Bench", "turn", "(II)I"⟩, 4) := ⟨⟨by decide +kernel, by decide +kernel⟩, List.mem_of_getElem? (i := 25) (by decide +kernel), List.mem_of_getElem? (i := 235) (by decide +kernel), List.mem_of_getElem? (i := 236) (by decide +kernel)⟩
theorem lw_p5 : lw_okq (⟨"PinBarrels$Bench", "open", "(II)I"⟩, 4) := ⟨⟨by decide +kernel, by decide +kernel⟩, List.mem_of_getElem? (i := 25) (by decide +kernel), List.mem_of_getElem? (i := 247) (by decide +kernel), List.mem_of_getElem? (i := 248) (by decide +kernel)⟩
theorem lw_p6 : lw_okq (⟨"PinBarrels$Bench", "refusalOfPlaces", "(II)I"⟩, 4) := ⟨⟨by decide +kernel, by decide +kernel⟩, List.mem_of_getElem? (i := 25) (by decide +kernel), List.mem_of_getElem? (i := 251) (by decide +kernel), List.mem_of_getElem? (i := 252) (by decide +kernel)⟩
theorem lw_p7 : lw_okq (⟨"PinBarrels$Row", "empty", "(II)V"⟩, 2) := ⟨⟨by decide +kernel, by decide +kernel⟩, List.mem_of_getElem? (i := 261) (by decide +kernel), List.mem_of_getElem? (i := 259) (by decide +kernel), List.mem_of_getElem? (i := 260) (by decide +kernel)⟩
theorem lw_p8 : lw_okq (⟨"PinBarrels$Bench", "shut", "(II)I"⟩, 4) := ⟨⟨by decide +kernel, by decide +kernel⟩, List.mem_of_getElem? (i := 25) (by decide +kernel), List.mem_of_getElem? (i := 264) (by decide +kernel), List.mem_of_getElem? (i := 265) (by decide +kernel)⟩
theorem lw_p9 : lw_okq (⟨"PinBarrels$Bench", "make", "(III)I"⟩, 4) := ⟨⟨by decide +kernel, by decide +kernel⟩, List.mem_of_getElem? (i := 25) (by decide +kernel), List.mem_of_getElem? (i := 272) (by decide +kernel), List.mem_of_getElem? (i := 273) (by decide +kernel)⟩
theorem lw_p10 : lw_okq (⟨"PinBarrels$Bench", "twin", "(II)I"⟩, 4) := ⟨⟨by decide +kernel, by decide +kernel⟩, List.mem_of_getElem? (i := 25) (by decide +kernel), List.mem_of_getElem? (i := 303) (by decide +kernel), List.mem_of_getElem? (i := 304) (by decide +kernel)⟩
theorem lw_p11 : lw_okq (⟨"PinBarrels$Bench", "swap", "(II)I"⟩, 4) := ⟨⟨by decide +kernel, by decide +kernel⟩, List.mem_of_getElem? (i := 25) (by decide +kernel), List.mem_of_getElem? (i := 308) (by decide +kernel), List.mem_of_getElem? (i := 309) (by decide +kernel)⟩
theorem lw_p12 : lw_okq (⟨"PinBarrels$Bench", "hang", "(II)I"⟩, 4) := ⟨⟨by decide +kernel, by decide +kernel⟩, List.mem_of_getElem? (i := 25) (by decide +kernel), List.mem_of_getElem? (i := 312) (by decide +kernel), List.mem_of_getElem? (i := 313) (by decide +kernel)⟩
theorem lw_p13 : lw_okq (⟨"PinBarrels$Bench", "pin", "(II)I"⟩, 4) := ⟨⟨by decide +kernel, by decide +kernel⟩, List.mem_of_getElem? (i := 25) (by decide +kernel), List.mem_of_getElem? (i := 346) (by decide +kernel), List.mem_of_getElem? (i := 347) (by decide +kernel)⟩
theorem lw_p14 : lw_okq (⟨"PinBarrels$Bench", "seat", "(II)I"⟩, 4) := ⟨⟨by decide +kernel, by decide +kernel⟩, List.mem_of_getElem? (i := 25) (by decide +kernel), List.mem_of_getElem? (i := 377) (by decide +kernel), List.mem_of_getElem? (i := 378) (by decide +kernel)⟩
theorem lw_p15 : lw_okq (⟨"PinBarrels$Bench", "lift", "(II)I"⟩, 4) := ⟨⟨by decide +kernel, by decide +kernel⟩, List.mem_of_getElem? (i := 25) (by decide +kernel), List.mem_of_getElem? (i := 382) (by decide +kernel), List.mem_of_getElem? (i := 383) (by decide +kernel)⟩
def lw_privs_1 : List (MethodName × Nat) := [(⟨"PinBarrels", "begin", "(IIII)I"⟩, 9), (⟨"PinBarrels", "rowAtRisk", "(III)LPinBarrels$Row;"⟩, 9), (⟨"PinBarrels$Bench", "splice", "(III)I"⟩, 4), (⟨"PinBarrels$Bench", "howManyFit", "(LPinBarrels$Row;ILPinBarrels$Row;I)I"⟩, 4), (⟨"PinBarrels$Bench", "turn", "(II)I"⟩, 4), (⟨"PinBarrels$Bench", "open", "(II)I"⟩, 4), (⟨"PinBarrels$Bench", "refusalOfPlaces", "(II)I"⟩, 4), (⟨"PinBarrels$Row", "empty", "(II)V"⟩, 2), (⟨"PinBarrels$Bench", "shut", "(II)I"⟩, 4), (⟨"PinBarrels$Bench", "make", "(III)I"⟩, 4), (⟨"PinBarrels$Bench", "twin", "(II)I"⟩, 4), (⟨"PinBarrels$Bench", "swap", "(II)I"⟩, 4), (⟨"PinBarrels$Bench", "hang", "(II)I"⟩, 4), (⟨"PinBarrels$Bench", "pin", "(II)I"⟩, 4), (⟨"PinBarrels$Bench", "seat", "(II)I"⟩, 4), (⟨"PinBarrels$Bench", "lift", "(II)I"⟩, 4)]
theorem lw_r1 : ∀ q ∈ lw_privs_1, lw_okq q := List.forall_mem_cons.mpr ⟨lw_p0, List.forall_mem_cons.mpr ⟨lw_p1, List.forall_mem_cons.mpr ⟨lw_p2, List.forall_mem_cons.mpr ⟨lw_p3, List.forall_mem_cons.mpr ⟨lw_p4, List.forall_mem_cons.mpr ⟨lw_p5, List.forall_mem_cons.mpr ⟨lw_p6, List.forall_mem_cons.mpr ⟨lw_p7, List.forall_mem_cons.mpr ⟨lw_p8, List.forall_mem_cons.mpr ⟨lw_p9, List.forall_mem_cons.mpr ⟨lw_p10, List.forall_mem_cons.mpr ⟨lw_p11, List.forall_mem_cons.mpr ⟨lw_p12, List.forall_mem_cons.mpr ⟨lw_p13, List.forall_mem_cons.mpr ⟨lw_p14, List.forall_mem_cons.mpr ⟨lw_p15, fun _ h => absurd h List.not_mem_nil⟩⟩⟩⟩⟩⟩⟩⟩⟩⟩⟩⟩⟩⟩⟩⟩
theorem lw_p16 : lw_okq (⟨"PinBarrels$Tune", "isWhen", "(I)Z"⟩, 6) := ⟨⟨by decide +kernel, by decide +kernel⟩, List.mem_of_getElem? (i := 75) (by decide +kernel), List.mem_of_getElem? (i := 418) (by decide +kernel), List.mem_of_getElem? (i := 419) (by decide +kernel)⟩
theorem lw_p17 : lw_okq (⟨"PinBarrelsModel", "begin", "(IIII)I"⟩, 28) := ⟨⟨by decide +kernel, by decide +kernel⟩, List.mem_of_getElem? (i := 476) (by decide +kernel), List.mem_of_getElem? (i := 585) (by decide +kernel), List.mem_of_getElem? (i := 586) (by decide +kernel)⟩
theorem lw_p18 : lw_okq (⟨"PinBarrelsModel", "rowOn", "(I)I"⟩, 28) := ⟨⟨by decide +kernel, by decide +kernel⟩, List.mem_of_getElem? (i := 476) (by decide +kernel), List.mem_of_getElem? (i := 589) (by decide +kernel), List.mem_of_getElem? (i := 590) (by decide +kernel)⟩
theorem lw_p19 : lw_okq (⟨"PinBarrelsModel", "does", "(IIII)I"⟩, 28) := ⟨⟨by decide +kernel, by decide +kernel⟩, List.mem_of_getElem? (i := 476) (by decide +kernel), List.mem_of_getElem? (i := 593) (by decide +kernel), List.mem_of_getElem? (i := 594) (by decide +kernel)⟩
theorem lw_p20 : lw_okq (⟨"PinBarrelsModel", "splice", "(III)I"⟩, 28) := ⟨⟨by decide +kernel, by decide +kernel⟩, List.mem_of_getElem? (i := 476) (by decide +kernel), List.mem_of_getElem? (i := 597) (by decide +kernel), List.mem_of_getElem? (i := 598) (by decide +kernel)⟩
theorem lw_p21 : lw_okq (⟨"PinBarrelsModel", "canHave", "(II)Z"⟩, 28) := ⟨⟨by decide +kernel, by decide +kernel⟩, List.mem_of_getElem? (i := 476) (by decide +kernel), List.mem_of_getElem? (i := 601) (by decide +kernel), List.mem_of_getElem? (i := 602) (by decide +kernel)⟩
theorem lw_p22 : lw_okq (⟨"PinBarrelsModel", "turn", "(II)I"⟩, 28) := ⟨⟨by decide +kernel, by decide +kernel⟩, List.mem_of_getElem? (i := 476) (by decide +kernel), List.mem_of_getElem? (i := 605) (by decide +kernel), List.mem_of_getElem? (i := 606) (by decide +kernel)⟩
theorem lw_p23 : lw_okq (⟨"PinBarrelsModel", "open", "(IIZ)I"⟩, 28) := ⟨⟨by decide +kernel, by decide +kernel⟩, List.mem_of_getElem? (i := 476) (by decide +kernel), List.mem_of_getElem? (i := 609) (by decide +kernel), List.mem_of_getElem? (i := 610) (by decide +kernel)⟩
theorem lw_p24 : lw_okq (⟨"PinBarrelsModel", "makeOn", "(III)I"⟩, 28) := ⟨⟨by decide +kernel, by decide +kernel⟩, List.mem_of_getElem? (i := 476) (by decide +kernel), List.mem_of_getElem? (i := 613) (by decide +kernel), List.mem_of_getElem? (i := 614) (by decide +kernel)⟩
theorem lw_p25 : lw_okq (⟨"PinBarrelsModel", "roomFor", "(I)Z"⟩, 28) := ⟨⟨by decide +kernel, by decide +kernel⟩, List.mem_of_getElem? (i := 476) (by decide +kernel), List.mem_of_getElem? (i := 617) (by decide +kernel), List.mem_of_getElem? (i := 618) (by decide +kernel)⟩
theorem lw_p26 : lw_okq (⟨"PinBarrelsModel", "make", "(II)I"⟩, 28) := ⟨⟨by decide +kernel, by decide +kernel⟩, List.mem_of_getElem? (i := 476) (by decide +kernel), List.mem_of_getElem? (i := 621) (by decide +kernel), List.mem_of_getElem? (i := 622) (by decide +kernel)⟩
theorem lw_p27 : lw_okq (⟨"PinBarrelsModel", "hold", "(III)V"⟩, 28) := ⟨⟨by decide +kernel, by decide +kernel⟩, List.mem_of_getElem? (i := 476) (by decide +kernel), List.mem_of_getElem? (i := 625) (by decide +kernel), List.mem_of_getElem? (i := 626) (by decide +kernel)⟩
theorem lw_p28 : lw_okq (⟨"PinBarrelsModel", "twin", "(II)I"⟩, 28) := ⟨⟨by decide +kernel, by decide +kernel⟩, List.mem_of_getElem? (i := 476) (by decide +kernel), List.mem_of_getElem? (i := 629) (by decide +kernel), List.mem_of_getElem? (i := 630) (by decide +kernel)⟩
theorem lw_p29 : lw_okq (⟨"PinBarrelsModel", "swap", "(II)V"⟩, 28) := ⟨⟨by decide +kernel, by decide +kernel⟩, List.mem_of_getElem? (i := 476) (by decide +kernel), List.mem_of_getElem? (i := 633) (by decide +kernel), List.mem_of_getElem? (i := 634) (by decide +kernel)⟩
theorem lw_p30 : lw_okq (⟨"PinBarrelsModel", "hang", "(II)I"⟩, 28) := ⟨⟨by decide +kernel, by decide +kernel⟩, List.mem_of_getElem? (i := 476) (by decide +kernel), List.mem_of_getElem? (i := 637) (by decide +kernel), List.mem_of_getElem? (i := 638) (by decide +kernel)⟩
theorem lw_p31 : lw_okq (⟨"PinBarrelsModel", "pin", "(II)I"⟩, 28) := ⟨⟨by decide +kernel, by decide +kernel⟩, List.mem_of_getElem? (i := 476) (by decide +kernel), List.mem_of_getElem? (i := 641) (by decide +kernel), List.mem_of_getElem? (i := 642) (by decide +kernel)⟩
def lw_privs_2 : List (MethodName × Nat) := [(⟨"PinBarrels$Tune", "isWhen", "(I)Z"⟩, 6), (⟨"PinBarrelsModel", "begin", "(IIII)I"⟩, 28), (⟨"PinBarrelsModel", "rowOn", "(I)I"⟩, 28), (⟨"PinBarrelsModel", "does", "(IIII)I"⟩, 28), (⟨"PinBarrelsModel", "splice", "(III)I"⟩, 28), (⟨"PinBarrelsModel", "canHave", "(II)Z"⟩, 28), (⟨"PinBarrelsModel", "turn", "(II)I"⟩, 28), (⟨"PinBarrelsModel", "open", "(IIZ)I"⟩, 28), (⟨"PinBarrelsModel", "makeOn", "(III)I"⟩, 28), (⟨"PinBarrelsModel", "roomFor", "(I)Z"⟩, 28), (⟨"PinBarrelsModel", "make", "(II)I"⟩, 28), (⟨"PinBarrelsModel", "hold", "(III)V"⟩, 28), (⟨"PinBarrelsModel", "twin", "(II)I"⟩, 28), (⟨"PinBarrelsModel", "swap", "(II)V"⟩, 28), (⟨"PinBarrelsModel", "hang", "(II)I"⟩, 28), (⟨"PinBarrelsModel", "pin", "(II)I"⟩, 28)]
theorem lw_r2 : ∀ q ∈ lw_privs_2, lw_okq q := List.forall_mem_cons.mpr ⟨lw_p16, List.forall_mem_cons.mpr ⟨lw_p17, List.forall_mem_cons.mpr ⟨lw_p18, List.forall_mem_cons.mpr ⟨lw_p19, List.forall_mem_cons.mpr ⟨lw_p20, List.forall_mem_cons.mpr ⟨lw_p21, List.forall_mem_cons.mpr ⟨lw_p22, List.forall_mem_cons.mpr ⟨lw_p23, List.forall_mem_cons.mpr ⟨lw_p24, List.forall_mem_cons.mpr ⟨lw_p25, List.forall_mem_cons.mpr ⟨lw_p26, List.forall_mem_cons.mpr ⟨lw_p27, List.forall_mem_cons.mpr ⟨lw_p28, List.forall_mem_cons.mpr ⟨lw_p29, List.forall_mem_cons.mpr ⟨lw_p30, List.forall_mem_cons.mpr ⟨lw_p31, fun _ h => absurd h List.not_mem_nil⟩⟩⟩⟩⟩⟩⟩⟩⟩⟩⟩⟩⟩⟩⟩⟩
theorem lw_p32 : lw_okq (⟨"PinBarrelsModel", "seat", "(II)I"⟩, 28) := ⟨⟨by decide +kernel, by decide +kernel⟩, List.mem_of_getElem? (i := 476) (by decide +kernel), List.mem_of_getElem? (i := 669) (by decide +kernel), List.mem_of_getElem? (i := 670) (by decide +kernel)⟩
theorem lw_p33 : lw_okq (⟨"PinBarrelsModel", "lift", "(II)I"⟩, 28) := ⟨⟨by decide +kernel, by decide +kernel⟩, List.mem_of_getElem? (i := 476) (by decide +kernel), List.mem_of_getElem? (i := 673) (by decide +kernel), List.mem_of_getElem? (i := 674) (by decide +kernel)⟩
theorem lw_p34 : lw_okq (⟨"PinBarrelsModel", "write", "(I)V"⟩, 28) := ⟨⟨by decide +kernel, by decide +kernel⟩, List.mem_of_getElem? (i := 476) (by decide +kernel), List.mem_of_getElem? (i := 677) (by decide +kernel), List.mem_of_getElem? (i := 678) (by decide +kernel)⟩
theorem lw_p35 : lw_okq (⟨"PinBarrelsModel", "again", "(I)I"⟩, 28) := ⟨⟨by decide +kernel, by decide +kernel⟩, List.mem_of_getElem? (i := 476) (by decide +kernel), List.mem_of_getElem? (i := 685) (by decide +kernel), List.mem_of_getElem? (i := 686) (by decide +kernel)⟩
theorem lw_p36 : lw_okq (⟨"PinBarrelsModel", "behind", "(II)I"⟩, 28) := ⟨⟨by decide +kernel, by decide +kernel⟩, List.mem_of_getElem? (i := 476) (by decide +kernel), List.mem_of_getElem? (i := 689) (by decide +kernel), List.mem_of_getElem? (i := 690) (by decide +kernel)⟩
theorem lw_p37 : lw_okq (⟨"PinBarrelsModel", "first", "(I)I"⟩, 28) := ⟨⟨by decide +kernel, by decide +kernel⟩, List.mem_of_getElem? (i := 476) (by decide +kernel), List.mem_of_getElem? (i := 701) (by decide +kernel), List.mem_of_getElem? (i := 702) (by decide +kernel)⟩
def lw_privs_3 : List (MethodName × Nat) := [(⟨"PinBarrelsModel", "seat", "(II)I"⟩, 28), (⟨"PinBarrelsModel", "lift", "(II)I"⟩, 28), (⟨"PinBarrelsModel", "write", "(I)V"⟩, 28), (⟨"PinBarrelsModel", "again", "(I)I"⟩, 28), (⟨"PinBarrelsModel", "behind", "(II)I"⟩, 28), (⟨"PinBarrelsModel", "first", "(I)I"⟩, 28)]
theorem lw_r3 : ∀ q ∈ lw_privs_3, lw_okq q := List.forall_mem_cons.mpr ⟨lw_p32, List.forall_mem_cons.mpr ⟨lw_p33, List.forall_mem_cons.mpr ⟨lw_p34, List.forall_mem_cons.mpr ⟨lw_p35, List.forall_mem_cons.mpr ⟨lw_p36, List.forall_mem_cons.mpr ⟨lw_p37, fun _ h => absurd h List.not_mem_nil⟩⟩⟩⟩⟩⟩
def lw_privs : List (MethodName × Nat) := lw_privs_1 ++ (lw_privs_2 ++ (lw_privs_3))
def lw_tbl : List Cond := k2_sels lw_privs ++ tables_1
theorem lw_privs_ok : ∀ q ∈ lw_privs, lw_okq q := by
  show ∀ q ∈ lw_privs_1 ++ (lw_privs_2 ++ (lw_privs_3)), lw_okq q
  exact List.forall_mem_append.mpr ⟨lw_r1, List.forall_mem_append.mpr ⟨lw_r2, lw_r3⟩⟩

def RX0 : String := "PinBarrels$Bench"
def TX0 : u_T := fun k => match k with
  | 0 => ("PinBarrels$Bench", "held", "[LPinBarrels$Thing;", true)
  | 1 => ("PinBarrels$Bench", "marks", "[I", true)
  | 2 => ("PinBarrels$Bench", "between", "[J", true)
  | _ => ("PinBarrels$Bench", "stock", "LPinBarrels$Stock;", true)
def tyX0 : Nat → FieldType := fun k => match k with
  | 0 => .array (.object "PinBarrels$Thing")
  | 1 => .array .int
  | 2 => .array .long
  | _ => .object "PinBarrels$Stock"
abbrev wsX00 : List Cond := u_ws RX0 TX0 4
theorem nmX0 : ∀ a, a < 4 → ∀ b, b < 4 → a ≠ b → (TX0 a).2.1 ≠ (TX0 b).2.1 := by decide +kernel
theorem tyX0_ok : ∀ k, k < 4 → parseFieldDescriptor (TX0 k).2.2.1 = some (tyX0 k) := by decide +kernel
abbrev cX0_init : ByteArray := prog_2_method_1_code
def yX0_init : MethodName := ⟨RX0, "<init>", "()V"⟩
abbrev cX0_leastHolder : ByteArray := prog_2_method_2_code
def yX0_leastHolder : MethodName := ⟨RX0, "leastHolder", "(LPinBarrels$Thing;)I"⟩
abbrev cX0_perform : ByteArray := prog_2_method_3_code
def yX0_perform : MethodName := ⟨RX0, "perform", "(IIII)I"⟩
abbrev cX0_splice : ByteArray := prog_2_method_4_code
def yX0_splice : MethodName := ⟨RX0, "splice", "(III)I"⟩
abbrev cX0_howManyFit : ByteArray := prog_2_method_5_code
def yX0_howManyFit : MethodName := ⟨RX0, "howManyFit", "(LPinBarrels$Row;ILPinBarrels$Row;I)I"⟩
abbrev cX0_turn : ByteArray := prog_2_method_6_code
def yX0_turn : MethodName := ⟨RX0, "turn", "(II)I"⟩
abbrev cX0_open : ByteArray := prog_2_method_7_code
def yX0_open : MethodName := ⟨RX0, "open", "(II)I"⟩
abbrev cX0_shut : ByteArray := prog_2_method_8_code
def yX0_shut : MethodName := ⟨RX0, "shut", "(II)I"⟩
abbrev cX0_refusalOfPlaces : ByteArray := prog_2_method_9_code
def yX0_refusalOfPlaces : MethodName := ⟨RX0, "refusalOfPlaces", "(II)I"⟩
abbrev cX0_make : ByteArray := prog_2_method_10_code
def yX0_make : MethodName := ⟨RX0, "make", "(III)I"⟩
abbrev cX0_twin : ByteArray := prog_2_method_11_code
def yX0_twin : MethodName := ⟨RX0, "twin", "(II)I"⟩
abbrev cX0_swap : ByteArray := prog_2_method_12_code
def yX0_swap : MethodName := ⟨RX0, "swap", "(II)I"⟩
abbrev cX0_hang : ByteArray := prog_2_method_13_code
def yX0_hang : MethodName := ⟨RX0, "hang", "(II)I"⟩
abbrev cX0_pin : ByteArray := prog_2_method_14_code
def yX0_pin : MethodName := ⟨RX0, "pin", "(II)I"⟩
abbrev cX0_seat : ByteArray := prog_2_method_15_code
def yX0_seat : MethodName := ⟨RX0, "seat", "(II)I"⟩
abbrev cX0_lift : ByteArray := prog_2_method_16_code
def yX0_lift : MethodName := ⟨RX0, "lift", "(II)I"⟩
def RX1 : String := "PinBarrels$Book"
def TX1 : u_T := fun k => match k with
  | 0 => ("PinBarrels$Book", "rows", "[LPinBarrels$Row;", true)
  | 1 => ("PinBarrels$Book", "pages", "[J", true)
  | 2 => ("PinBarrels$Book", "kept", "I", false)
  | _ => ("PinBarrels$Book", "next", "I", false)
def tyX1 : Nat → FieldType := fun k => match k with
  | 0 => .array (.object "PinBarrels$Row")
  | 1 => .array .long
  | 2 => .int
  | _ => .int
abbrev wsX10 : List Cond := u_ws RX1 TX1 4
theorem nmX1 : ∀ a, a < 4 → ∀ b, b < 4 → a ≠ b → (TX1 a).2.1 ≠ (TX1 b).2.1 := by decide +kernel
theorem tyX1_ok : ∀ k, k < 4 → parseFieldDescriptor (TX1 k).2.2.1 = some (tyX1 k) := by decide +kernel
abbrev cX1_init : ByteArray := prog_3_method_1_code
def yX1_init : MethodName := ⟨RX1, "<init>", "()V"⟩
abbrev cX1_write : ByteArray := prog_3_method_2_code
def yX1_write : MethodName := ⟨RX1, "write", "(LPinBarrels$Row;[J)V"⟩
abbrev cX1_takeBack : ByteArray := prog_3_method_3_code
def yX1_takeBack : MethodName := ⟨RX1, "takeBack", "()Z"⟩
def RX2 : String := "PinBarrels$Crank"
def TX2 : u_T := fun k => match k with
  | _ => ("", "", "", false)
def tyX2 : Nat → FieldType := fun k => match k with
  | _ => .int
abbrev wsX20 : List Cond := u_ws RX2 TX2 0
theorem nmX2 : ∀ a, a < 0 → ∀ b, b < 0 → a ≠ b → (TX2 a).2.1 ≠ (TX2 b).2.1 := by decide +kernel
theorem tyX2_ok : ∀ k, k < 0 → parseFieldDescriptor (TX2 k).2.2.1 = some (tyX2 k) := by decide +kernel
abbrev cX2_init : ByteArray := prog_4_method_1_code
def yX2_init : MethodName := ⟨RX2, "<init>", "()V"⟩
abbrev cX2_appearance : ByteArray := prog_4_method_2_code
def yX2_appearance : MethodName := ⟨RX2, "appearance", "()I"⟩
abbrev cX2_measure : ByteArray := prog_4_method_3_code
def yX2_measure : MethodName := ⟨RX2, "measure", "()I"⟩
def RX3 : String := "PinBarrels$Figure"
def TX3 : u_T := fun k => match k with
  | 0 => ("PinBarrels$Figure", "sort", "I", true)
  | _ => ("PinBarrels$Figure", "number", "I", true)
def tyX3 : Nat → FieldType := fun k => match k with
  | 0 => .int
  | _ => .int
abbrev wsX30 : List Cond := u_ws RX3 TX3 2
theorem nmX3 : ∀ a, a < 2 → ∀ b, b < 2 → a ≠ b → (TX3 a).2.1 ≠ (TX3 b).2.1 := by decide +kernel
theorem tyX3_ok : ∀ k, k < 2 → parseFieldDescriptor (TX3 k).2.2.1 = some (tyX3 k) := by decide +kernel
abbrev cX3_init : ByteArray := prog_5_method_1_code
def yX3_init : MethodName := ⟨RX3, "<init>", "(II)V"⟩
abbrev cX3_appearance : ByteArray := prog_5_method_2_code
def yX3_appearance : MethodName := ⟨RX3, "appearance", "()I"⟩
abbrev cX3_measure : ByteArray := prog_5_method_3_code
def yX3_measure : MethodName := ⟨RX3, "measure", "()I"⟩
def RX4 : String := "PinBarrels$Numbers"
def TX4 : u_T := fun k => match k with
  | _ => ("", "", "", false)
def tyX4 : Nat → FieldType := fun k => match k with
  | _ => .int
abbrev wsX40 : List Cond := u_ws RX4 TX4 0
theorem nmX4 : ∀ a, a < 0 → ∀ b, b < 0 → a ≠ b → (TX4 a).2.1 ≠ (TX4 b).2.1 := by decide +kernel
theorem tyX4_ok : ∀ k, k < 0 → parseFieldDescriptor (TX4 k).2.2.1 = some (tyX4 k) := by decide +kernel
abbrev cX4_cutToKind : ByteArray := prog_6_method_2_code
def yX4_cutToKind : MethodName := ⟨RX4, "cutToKind", "(II)J"⟩
abbrev cX4_floatBits : ByteArray := prog_6_method_3_code
def yX4_floatBits : MethodName := ⟨RX4, "floatBits", "(I)I"⟩
abbrev cX4_doubleBits : ByteArray := prog_6_method_4_code
def yX4_doubleBits : MethodName := ⟨RX4, "doubleBits", "(I)J"⟩
abbrev cX4_topBit : ByteArray := prog_6_method_5_code
def yX4_topBit : MethodName := ⟨RX4, "topBit", "(J)I"⟩
abbrev cX4_shiftedToNearest : ByteArray := prog_6_method_6_code
def yX4_shiftedToNearest : MethodName := ⟨RX4, "shiftedToNearest", "(JI)J"⟩
def RX5 : String := "PinBarrels$Row"
def TX5 : u_T := fun k => match k with
  | 0 => ("PinBarrels$Row", "kind", "I", true)
  | _ => ("PinBarrels$Row", "cells", "[J", true)
def tyX5 : Nat → FieldType := fun k => match k with
  | 0 => .int
  | _ => .array .long
abbrev wsX50 : List Cond := u_ws RX5 TX5 2
theorem nmX5 : ∀ a, a < 2 → ∀ b, b < 2 → a ≠ b → (TX5 a).2.1 ≠ (TX5 b).2.1 := by decide +kernel
theorem tyX5_ok : ∀ k, k < 2 → parseFieldDescriptor (TX5 k).2.2.1 = some (tyX5 k) := by decide +kernel
abbrev cX5_init : ByteArray := prog_7_method_1_code
def yX5_init : MethodName := ⟨RX5, "<init>", "(II)V"⟩
abbrev cX5_appearance : ByteArray := prog_7_method_2_code
def yX5_appearance : MethodName := ⟨RX5, "appearance", "()I"⟩
abbrev cX5_measure : ByteArray := prog_7_method_3_code
def yX5_measure : MethodName := ⟨RX5, "measure", "()I"⟩
abbrev cX5_isOfFigures : ByteArray := prog_7_method_4_code
def yX5_isOfFigures : MethodName := ⟨RX5, "isOfFigures", "()Z"⟩
abbrev cX5_isAlike : ByteArray := prog_7_method_5_code
def yX5_isAlike : MethodName := ⟨RX5, "isAlike", "(LPinBarrels$Row;)Z"⟩
abbrev cX5_hasPlace : ByteArray := prog_7_method_6_code
def yX5_hasPlace : MethodName := ⟨RX5, "hasPlace", "(I)Z"⟩
abbrev cX5_hasPlaces : ByteArray := prog_7_method_7_code
def yX5_hasPlaces : MethodName := ⟨RX5, "hasPlaces", "(II)Z"⟩
abbrev cX5_canHave : ByteArray := prog_7_method_8_code
def yX5_canHave : MethodName := ⟨RX5, "canHave", "(I)Z"⟩
abbrev cX5_turn : ByteArray := prog_7_method_9_code
def yX5_turn : MethodName := ⟨RX5, "turn", "(I[J)V"⟩
abbrev cX5_open : ByteArray := prog_7_method_10_code
def yX5_open : MethodName := ⟨RX5, "open", "(II)V"⟩
abbrev cX5_shut : ByteArray := prog_7_method_11_code
def yX5_shut : MethodName := ⟨RX5, "shut", "(II)V"⟩
abbrev cX5_empty : ByteArray := prog_7_method_12_code
def yX5_empty : MethodName := ⟨RX5, "empty", "(II)V"⟩
abbrev cX5_copyTo : ByteArray := prog_7_method_13_code
def yX5_copyTo : MethodName := ⟨RX5, "copyTo", "([J)V"⟩
abbrev cX5_differsFrom : ByteArray := prog_7_method_14_code
def yX5_differsFrom : MethodName := ⟨RX5, "differsFrom", "([J)Z"⟩
def RX6 : String := "PinBarrels$Stock"
def TX6 : u_T := fun k => match k with
  | 0 => ("PinBarrels$Stock", "figures", "[LPinBarrels$Figure;", true)
  | 1 => ("PinBarrels$Stock", "figuresMade", "I", false)
  | 2 => ("PinBarrels$Stock", "rowsMade", "I", false)
  | _ => ("PinBarrels$Stock", "cellsMade", "I", false)
def tyX6 : Nat → FieldType := fun k => match k with
  | 0 => .array (.object "PinBarrels$Figure")
  | 1 => .int
  | 2 => .int
  | _ => .int
abbrev wsX60 : List Cond := u_ws RX6 TX6 4
theorem nmX6 : ∀ a, a < 4 → ∀ b, b < 4 → a ≠ b → (TX6 a).2.1 ≠ (TX6 b).2.1 := by decide +kernel
theorem tyX6_ok : ∀ k, k < 4 → parseFieldDescriptor (TX6 k).2.2.1 = some (tyX6 k) := by decide +kernel
abbrev cX6_init : ByteArray := prog_8_method_1_code
def yX6_init : MethodName := ⟨RX6, "<init>", "()V"⟩
abbrev cX6_hasRoomForRow : ByteArray := prog_8_method_2_code
def yX6_hasRoomForRow : MethodName := ⟨RX6, "hasRoomForRow", "(I)Z"⟩
abbrev cX6_hasRoomForFigure : ByteArray := prog_8_method_3_code
def yX6_hasRoomForFigure : MethodName := ⟨RX6, "hasRoomForFigure", "()Z"⟩
abbrev cX6_makeRow : ByteArray := prog_8_method_4_code
def yX6_makeRow : MethodName := ⟨RX6, "makeRow", "(II)LPinBarrels$Row;"⟩
abbrev cX6_makeFigure : ByteArray := prog_8_method_5_code
def yX6_makeFigure : MethodName := ⟨RX6, "makeFigure", "(I)LPinBarrels$Figure;"⟩
abbrev cX6_figureOf : ByteArray := prog_8_method_6_code
def yX6_figureOf : MethodName := ⟨RX6, "figureOf", "(J)LPinBarrels$Figure;"⟩
abbrev cX6_sortOf : ByteArray := prog_8_method_7_code
def yX6_sortOf : MethodName := ⟨RX6, "sortOf", "(J)I"⟩
def RX7 : String := "PinBarrels$Thing"
def TX7 : u_T := fun k => match k with
  | _ => ("", "", "", false)
def tyX7 : Nat → FieldType := fun k => match k with
  | _ => .int
abbrev wsX70 : List Cond := u_ws RX7 TX7 0
theorem nmX7 : ∀ a, a < 0 → ∀ b, b < 0 → a ≠ b → (TX7 a).2.1 ≠ (TX7 b).2.1 := by decide +kernel
theorem tyX7_ok : ∀ k, k < 0 → parseFieldDescriptor (TX7 k).2.2.1 = some (tyX7 k) := by decide +kernel
abbrev cX7_init : ByteArray := prog_9_method_1_code
def yX7_init : MethodName := ⟨RX7, "<init>", "()V"⟩
def RX8 : String := "PinBarrels$Tune"
def TX8 : u_T := fun k => match k with
  | 0 => ("PinBarrels$Tune", "codes", "[I", true)
  | 1 => ("PinBarrels$Tune", "as", "[I", true)
  | 2 => ("PinBarrels$Tune", "bs", "[I", true)
  | 3 => ("PinBarrels$Tune", "cs", "[I", true)
  | 4 => ("PinBarrels$Tune", "timesAgain", "[I", true)
  | _ => ("PinBarrels$Tune", "length", "I", false)
def tyX8 : Nat → FieldType := fun k => match k with
  | 0 => .array .int
  | 1 => .array .int
  | 2 => .array .int
  | 3 => .array .int
  | 4 => .array .int
  | _ => .int
abbrev wsX80 : List Cond := u_ws RX8 TX8 6
theorem nmX8 : ∀ a, a < 6 → ∀ b, b < 6 → a ≠ b → (TX8 a).2.1 ≠ (TX8 b).2.1 := by decide +kernel
theorem tyX8_ok : ∀ k, k < 6 → parseFieldDescriptor (TX8 k).2.2.1 = some (tyX8 k) := by decide +kernel
abbrev cX8_init : ByteArray := prog_10_method_1_code
def yX8_init : MethodName := ⟨RX8, "<init>", "()V"⟩
abbrev cX8_append : ByteArray := prog_10_method_2_code
def yX8_append : MethodName := ⟨RX8, "append", "(IIII)I"⟩
abbrev cX8_forgetAgains : ByteArray := prog_10_method_3_code
def yX8_forgetAgains : MethodName := ⟨RX8, "forgetAgains", "()V"⟩
abbrev cX8_following : ByteArray := prog_10_method_4_code
def yX8_following : MethodName := ⟨RX8, "following", "(I)I"⟩
abbrev cX8_meeting : ByteArray := prog_10_method_5_code
def yX8_meeting : MethodName := ⟨RX8, "meeting", "(II)I"⟩
abbrev cX8_isWhen : ByteArray := prog_10_method_6_code
def yX8_isWhen : MethodName := ⟨RX8, "isWhen", "(I)Z"⟩
def RX9 : String := "PinBarrels"
def TX9 : u_T := fun k => match k with
  | 0 => ("PinBarrels", "bench", "LPinBarrels$Bench;", true)
  | 1 => ("PinBarrels", "tune", "LPinBarrels$Tune;", true)
  | 2 => ("PinBarrels", "book", "LPinBarrels$Book;", true)
  | 3 => ("PinBarrels", "ahead", "[J", true)
  | 4 => ("PinBarrels", "begun", "I", false)
  | 5 => ("PinBarrels", "refusals", "I", false)
  | 6 => ("PinBarrels", "metRefusals", "I", false)
  | 7 => ("PinBarrels", "begunInRun", "I", false)
  | _ => ("PinBarrels", "enderOfRun", "I", false)
def tyX9 : Nat → FieldType := fun k => match k with
  | 0 => .object "PinBarrels$Bench"
  | 1 => .object "PinBarrels$Tune"
  | 2 => .object "PinBarrels$Book"
  | 3 => .array .long
  | 4 => .int
  | 5 => .int
  | 6 => .int
  | 7 => .int
  | _ => .int
abbrev wsX90 : List Cond := u_ws RX9 TX9 9
theorem nmX9 : ∀ a, a < 9 → ∀ b, b < 9 → a ≠ b → (TX9 a).2.1 ≠ (TX9 b).2.1 := by decide +kernel
theorem tyX9_ok : ∀ k, k < 9 → parseFieldDescriptor (TX9 k).2.2.1 = some (tyX9 k) := by decide +kernel
abbrev cX9_init : ByteArray := prog_1_method_1_code
def yX9_init : MethodName := ⟨RX9, "<init>", "()V"⟩
abbrev cX9_order : ByteArray := prog_1_method_2_code
def yX9_order : MethodName := ⟨RX9, "order", "(IIII)I"⟩
abbrev cX9_cut : ByteArray := prog_1_method_3_code
def yX9_cut : MethodName := ⟨RX9, "cut", "(I)Z"⟩
abbrev cX9_act : ByteArray := prog_1_method_4_code
def yX9_act : MethodName := ⟨RX9, "act", "(IIII)I"⟩
abbrev cX9_run : ByteArray := prog_1_method_5_code
def yX9_run : MethodName := ⟨RX9, "run", "(I)I"⟩
abbrev cX9_back : ByteArray := prog_1_method_6_code
def yX9_back : MethodName := ⟨RX9, "back", "()Z"⟩
abbrev cX9_look : ByteArray := prog_1_method_7_code
def yX9_look : MethodName := ⟨RX9, "look", "(II)I"⟩
abbrev cX9_cell : ByteArray := prog_1_method_8_code
def yX9_cell : MethodName := ⟨RX9, "cell", "(II)J"⟩
abbrev cX9_sort : ByteArray := prog_1_method_9_code
def yX9_sort : MethodName := ⟨RX9, "sort", "(I)I"⟩
abbrev cX9_count : ByteArray := prog_1_method_10_code
def yX9_count : MethodName := ⟨RX9, "count", "(I)I"⟩
abbrev cX9_isWithin : ByteArray := prog_1_method_11_code
def yX9_isWithin : MethodName := ⟨RX9, "isWithin", "(III)Z"⟩
abbrev cX9_isSpindle : ByteArray := prog_1_method_12_code
def yX9_isSpindle : MethodName := ⟨RX9, "isSpindle", "(I)Z"⟩
abbrev cX9_isAsTold : ByteArray := prog_1_method_13_code
def yX9_isAsTold : MethodName := ⟨RX9, "isAsTold", "(IIII)Z"⟩
abbrev cX9_begin : ByteArray := prog_1_method_14_code
def yX9_begin : MethodName := ⟨RX9, "begin", "(IIII)I"⟩
abbrev cX9_rowAtRisk : ByteArray := prog_1_method_15_code
def yX9_rowAtRisk : MethodName := ⟨RX9, "rowAtRisk", "(III)LPinBarrels$Row;"⟩
def RX10 : String := "PinBarrelsModel"
def TX10 : u_T := fun k => match k with
  | 0 => ("PinBarrelsModel", "rows", "I", false)
  | 1 => ("PinBarrelsModel", "kinds", "[I", true)
  | 2 => ("PinBarrelsModel", "lengths", "[I", true)
  | 3 => ("PinBarrelsModel", "froms", "[I", true)
  | 4 => ("PinBarrelsModel", "cells", "I", false)
  | 5 => ("PinBarrelsModel", "values", "[J", true)
  | 6 => ("PinBarrelsModel", "figures", "I", false)
  | 7 => ("PinBarrelsModel", "sorts", "[I", true)
  | 8 => ("PinBarrelsModel", "cranks", "I", false)
  | 9 => ("PinBarrelsModel", "holds", "[I", true)
  | 10 => ("PinBarrelsModel", "which", "[I", true)
  | 11 => ("PinBarrelsModel", "marks", "[I", true)
  | 12 => ("PinBarrelsModel", "orders", "I", false)
  | 13 => ("PinBarrelsModel", "codes", "[I", true)
  | 14 => ("PinBarrelsModel", "as", "[I", true)
  | 15 => ("PinBarrelsModel", "bs", "[I", true)
  | 16 => ("PinBarrelsModel", "cs", "[I", true)
  | 17 => ("PinBarrelsModel", "gone", "[I", true)
  | 18 => ("PinBarrelsModel", "kept", "I", false)
  | 19 => ("PinBarrelsModel", "bookRows", "[I", true)
  | 20 => ("PinBarrelsModel", "bookCells", "[J", true)
  | 21 => ("PinBarrelsModel", "ahead", "[J", true)
  | 22 => ("PinBarrelsModel", "between", "[J", true)
  | 23 => ("PinBarrelsModel", "begun", "I", false)
  | 24 => ("PinBarrelsModel", "refused", "I", false)
  | 25 => ("PinBarrelsModel", "met", "I", false)
  | 26 => ("PinBarrelsModel", "runBegun", "I", false)
  | _ => ("PinBarrelsModel", "endedBy", "I", false)
def tyX10 : Nat → FieldType := fun k => match k with
  | 0 => .int
  | 1 => .array .int
  | 2 => .array .int
  | 3 => .array .int
  | 4 => .int
  | 5 => .array .long
  | 6 => .int
  | 7 => .array .int
  | 8 => .int
  | 9 => .array .int
  | 10 => .array .int
  | 11 => .array .int
  | 12 => .int
  | 13 => .array .int
  | 14 => .array .int
  | 15 => .array .int
  | 16 => .array .int
  | 17 => .array .int
  | 18 => .int
  | 19 => .array .int
  | 20 => .array .long
  | 21 => .array .long
  | 22 => .array .long
  | 23 => .int
  | 24 => .int
  | 25 => .int
  | 26 => .int
  | _ => .int
abbrev wsX100 : List Cond := u_ws RX10 TX10 28
theorem nmX10 : ∀ a, a < 28 → ∀ b, b < 28 → a ≠ b → (TX10 a).2.1 ≠ (TX10 b).2.1 := by decide +kernel
theorem tyX10_ok : ∀ k, k < 28 → parseFieldDescriptor (TX10 k).2.2.1 = some (tyX10 k) := by decide +kernel
abbrev cX10_init : ByteArray := prog_12_method_1_code
def yX10_init : MethodName := ⟨RX10, "<init>", "()V"⟩
abbrev cX10_in : ByteArray := prog_12_method_2_code
def yX10_in : MethodName := ⟨RX10, "in", "(III)Z"⟩
abbrev cX10_isOrder : ByteArray := prog_12_method_3_code
def yX10_isOrder : MethodName := ⟨RX10, "isOrder", "(IIII)Z"⟩
abbrev cX10_order : ByteArray := prog_12_method_4_code
def yX10_order : MethodName := ⟨RX10, "order", "(IIII)I"⟩
abbrev cX10_cut : ByteArray := prog_12_method_5_code
def yX10_cut : MethodName := ⟨RX10, "cut", "(I)Z"⟩
abbrev cX10_rowOn : ByteArray := prog_12_method_6_code
def yX10_rowOn : MethodName := ⟨RX10, "rowOn", "(I)I"⟩
abbrev cX10_roomFor : ByteArray := prog_12_method_7_code
def yX10_roomFor : MethodName := ⟨RX10, "roomFor", "(I)Z"⟩
abbrev cX10_make : ByteArray := prog_12_method_8_code
def yX10_make : MethodName := ⟨RX10, "make", "(II)I"⟩
abbrev cX10_hold : ByteArray := prog_12_method_9_code
def yX10_hold : MethodName := ⟨RX10, "hold", "(III)V"⟩
abbrev cX10_canHave : ByteArray := prog_12_method_10_code
def yX10_canHave : MethodName := ⟨RX10, "canHave", "(II)Z"⟩
abbrev cX10_cutTo : ByteArray := prog_12_method_11_code
def yX10_cutTo : MethodName := ⟨RX10, "cutTo", "(II)J"⟩
abbrev cX10_splice : ByteArray := prog_12_method_12_code
def yX10_splice : MethodName := ⟨RX10, "splice", "(III)I"⟩
abbrev cX10_turn : ByteArray := prog_12_method_13_code
def yX10_turn : MethodName := ⟨RX10, "turn", "(II)I"⟩
abbrev cX10_open : ByteArray := prog_12_method_14_code
def yX10_open : MethodName := ⟨RX10, "open", "(IIZ)I"⟩
abbrev cX10_makeOn : ByteArray := prog_12_method_15_code
def yX10_makeOn : MethodName := ⟨RX10, "makeOn", "(III)I"⟩
abbrev cX10_twin : ByteArray := prog_12_method_16_code
def yX10_twin : MethodName := ⟨RX10, "twin", "(II)I"⟩
abbrev cX10_swap : ByteArray := prog_12_method_17_code
def yX10_swap : MethodName := ⟨RX10, "swap", "(II)V"⟩
abbrev cX10_hang : ByteArray := prog_12_method_18_code
def yX10_hang : MethodName := ⟨RX10, "hang", "(II)I"⟩
abbrev cX10_pin : ByteArray := prog_12_method_19_code
def yX10_pin : MethodName := ⟨RX10, "pin", "(II)I"⟩
abbrev cX10_seat : ByteArray := prog_12_method_20_code
def yX10_seat : MethodName := ⟨RX10, "seat", "(II)I"⟩
abbrev cX10_lift : ByteArray := prog_12_method_21_code
def yX10_lift : MethodName := ⟨RX10, "lift", "(II)I"⟩
abbrev cX10_does : ByteArray := prog_12_method_22_code
def yX10_does : MethodName := ⟨RX10, "does", "(IIII)I"⟩
abbrev cX10_begin : ByteArray := prog_12_method_23_code
def yX10_begin : MethodName := ⟨RX10, "begin", "(IIII)I"⟩
abbrev cX10_write : ByteArray := prog_12_method_24_code
def yX10_write : MethodName := ⟨RX10, "write", "(I)V"⟩
abbrev cX10_act : ByteArray := prog_12_method_25_code
def yX10_act : MethodName := ⟨RX10, "act", "(IIII)I"⟩
abbrev cX10_behind : ByteArray := prog_12_method_26_code
def yX10_behind : MethodName := ⟨RX10, "behind", "(II)I"⟩
abbrev cX10_again : ByteArray := prog_12_method_27_code
def yX10_again : MethodName := ⟨RX10, "again", "(I)I"⟩
abbrev cX10_run : ByteArray := prog_12_method_28_code
def yX10_run : MethodName := ⟨RX10, "run", "(I)I"⟩
abbrev cX10_back : ByteArray := prog_12_method_29_code
def yX10_back : MethodName := ⟨RX10, "back", "()Z"⟩
abbrev cX10_look : ByteArray := prog_12_method_30_code
def yX10_look : MethodName := ⟨RX10, "look", "(II)I"⟩
abbrev cX10_first : ByteArray := prog_12_method_31_code
def yX10_first : MethodName := ⟨RX10, "first", "(I)I"⟩
abbrev cX10_cell : ByteArray := prog_12_method_32_code
def yX10_cell : MethodName := ⟨RX10, "cell", "(II)J"⟩
abbrev cX10_sort : ByteArray := prog_12_method_33_code
def yX10_sort : MethodName := ⟨RX10, "sort", "(I)I"⟩
abbrev cX10_count : ByteArray := prog_12_method_34_code
def yX10_count : MethodName := ⟨RX10, "count", "(I)I"⟩
def RJxe99ae : String := "java/lang/Double"
def TJxe99ae : u_T := fun k => match k with
  | _ => ("", "", "", false)
def tyJxe99ae : Nat → FieldType := fun k => match k with
  | _ => .int
abbrev wsJxe99ae0 : List Cond := u_ws RJxe99ae TJxe99ae 0
theorem nmJxe99ae : ∀ a, a < 0 → ∀ b, b < 0 → a ≠ b → (TJxe99ae a).2.1 ≠ (TJxe99ae b).2.1 := by decide +kernel
theorem tyJxe99ae_ok : ∀ k, k < 0 → parseFieldDescriptor (TJxe99ae k).2.2.1 = some (tyJxe99ae k) := by decide +kernel
abbrev cJxe99ae_isNaN_b9ae7 : ByteArray := prog_13_method_6_code
def yJxe99ae_isNaN_b9ae7 : MethodName := ⟨RJxe99ae, "isNaN", "(D)Z"⟩
abbrev cJxe99ae_doubleToLongBits_ccdee : ByteArray := prog_13_method_23_code
def yJxe99ae_doubleToLongBits_ccdee : MethodName := ⟨RJxe99ae, "doubleToLongBits", "(D)J"⟩
def RJxf58ca : String := "java/lang/Float"
def TJxf58ca : u_T := fun k => match k with
  | _ => ("", "", "", false)
def tyJxf58ca : Nat → FieldType := fun k => match k with
  | _ => .int
abbrev wsJxf58ca0 : List Cond := u_ws RJxf58ca TJxf58ca 0
theorem nmJxf58ca : ∀ a, a < 0 → ∀ b, b < 0 → a ≠ b → (TJxf58ca a).2.1 ≠ (TJxf58ca b).2.1 := by decide +kernel
theorem tyJxf58ca_ok : ∀ k, k < 0 → parseFieldDescriptor (TJxf58ca k).2.2.1 = some (tyJxf58ca k) := by decide +kernel
abbrev cJxf58ca_isNaN_12338 : ByteArray := prog_14_method_6_code
def yJxf58ca_isNaN_12338 : MethodName := ⟨RJxf58ca, "isNaN", "(F)Z"⟩
abbrev cJxf58ca_floatToIntBits_5c35a : ByteArray := prog_14_method_24_code
def yJxf58ca_floatToIntBits_5c35a : MethodName := ⟨RJxf58ca, "floatToIntBits", "(F)I"⟩
def RJ9 : String := "java/lang/Math"
def TJ9 : u_T := fun k => match k with
  | _ => ("", "", "", false)
def tyJ9 : Nat → FieldType := fun k => match k with
  | _ => .int
abbrev wsJ90 : List Cond := u_ws RJ9 TJ9 0
theorem nmJ9 : ∀ a, a < 0 → ∀ b, b < 0 → a ≠ b → (TJ9 a).2.1 ≠ (TJ9 b).2.1 := by decide +kernel
theorem tyJ9_ok : ∀ k, k < 0 → parseFieldDescriptor (TJ9 k).2.2.1 = some (tyJ9 k) := by decide +kernel
abbrev cJ9_floorMod_7cf53 : ByteArray := prog_15_method_50_code
def yJ9_floorMod_7cf53 : MethodName := ⟨RJ9, "floorMod", "(II)I"⟩
abbrev cJ9_abs_067f4 : ByteArray := prog_15_method_61_code
def yJ9_abs_067f4 : MethodName := ⟨RJ9, "abs", "(J)J"⟩
abbrev cJ9_max_7cf53 : ByteArray := prog_15_method_65_code
def yJ9_max_7cf53 : MethodName := ⟨RJ9, "max", "(II)I"⟩
abbrev cJ9_min_7cf53 : ByteArray := prog_15_method_69_code
def yJ9_min_7cf53 : MethodName := ⟨RJ9, "min", "(II)I"⟩
def RJ10 : String := "java/lang/System"
def TJ10 : u_T := fun k => match k with
  | _ => ("", "", "", false)
def tyJ10 : Nat → FieldType := fun k => match k with
  | _ => .int
abbrev wsJ100 : List Cond := u_ws RJ10 TJ10 0
theorem nmJ10 : ∀ a, a < 0 → ∀ b, b < 0 → a ≠ b → (TJ10 a).2.1 ≠ (TJ10 b).2.1 := by decide +kernel
theorem tyJ10_ok : ∀ k, k < 0 → parseFieldDescriptor (TJ10 k).2.2.1 = some (tyJ10 k) := by decide +kernel
def RL : String := "PinBarrelsLaw"
abbrev cL_law : ByteArray := code
def yL_law : MethodName := ⟨RL, "law", "([I)Z"⟩
abbrev vwCl : List vw_C := [(RX0, TX0, 4), (RX1, TX1, 4), (RX2, TX2, 0), (RX3, TX3, 2), (RX5, TX5, 2), (RX6, TX6, 4), (RX8, TX8, 6), (RX9, TX9, 9), (RX10, TX10, 28)]
end
section
theorem dX0_init_0 : decode cX0_init 0 = .ok (.aload_n 0, 1) := by decide +kernel
theorem dX0_init_1 : decode cX0_init 1 = .ok (.invokespecial 3, 3) := by decide +kernel
theorem dX0_init_4 : decode cX0_init 4 = .ok (.aload_n 0, 1) := by decide +kernel
theorem dX0_init_5 : decode cX0_init 5 = .ok (.bipush 10, 2) := by decide +kernel
theorem dX0_init_7 : decode cX0_init 7 = .ok (.anewarray 9, 3) := by decide +kernel
theorem dX0_init_10 : decode cX0_init 10 = .ok (.putfield 11, 3) := by decide +kernel
theorem dX0_init_13 : decode cX0_init 13 = .ok (.aload_n 0, 1) := by decide +kernel
theorem dX0_init_14 : decode cX0_init 14 = .ok (.bipush 10, 2) := by decide +kernel
theorem dX0_init_16 : decode cX0_init 16 = .ok (.newarray .int, 2) := by decide +kernel
theorem dX0_init_18 : decode cX0_init 18 = .ok (.putfield 17, 3) := by decide +kernel
theorem dX0_init_21 : decode cX0_init 21 = .ok (.aload_n 0, 1) := by decide +kernel
theorem dX0_init_22 : decode cX0_init 22 = .ok (.bipush 64, 2) := by decide +kernel
theorem dX0_init_24 : decode cX0_init 24 = .ok (.newarray .long, 2) := by decide +kernel
theorem dX0_init_26 : decode cX0_init 26 = .ok (.putfield 21, 3) := by decide +kernel
theorem dX0_init_29 : decode cX0_init 29 = .ok (.aload_n 0, 1) := by decide +kernel
theorem dX0_init_30 : decode cX0_init 30 = .ok (.new 25, 3) := by decide +kernel
theorem dX0_init_33 : decode cX0_init 33 = .ok (.dup, 1) := by decide +kernel
theorem dX0_init_34 : decode cX0_init 34 = .ok (.invokespecial 27, 3) := by decide +kernel
theorem dX0_init_37 : decode cX0_init 37 = .ok (.putfield 28, 3) := by decide +kernel
theorem dX0_init_40 : decode cX0_init 40 = .ok (.return_, 1) := by decide +kernel
theorem dX0_leastHolder_0 : decode cX0_leastHolder 0 = .ok (.aload_n 1, 1) := by decide +kernel
theorem dX0_leastHolder_1 : decode cX0_leastHolder 1 = .ok (.ifnonnull 5, 3) := by decide +kernel
theorem dX0_leastHolder_4 : decode cX0_leastHolder 4 = .ok (.iconst (-1), 1) := by decide +kernel
theorem dX0_leastHolder_5 : decode cX0_leastHolder 5 = .ok (.ireturn, 1) := by decide +kernel
theorem dX0_leastHolder_6 : decode cX0_leastHolder 6 = .ok (.iconst 0, 1) := by decide +kernel
theorem dX0_leastHolder_7 : decode cX0_leastHolder 7 = .ok (.istore_n 2, 1) := by decide +kernel
theorem dX0_leastHolder_8 : decode cX0_leastHolder 8 = .ok (.iload_n 2, 1) := by decide +kernel
theorem dX0_leastHolder_9 : decode cX0_leastHolder 9 = .ok (.bipush 10, 2) := by decide +kernel
theorem dX0_leastHolder_11 : decode cX0_leastHolder 11 = .ok (.if_icmp .ge 21, 3) := by decide +kernel
theorem dX0_leastHolder_14 : decode cX0_leastHolder 14 = .ok (.aload_n 0, 1) := by decide +kernel
theorem dX0_leastHolder_15 : decode cX0_leastHolder 15 = .ok (.getfield 11, 3) := by decide +kernel
theorem dX0_leastHolder_18 : decode cX0_leastHolder 18 = .ok (.iload_n 2, 1) := by decide +kernel
theorem dX0_leastHolder_19 : decode cX0_leastHolder 19 = .ok (.aaload, 1) := by decide +kernel
theorem dX0_leastHolder_20 : decode cX0_leastHolder 20 = .ok (.aload_n 1, 1) := by decide +kernel
theorem dX0_leastHolder_21 : decode cX0_leastHolder 21 = .ok (.if_acmp .ne 5, 3) := by decide +kernel
theorem dX0_leastHolder_24 : decode cX0_leastHolder 24 = .ok (.iload_n 2, 1) := by decide +kernel
theorem dX0_leastHolder_25 : decode cX0_leastHolder 25 = .ok (.ireturn, 1) := by decide +kernel
theorem dX0_leastHolder_26 : decode cX0_leastHolder 26 = .ok (.iinc 2 1, 3) := by decide +kernel
theorem dX0_leastHolder_29 : decode cX0_leastHolder 29 = .ok (.goto (-21), 3) := by decide +kernel
theorem dX0_leastHolder_32 : decode cX0_leastHolder 32 = .ok (.iconst (-1), 1) := by decide +kernel
theorem dX0_leastHolder_33 : decode cX0_leastHolder 33 = .ok (.ireturn, 1) := by decide +kernel
theorem dX0_perform_0 : decode cX0_perform 0 = .ok (.iload_n 1, 1) := by decide +kernel
theorem dX0_perform_1 : decode cX0_perform 1 = .ok (.tableswitch 176 0 12 #[67, 77, 86, 94, 102, 110, 119, 126, 140, 147, 154, 162, 169], 67) := by decide +kernel
theorem dX0_perform_68 : decode cX0_perform 68 = .ok (.aload_n 0, 1) := by decide +kernel
theorem dX0_perform_69 : decode cX0_perform 69 = .ok (.getfield 17, 3) := by decide +kernel
theorem dX0_perform_72 : decode cX0_perform 72 = .ok (.iload_n 2, 1) := by decide +kernel
theorem dX0_perform_73 : decode cX0_perform 73 = .ok (.iload 4, 2) := by decide +kernel
theorem dX0_perform_75 : decode cX0_perform 75 = .ok (.iastore, 1) := by decide +kernel
theorem dX0_perform_76 : decode cX0_perform 76 = .ok (.iconst 0, 1) := by decide +kernel
theorem dX0_perform_77 : decode cX0_perform 77 = .ok (.ireturn, 1) := by decide +kernel
theorem dX0_perform_78 : decode cX0_perform 78 = .ok (.aload_n 0, 1) := by decide +kernel
theorem dX0_perform_79 : decode cX0_perform 79 = .ok (.iload_n 2, 1) := by decide +kernel
theorem dX0_perform_80 : decode cX0_perform 80 = .ok (.iload_n 3, 1) := by decide +kernel
theorem dX0_perform_81 : decode cX0_perform 81 = .ok (.iload 4, 2) := by decide +kernel
theorem dX0_perform_83 : decode cX0_perform 83 = .ok (.invokevirtual 32, 3) := by decide +kernel
theorem dX0_perform_86 : decode cX0_perform 86 = .ok (.ireturn, 1) := by decide +kernel
theorem dX0_perform_87 : decode cX0_perform 87 = .ok (.aload_n 0, 1) := by decide +kernel
theorem dX0_perform_88 : decode cX0_perform 88 = .ok (.iload_n 2, 1) := by decide +kernel
theorem dX0_perform_89 : decode cX0_perform 89 = .ok (.iload 4, 2) := by decide +kernel
theorem dX0_perform_91 : decode cX0_perform 91 = .ok (.invokevirtual 36, 3) := by decide +kernel
theorem dX0_perform_94 : decode cX0_perform 94 = .ok (.ireturn, 1) := by decide +kernel
theorem dX0_perform_95 : decode cX0_perform 95 = .ok (.aload_n 0, 1) := by decide +kernel
theorem dX0_perform_96 : decode cX0_perform 96 = .ok (.iload_n 2, 1) := by decide +kernel
theorem dX0_perform_97 : decode cX0_perform 97 = .ok (.iload 4, 2) := by decide +kernel
theorem dX0_perform_99 : decode cX0_perform 99 = .ok (.invokevirtual 40, 3) := by decide +kernel
theorem dX0_perform_102 : decode cX0_perform 102 = .ok (.ireturn, 1) := by decide +kernel
theorem dX0_perform_103 : decode cX0_perform 103 = .ok (.aload_n 0, 1) := by decide +kernel
theorem dX0_perform_104 : decode cX0_perform 104 = .ok (.iload_n 2, 1) := by decide +kernel
theorem dX0_perform_105 : decode cX0_perform 105 = .ok (.iload 4, 2) := by decide +kernel
theorem dX0_perform_107 : decode cX0_perform 107 = .ok (.invokevirtual 43, 3) := by decide +kernel
theorem dX0_perform_110 : decode cX0_perform 110 = .ok (.ireturn, 1) := by decide +kernel
theorem dX0_perform_111 : decode cX0_perform 111 = .ok (.aload_n 0, 1) := by decide +kernel
theorem dX0_perform_112 : decode cX0_perform 112 = .ok (.iload_n 2, 1) := by decide +kernel
theorem dX0_perform_113 : decode cX0_perform 113 = .ok (.iload_n 3, 1) := by decide +kernel
theorem dX0_perform_114 : decode cX0_perform 114 = .ok (.iload 4, 2) := by decide +kernel
theorem dX0_perform_116 : decode cX0_perform 116 = .ok (.invokevirtual 46, 3) := by decide +kernel
theorem dX0_perform_119 : decode cX0_perform 119 = .ok (.ireturn, 1) := by decide +kernel
theorem dX0_perform_120 : decode cX0_perform 120 = .ok (.aload_n 0, 1) := by decide +kernel
theorem dX0_perform_121 : decode cX0_perform 121 = .ok (.iload_n 2, 1) := by decide +kernel
theorem dX0_perform_122 : decode cX0_perform 122 = .ok (.iload_n 3, 1) := by decide +kernel
theorem dX0_perform_123 : decode cX0_perform 123 = .ok (.invokevirtual 49, 3) := by decide +kernel
theorem dX0_perform_126 : decode cX0_perform 126 = .ok (.ireturn, 1) := by decide +kernel
theorem dX0_perform_127 : decode cX0_perform 127 = .ok (.aload_n 0, 1) := by decide +kernel
theorem dX0_perform_128 : decode cX0_perform 128 = .ok (.getfield 11, 3) := by decide +kernel
theorem dX0_perform_131 : decode cX0_perform 131 = .ok (.iload_n 2, 1) := by decide +kernel
theorem dX0_perform_132 : decode cX0_perform 132 = .ok (.aload_n 0, 1) := by decide +kernel
theorem dX0_perform_133 : decode cX0_perform 133 = .ok (.getfield 11, 3) := by decide +kernel
theorem dX0_perform_136 : decode cX0_perform 136 = .ok (.iload_n 3, 1) := by decide +kernel
theorem dX0_perform_137 : decode cX0_perform 137 = .ok (.aaload, 1) := by decide +kernel
theorem dX0_perform_138 : decode cX0_perform 138 = .ok (.aastore, 1) := by decide +kernel
theorem dX0_perform_139 : decode cX0_perform 139 = .ok (.iconst 0, 1) := by decide +kernel
theorem dX0_perform_140 : decode cX0_perform 140 = .ok (.ireturn, 1) := by decide +kernel
theorem dX0_perform_141 : decode cX0_perform 141 = .ok (.aload_n 0, 1) := by decide +kernel
theorem dX0_perform_142 : decode cX0_perform 142 = .ok (.iload_n 2, 1) := by decide +kernel
theorem dX0_perform_143 : decode cX0_perform 143 = .ok (.iload_n 3, 1) := by decide +kernel
theorem dX0_perform_144 : decode cX0_perform 144 = .ok (.invokevirtual 52, 3) := by decide +kernel
theorem dX0_perform_147 : decode cX0_perform 147 = .ok (.ireturn, 1) := by decide +kernel
theorem dX0_perform_148 : decode cX0_perform 148 = .ok (.aload_n 0, 1) := by decide +kernel
theorem dX0_perform_149 : decode cX0_perform 149 = .ok (.iload_n 2, 1) := by decide +kernel
theorem dX0_perform_150 : decode cX0_perform 150 = .ok (.iload_n 3, 1) := by decide +kernel
theorem dX0_perform_151 : decode cX0_perform 151 = .ok (.invokevirtual 55, 3) := by decide +kernel
theorem dX0_perform_154 : decode cX0_perform 154 = .ok (.ireturn, 1) := by decide +kernel
theorem dX0_perform_155 : decode cX0_perform 155 = .ok (.aload_n 0, 1) := by decide +kernel
theorem dX0_perform_156 : decode cX0_perform 156 = .ok (.iload_n 2, 1) := by decide +kernel
theorem dX0_perform_157 : decode cX0_perform 157 = .ok (.iload 4, 2) := by decide +kernel
theorem dX0_perform_159 : decode cX0_perform 159 = .ok (.invokevirtual 58, 3) := by decide +kernel
theorem dX0_perform_162 : decode cX0_perform 162 = .ok (.ireturn, 1) := by decide +kernel
theorem dX0_perform_163 : decode cX0_perform 163 = .ok (.aload_n 0, 1) := by decide +kernel
theorem dX0_perform_164 : decode cX0_perform 164 = .ok (.iload_n 2, 1) := by decide +kernel
theorem dX0_perform_165 : decode cX0_perform 165 = .ok (.iload_n 3, 1) := by decide +kernel
theorem dX0_perform_166 : decode cX0_perform 166 = .ok (.invokevirtual 61, 3) := by decide +kernel
theorem dX0_perform_169 : decode cX0_perform 169 = .ok (.ireturn, 1) := by decide +kernel
theorem dX0_perform_170 : decode cX0_perform 170 = .ok (.aload_n 0, 1) := by decide +kernel
theorem dX0_perform_171 : decode cX0_perform 171 = .ok (.iload_n 2, 1) := by decide +kernel
theorem dX0_perform_172 : decode cX0_perform 172 = .ok (.iload_n 3, 1) := by decide +kernel
theorem dX0_perform_173 : decode cX0_perform 173 = .ok (.invokevirtual 64, 3) := by decide +kernel
theorem dX0_perform_176 : decode cX0_perform 176 = .ok (.ireturn, 1) := by decide +kernel
theorem dX0_perform_177 : decode cX0_perform 177 = .ok (.iconst 0, 1) := by decide +kernel
theorem dX0_perform_178 : decode cX0_perform 178 = .ok (.ireturn, 1) := by decide +kernel
theorem dX0_splice_0 : decode cX0_splice 0 = .ok (.aload_n 0, 1) := by decide +kernel
theorem dX0_splice_1 : decode cX0_splice 1 = .ok (.getfield 11, 3) := by decide +kernel
theorem dX0_splice_4 : decode cX0_splice 4 = .ok (.iload_n 1, 1) := by decide +kernel
theorem dX0_splice_5 : decode cX0_splice 5 = .ok (.aaload, 1) := by decide +kernel
theorem dX0_splice_6 : decode cX0_splice 6 = .ok (.ifnull 12, 3) := by decide +kernel
theorem dX0_splice_9 : decode cX0_splice 9 = .ok (.aload_n 0, 1) := by decide +kernel
theorem dX0_splice_10 : decode cX0_splice 10 = .ok (.getfield 11, 3) := by decide +kernel
theorem dX0_splice_13 : decode cX0_splice 13 = .ok (.iload_n 2, 1) := by decide +kernel
theorem dX0_splice_14 : decode cX0_splice 14 = .ok (.aaload, 1) := by decide +kernel
theorem dX0_splice_15 : decode cX0_splice 15 = .ok (.ifnonnull 5, 3) := by decide +kernel
theorem dX0_splice_18 : decode cX0_splice 18 = .ok (.iconst 1, 1) := by decide +kernel
theorem dX0_splice_19 : decode cX0_splice 19 = .ok (.ireturn, 1) := by decide +kernel
theorem dX0_splice_20 : decode cX0_splice 20 = .ok (.aload_n 0, 1) := by decide +kernel
theorem dX0_splice_21 : decode cX0_splice 21 = .ok (.getfield 11, 3) := by decide +kernel
theorem dX0_splice_24 : decode cX0_splice 24 = .ok (.iload_n 1, 1) := by decide +kernel
theorem dX0_splice_25 : decode cX0_splice 25 = .ok (.aaload, 1) := by decide +kernel
theorem dX0_splice_26 : decode cX0_splice 26 = .ok (.astore 6, 2) := by decide +kernel
theorem dX0_splice_28 : decode cX0_splice 28 = .ok (.aload 6, 2) := by decide +kernel
theorem dX0_splice_30 : decode cX0_splice 30 = .ok (.instanceof 67, 3) := by decide +kernel
theorem dX0_splice_33 : decode cX0_splice 33 = .ok (.ifCond .eq 43, 3) := by decide +kernel
theorem dX0_splice_36 : decode cX0_splice 36 = .ok (.aload 6, 2) := by decide +kernel
theorem dX0_splice_38 : decode cX0_splice 38 = .ok (.checkcast 67, 3) := by decide +kernel
theorem dX0_splice_41 : decode cX0_splice 41 = .ok (.astore 4, 2) := by decide +kernel
theorem dX0_splice_43 : decode cX0_splice 43 = .ok (.aload_n 0, 1) := by decide +kernel
theorem dX0_splice_44 : decode cX0_splice 44 = .ok (.getfield 11, 3) := by decide +kernel
theorem dX0_splice_47 : decode cX0_splice 47 = .ok (.iload_n 2, 1) := by decide +kernel
theorem dX0_splice_48 : decode cX0_splice 48 = .ok (.aaload, 1) := by decide +kernel
theorem dX0_splice_49 : decode cX0_splice 49 = .ok (.astore 6, 2) := by decide +kernel
theorem dX0_splice_51 : decode cX0_splice 51 = .ok (.aload 6, 2) := by decide +kernel
theorem dX0_splice_53 : decode cX0_splice 53 = .ok (.instanceof 67, 3) := by decide +kernel
theorem dX0_splice_56 : decode cX0_splice 56 = .ok (.ifCond .eq 20, 3) := by decide +kernel
theorem dX0_splice_59 : decode cX0_splice 59 = .ok (.aload 6, 2) := by decide +kernel
theorem dX0_splice_61 : decode cX0_splice 61 = .ok (.checkcast 67, 3) := by decide +kernel
theorem dX0_splice_64 : decode cX0_splice 64 = .ok (.astore 5, 2) := by decide +kernel
theorem dX0_splice_66 : decode cX0_splice 66 = .ok (.aload 4, 2) := by decide +kernel
theorem dX0_splice_68 : decode cX0_splice 68 = .ok (.aload 5, 2) := by decide +kernel
theorem dX0_splice_70 : decode cX0_splice 70 = .ok (.invokevirtual 69, 3) := by decide +kernel
theorem dX0_splice_73 : decode cX0_splice 73 = .ok (.ifCond .ne 5, 3) := by decide +kernel
theorem dX0_splice_76 : decode cX0_splice 76 = .ok (.iconst 2, 1) := by decide +kernel
theorem dX0_splice_77 : decode cX0_splice 77 = .ok (.ireturn, 1) := by decide +kernel
theorem dX0_splice_78 : decode cX0_splice 78 = .ok (.aload 4, 2) := by decide +kernel
theorem dX0_splice_80 : decode cX0_splice 80 = .ok (.aload_n 0, 1) := by decide +kernel
theorem dX0_splice_81 : decode cX0_splice 81 = .ok (.getfield 17, 3) := by decide +kernel
theorem dX0_splice_84 : decode cX0_splice 84 = .ok (.iload_n 1, 1) := by decide +kernel
theorem dX0_splice_85 : decode cX0_splice 85 = .ok (.iaload, 1) := by decide +kernel
theorem dX0_splice_86 : decode cX0_splice 86 = .ok (.iload_n 3, 1) := by decide +kernel
theorem dX0_splice_87 : decode cX0_splice 87 = .ok (.invokevirtual 73, 3) := by decide +kernel
theorem dX0_splice_90 : decode cX0_splice 90 = .ok (.ifCond .eq 18, 3) := by decide +kernel
theorem dX0_splice_93 : decode cX0_splice 93 = .ok (.aload 5, 2) := by decide +kernel
theorem dX0_splice_95 : decode cX0_splice 95 = .ok (.aload_n 0, 1) := by decide +kernel
theorem dX0_splice_96 : decode cX0_splice 96 = .ok (.getfield 17, 3) := by decide +kernel
theorem dX0_splice_99 : decode cX0_splice 99 = .ok (.iload_n 2, 1) := by decide +kernel
theorem dX0_splice_100 : decode cX0_splice 100 = .ok (.iaload, 1) := by decide +kernel
theorem dX0_splice_101 : decode cX0_splice 101 = .ok (.iload_n 3, 1) := by decide +kernel
theorem dX0_splice_102 : decode cX0_splice 102 = .ok (.invokevirtual 73, 3) := by decide +kernel
theorem dX0_splice_105 : decode cX0_splice 105 = .ok (.ifCond .ne 5, 3) := by decide +kernel
theorem dX0_splice_108 : decode cX0_splice 108 = .ok (.iconst 3, 1) := by decide +kernel
theorem dX0_splice_109 : decode cX0_splice 109 = .ok (.ireturn, 1) := by decide +kernel
theorem dX0_splice_110 : decode cX0_splice 110 = .ok (.aload_n 0, 1) := by decide +kernel
theorem dX0_splice_111 : decode cX0_splice 111 = .ok (.aload 4, 2) := by decide +kernel
theorem dX0_splice_113 : decode cX0_splice 113 = .ok (.aload_n 0, 1) := by decide +kernel
theorem dX0_splice_114 : decode cX0_splice 114 = .ok (.getfield 17, 3) := by decide +kernel
theorem dX0_splice_117 : decode cX0_splice 117 = .ok (.iload_n 1, 1) := by decide +kernel
theorem dX0_splice_118 : decode cX0_splice 118 = .ok (.iaload, 1) := by decide +kernel
theorem dX0_splice_119 : decode cX0_splice 119 = .ok (.aload 5, 2) := by decide +kernel
theorem dX0_splice_121 : decode cX0_splice 121 = .ok (.iload_n 3, 1) := by decide +kernel
theorem dX0_splice_122 : decode cX0_splice 122 = .ok (.invokevirtual 77, 3) := by decide +kernel
theorem dX0_splice_125 : decode cX0_splice 125 = .ok (.istore 6, 2) := by decide +kernel
theorem dX0_splice_127 : decode cX0_splice 127 = .ok (.aload 4, 2) := by decide +kernel
theorem dX0_splice_129 : decode cX0_splice 129 = .ok (.getfield 81, 3) := by decide +kernel
theorem dX0_splice_132 : decode cX0_splice 132 = .ok (.aload_n 0, 1) := by decide +kernel
theorem dX0_splice_133 : decode cX0_splice 133 = .ok (.getfield 17, 3) := by decide +kernel
theorem dX0_splice_136 : decode cX0_splice 136 = .ok (.iload_n 1, 1) := by decide +kernel
theorem dX0_splice_137 : decode cX0_splice 137 = .ok (.iaload, 1) := by decide +kernel
theorem dX0_splice_138 : decode cX0_splice 138 = .ok (.aload 5, 2) := by decide +kernel
theorem dX0_splice_140 : decode cX0_splice 140 = .ok (.getfield 81, 3) := by decide +kernel
theorem dX0_splice_143 : decode cX0_splice 143 = .ok (.aload_n 0, 1) := by decide +kernel
theorem dX0_splice_144 : decode cX0_splice 144 = .ok (.getfield 17, 3) := by decide +kernel
theorem dX0_splice_147 : decode cX0_splice 147 = .ok (.iload_n 2, 1) := by decide +kernel
theorem dX0_splice_148 : decode cX0_splice 148 = .ok (.iaload, 1) := by decide +kernel
theorem dX0_splice_149 : decode cX0_splice 149 = .ok (.iload 6, 2) := by decide +kernel
theorem dX0_splice_151 : decode cX0_splice 151 = .ok (.invokestatic 84, 3) := by decide +kernel
theorem dX0_splice_154 : decode cX0_splice 154 = .ok (.iload 6, 2) := by decide +kernel
theorem dX0_splice_156 : decode cX0_splice 156 = .ok (.iload_n 3, 1) := by decide +kernel
theorem dX0_splice_157 : decode cX0_splice 157 = .ok (.if_icmp .ne 7, 3) := by decide +kernel
theorem dX0_splice_160 : decode cX0_splice 160 = .ok (.iconst 0, 1) := by decide +kernel
theorem dX0_splice_161 : decode cX0_splice 161 = .ok (.goto 4, 3) := by decide +kernel
theorem dX0_splice_164 : decode cX0_splice 164 = .ok (.iconst 2, 1) := by decide +kernel
theorem dX0_splice_165 : decode cX0_splice 165 = .ok (.ireturn, 1) := by decide +kernel
theorem dX0_howManyFit_0 : decode cX0_howManyFit 0 = .ok (.aload_n 3, 1) := by decide +kernel
theorem dX0_howManyFit_1 : decode cX0_howManyFit 1 = .ok (.invokevirtual 90, 3) := by decide +kernel
theorem dX0_howManyFit_4 : decode cX0_howManyFit 4 = .ok (.ifCond .ne 6, 3) := by decide +kernel
theorem dX0_howManyFit_7 : decode cX0_howManyFit 7 = .ok (.iload 4, 2) := by decide +kernel
theorem dX0_howManyFit_9 : decode cX0_howManyFit 9 = .ok (.ireturn, 1) := by decide +kernel
theorem dX0_howManyFit_10 : decode cX0_howManyFit 10 = .ok (.iconst 0, 1) := by decide +kernel
theorem dX0_howManyFit_11 : decode cX0_howManyFit 11 = .ok (.istore 5, 2) := by decide +kernel
theorem dX0_howManyFit_13 : decode cX0_howManyFit 13 = .ok (.iload 5, 2) := by decide +kernel
theorem dX0_howManyFit_15 : decode cX0_howManyFit 15 = .ok (.iload 4, 2) := by decide +kernel
theorem dX0_howManyFit_17 : decode cX0_howManyFit 17 = .ok (.if_icmp .ge 35, 3) := by decide +kernel
theorem dX0_howManyFit_20 : decode cX0_howManyFit 20 = .ok (.aload_n 3, 1) := by decide +kernel
theorem dX0_howManyFit_21 : decode cX0_howManyFit 21 = .ok (.aload_n 0, 1) := by decide +kernel
theorem dX0_howManyFit_22 : decode cX0_howManyFit 22 = .ok (.getfield 28, 3) := by decide +kernel
theorem dX0_howManyFit_25 : decode cX0_howManyFit 25 = .ok (.aload_n 1, 1) := by decide +kernel
theorem dX0_howManyFit_26 : decode cX0_howManyFit 26 = .ok (.getfield 81, 3) := by decide +kernel
theorem dX0_howManyFit_29 : decode cX0_howManyFit 29 = .ok (.iload_n 2, 1) := by decide +kernel
theorem dX0_howManyFit_30 : decode cX0_howManyFit 30 = .ok (.iload 5, 2) := by decide +kernel
theorem dX0_howManyFit_32 : decode cX0_howManyFit 32 = .ok (.iadd, 1) := by decide +kernel
theorem dX0_howManyFit_33 : decode cX0_howManyFit 33 = .ok (.laload, 1) := by decide +kernel
theorem dX0_howManyFit_34 : decode cX0_howManyFit 34 = .ok (.invokevirtual 94, 3) := by decide +kernel
theorem dX0_howManyFit_37 : decode cX0_howManyFit 37 = .ok (.invokevirtual 98, 3) := by decide +kernel
theorem dX0_howManyFit_40 : decode cX0_howManyFit 40 = .ok (.ifCond .ne 6, 3) := by decide +kernel
theorem dX0_howManyFit_43 : decode cX0_howManyFit 43 = .ok (.iload 5, 2) := by decide +kernel
theorem dX0_howManyFit_45 : decode cX0_howManyFit 45 = .ok (.ireturn, 1) := by decide +kernel
theorem dX0_howManyFit_46 : decode cX0_howManyFit 46 = .ok (.iinc 5 1, 3) := by decide +kernel
theorem dX0_howManyFit_49 : decode cX0_howManyFit 49 = .ok (.goto (-36), 3) := by decide +kernel
theorem dX0_howManyFit_52 : decode cX0_howManyFit 52 = .ok (.iload 4, 2) := by decide +kernel
theorem dX0_howManyFit_54 : decode cX0_howManyFit 54 = .ok (.ireturn, 1) := by decide +kernel
theorem dX0_turn_0 : decode cX0_turn 0 = .ok (.aload_n 0, 1) := by decide +kernel
theorem dX0_turn_1 : decode cX0_turn 1 = .ok (.getfield 11, 3) := by decide +kernel
theorem dX0_turn_4 : decode cX0_turn 4 = .ok (.iload_n 1, 1) := by decide +kernel
theorem dX0_turn_5 : decode cX0_turn 5 = .ok (.aaload, 1) := by decide +kernel
theorem dX0_turn_6 : decode cX0_turn 6 = .ok (.ifnonnull 5, 3) := by decide +kernel
theorem dX0_turn_9 : decode cX0_turn 9 = .ok (.iconst 1, 1) := by decide +kernel
theorem dX0_turn_10 : decode cX0_turn 10 = .ok (.ireturn, 1) := by decide +kernel
theorem dX0_turn_11 : decode cX0_turn 11 = .ok (.aload_n 0, 1) := by decide +kernel
theorem dX0_turn_12 : decode cX0_turn 12 = .ok (.getfield 11, 3) := by decide +kernel
theorem dX0_turn_15 : decode cX0_turn 15 = .ok (.iload_n 1, 1) := by decide +kernel
theorem dX0_turn_16 : decode cX0_turn 16 = .ok (.aaload, 1) := by decide +kernel
theorem dX0_turn_17 : decode cX0_turn 17 = .ok (.astore 4, 2) := by decide +kernel
theorem dX0_turn_19 : decode cX0_turn 19 = .ok (.aload 4, 2) := by decide +kernel
theorem dX0_turn_21 : decode cX0_turn 21 = .ok (.instanceof 67, 3) := by decide +kernel
theorem dX0_turn_24 : decode cX0_turn 24 = .ok (.ifCond .eq 12, 3) := by decide +kernel
theorem dX0_turn_27 : decode cX0_turn 27 = .ok (.aload 4, 2) := by decide +kernel
theorem dX0_turn_29 : decode cX0_turn 29 = .ok (.checkcast 67, 3) := by decide +kernel
theorem dX0_turn_32 : decode cX0_turn 32 = .ok (.astore_n 3, 1) := by decide +kernel
theorem dX0_turn_33 : decode cX0_turn 33 = .ok (.goto 5, 3) := by decide +kernel
theorem dX0_turn_36 : decode cX0_turn 36 = .ok (.iconst 2, 1) := by decide +kernel
theorem dX0_turn_37 : decode cX0_turn 37 = .ok (.ireturn, 1) := by decide +kernel
theorem dX0_turn_38 : decode cX0_turn 38 = .ok (.aload_n 3, 1) := by decide +kernel
theorem dX0_turn_39 : decode cX0_turn 39 = .ok (.iload_n 2, 1) := by decide +kernel
theorem dX0_turn_40 : decode cX0_turn 40 = .ok (.aload_n 0, 1) := by decide +kernel
theorem dX0_turn_41 : decode cX0_turn 41 = .ok (.getfield 21, 3) := by decide +kernel
theorem dX0_turn_44 : decode cX0_turn 44 = .ok (.invokevirtual 102, 3) := by decide +kernel
theorem dX0_turn_47 : decode cX0_turn 47 = .ok (.iconst 0, 1) := by decide +kernel
theorem dX0_turn_48 : decode cX0_turn 48 = .ok (.ireturn, 1) := by decide +kernel
theorem dX0_open_0 : decode cX0_open 0 = .ok (.aload_n 0, 1) := by decide +kernel
theorem dX0_open_1 : decode cX0_open 1 = .ok (.iload_n 1, 1) := by decide +kernel
theorem dX0_open_2 : decode cX0_open 2 = .ok (.iload_n 2, 1) := by decide +kernel
theorem dX0_open_3 : decode cX0_open 3 = .ok (.invokevirtual 105, 3) := by decide +kernel
theorem dX0_open_6 : decode cX0_open 6 = .ok (.istore_n 3, 1) := by decide +kernel
theorem dX0_open_7 : decode cX0_open 7 = .ok (.iload_n 3, 1) := by decide +kernel
theorem dX0_open_8 : decode cX0_open 8 = .ok (.ifCond .ne 38, 3) := by decide +kernel
theorem dX0_open_11 : decode cX0_open 11 = .ok (.aload_n 0, 1) := by decide +kernel
theorem dX0_open_12 : decode cX0_open 12 = .ok (.getfield 11, 3) := by decide +kernel
theorem dX0_open_15 : decode cX0_open 15 = .ok (.iload_n 1, 1) := by decide +kernel
theorem dX0_open_16 : decode cX0_open 16 = .ok (.aaload, 1) := by decide +kernel
theorem dX0_open_17 : decode cX0_open 17 = .ok (.astore 5, 2) := by decide +kernel
theorem dX0_open_19 : decode cX0_open 19 = .ok (.aload 5, 2) := by decide +kernel
theorem dX0_open_21 : decode cX0_open 21 = .ok (.instanceof 67, 3) := by decide +kernel
theorem dX0_open_24 : decode cX0_open 24 = .ok (.ifCond .eq 22, 3) := by decide +kernel
theorem dX0_open_27 : decode cX0_open 27 = .ok (.aload 5, 2) := by decide +kernel
theorem dX0_open_29 : decode cX0_open 29 = .ok (.checkcast 67, 3) := by decide +kernel
theorem dX0_open_32 : decode cX0_open 32 = .ok (.astore 4, 2) := by decide +kernel
theorem dX0_open_34 : decode cX0_open 34 = .ok (.aload 4, 2) := by decide +kernel
theorem dX0_open_36 : decode cX0_open 36 = .ok (.aload_n 0, 1) := by decide +kernel
theorem dX0_open_37 : decode cX0_open 37 = .ok (.getfield 17, 3) := by decide +kernel
theorem dX0_open_40 : decode cX0_open 40 = .ok (.iload_n 1, 1) := by decide +kernel
theorem dX0_open_41 : decode cX0_open 41 = .ok (.iaload, 1) := by decide +kernel
theorem dX0_open_42 : decode cX0_open 42 = .ok (.iload_n 2, 1) := by decide +kernel
theorem dX0_open_43 : decode cX0_open 43 = .ok (.invokevirtual 108, 3) := by decide +kernel
theorem dX0_open_46 : decode cX0_open 46 = .ok (.iload_n 3, 1) := by decide +kernel
theorem dX0_open_47 : decode cX0_open 47 = .ok (.ireturn, 1) := by decide +kernel
theorem dX0_shut_0 : decode cX0_shut 0 = .ok (.aload_n 0, 1) := by decide +kernel
theorem dX0_shut_1 : decode cX0_shut 1 = .ok (.iload_n 1, 1) := by decide +kernel
theorem dX0_shut_2 : decode cX0_shut 2 = .ok (.iload_n 2, 1) := by decide +kernel
theorem dX0_shut_3 : decode cX0_shut 3 = .ok (.invokevirtual 105, 3) := by decide +kernel
theorem dX0_shut_6 : decode cX0_shut 6 = .ok (.istore_n 3, 1) := by decide +kernel
theorem dX0_shut_7 : decode cX0_shut 7 = .ok (.iload_n 3, 1) := by decide +kernel
theorem dX0_shut_8 : decode cX0_shut 8 = .ok (.ifCond .ne 38, 3) := by decide +kernel
theorem dX0_shut_11 : decode cX0_shut 11 = .ok (.aload_n 0, 1) := by decide +kernel
theorem dX0_shut_12 : decode cX0_shut 12 = .ok (.getfield 11, 3) := by decide +kernel
theorem dX0_shut_15 : decode cX0_shut 15 = .ok (.iload_n 1, 1) := by decide +kernel
theorem dX0_shut_16 : decode cX0_shut 16 = .ok (.aaload, 1) := by decide +kernel
theorem dX0_shut_17 : decode cX0_shut 17 = .ok (.astore 5, 2) := by decide +kernel
theorem dX0_shut_19 : decode cX0_shut 19 = .ok (.aload 5, 2) := by decide +kernel
theorem dX0_shut_21 : decode cX0_shut 21 = .ok (.instanceof 67, 3) := by decide +kernel
theorem dX0_shut_24 : decode cX0_shut 24 = .ok (.ifCond .eq 22, 3) := by decide +kernel
theorem dX0_shut_27 : decode cX0_shut 27 = .ok (.aload 5, 2) := by decide +kernel
theorem dX0_shut_29 : decode cX0_shut 29 = .ok (.checkcast 67, 3) := by decide +kernel
theorem dX0_shut_32 : decode cX0_shut 32 = .ok (.astore 4, 2) := by decide +kernel
theorem dX0_shut_34 : decode cX0_shut 34 = .ok (.aload 4, 2) := by decide +kernel
theorem dX0_shut_36 : decode cX0_shut 36 = .ok (.aload_n 0, 1) := by decide +kernel
theorem dX0_shut_37 : decode cX0_shut 37 = .ok (.getfield 17, 3) := by decide +kernel
theorem dX0_shut_40 : decode cX0_shut 40 = .ok (.iload_n 1, 1) := by decide +kernel
theorem dX0_shut_41 : decode cX0_shut 41 = .ok (.iaload, 1) := by decide +kernel
theorem dX0_shut_42 : decode cX0_shut 42 = .ok (.iload_n 2, 1) := by decide +kernel
theorem dX0_shut_43 : decode cX0_shut 43 = .ok (.invokevirtual 111, 3) := by decide +kernel
theorem dX0_shut_46 : decode cX0_shut 46 = .ok (.iload_n 3, 1) := by decide +kernel
theorem dX0_shut_47 : decode cX0_shut 47 = .ok (.ireturn, 1) := by decide +kernel
theorem dX0_refusalOfPlaces_0 : decode cX0_refusalOfPlaces 0 = .ok (.aload_n 0, 1) := by decide +kernel
theorem dX0_refusalOfPlaces_1 : decode cX0_refusalOfPlaces 1 = .ok (.getfield 11, 3) := by decide +kernel
theorem dX0_refusalOfPlaces_4 : decode cX0_refusalOfPlaces 4 = .ok (.iload_n 1, 1) := by decide +kernel
theorem dX0_refusalOfPlaces_5 : decode cX0_refusalOfPlaces 5 = .ok (.aaload, 1) := by decide +kernel
theorem dX0_refusalOfPlaces_6 : decode cX0_refusalOfPlaces 6 = .ok (.ifnonnull 5, 3) := by decide +kernel
theorem dX0_refusalOfPlaces_9 : decode cX0_refusalOfPlaces 9 = .ok (.iconst 1, 1) := by decide +kernel
theorem dX0_refusalOfPlaces_10 : decode cX0_refusalOfPlaces 10 = .ok (.ireturn, 1) := by decide +kernel
theorem dX0_refusalOfPlaces_11 : decode cX0_refusalOfPlaces 11 = .ok (.aload_n 0, 1) := by decide +kernel
theorem dX0_refusalOfPlaces_12 : decode cX0_refusalOfPlaces 12 = .ok (.getfield 11, 3) := by decide +kernel
theorem dX0_refusalOfPlaces_15 : decode cX0_refusalOfPlaces 15 = .ok (.iload_n 1, 1) := by decide +kernel
theorem dX0_refusalOfPlaces_16 : decode cX0_refusalOfPlaces 16 = .ok (.aaload, 1) := by decide +kernel
theorem dX0_refusalOfPlaces_17 : decode cX0_refusalOfPlaces 17 = .ok (.astore 4, 2) := by decide +kernel
theorem dX0_refusalOfPlaces_19 : decode cX0_refusalOfPlaces 19 = .ok (.aload 4, 2) := by decide +kernel
theorem dX0_refusalOfPlaces_21 : decode cX0_refusalOfPlaces 21 = .ok (.instanceof 67, 3) := by decide +kernel
theorem dX0_refusalOfPlaces_24 : decode cX0_refusalOfPlaces 24 = .ok (.ifCond .eq 12, 3) := by decide +kernel
theorem dX0_refusalOfPlaces_27 : decode cX0_refusalOfPlaces 27 = .ok (.aload 4, 2) := by decide +kernel
theorem dX0_refusalOfPlaces_29 : decode cX0_refusalOfPlaces 29 = .ok (.checkcast 67, 3) := by decide +kernel
theorem dX0_refusalOfPlaces_32 : decode cX0_refusalOfPlaces 32 = .ok (.astore_n 3, 1) := by decide +kernel
theorem dX0_refusalOfPlaces_33 : decode cX0_refusalOfPlaces 33 = .ok (.goto 5, 3) := by decide +kernel
theorem dX0_refusalOfPlaces_36 : decode cX0_refusalOfPlaces 36 = .ok (.iconst 2, 1) := by decide +kernel
theorem dX0_refusalOfPlaces_37 : decode cX0_refusalOfPlaces 37 = .ok (.ireturn, 1) := by decide +kernel
theorem dX0_refusalOfPlaces_38 : decode cX0_refusalOfPlaces 38 = .ok (.aload_n 3, 1) := by decide +kernel
theorem dX0_refusalOfPlaces_39 : decode cX0_refusalOfPlaces 39 = .ok (.aload_n 0, 1) := by decide +kernel
theorem dX0_refusalOfPlaces_40 : decode cX0_refusalOfPlaces 40 = .ok (.getfield 17, 3) := by decide +kernel
theorem dX0_refusalOfPlaces_43 : decode cX0_refusalOfPlaces 43 = .ok (.iload_n 1, 1) := by decide +kernel
theorem dX0_refusalOfPlaces_44 : decode cX0_refusalOfPlaces 44 = .ok (.iaload, 1) := by decide +kernel
theorem dX0_refusalOfPlaces_45 : decode cX0_refusalOfPlaces 45 = .ok (.iload_n 2, 1) := by decide +kernel
theorem dX0_refusalOfPlaces_46 : decode cX0_refusalOfPlaces 46 = .ok (.invokevirtual 73, 3) := by decide +kernel
theorem dX0_refusalOfPlaces_49 : decode cX0_refusalOfPlaces 49 = .ok (.ifCond .eq 7, 3) := by decide +kernel
theorem dX0_refusalOfPlaces_52 : decode cX0_refusalOfPlaces 52 = .ok (.iconst 0, 1) := by decide +kernel
theorem dX0_refusalOfPlaces_53 : decode cX0_refusalOfPlaces 53 = .ok (.goto 4, 3) := by decide +kernel
theorem dX0_refusalOfPlaces_56 : decode cX0_refusalOfPlaces 56 = .ok (.iconst 3, 1) := by decide +kernel
theorem dX0_refusalOfPlaces_57 : decode cX0_refusalOfPlaces 57 = .ok (.ireturn, 1) := by decide +kernel
theorem dX0_make_0 : decode cX0_make 0 = .ok (.iload_n 3, 1) := by decide +kernel
theorem dX0_make_1 : decode cX0_make 1 = .ok (.ifCond .ge 5, 3) := by decide +kernel
theorem dX0_make_4 : decode cX0_make 4 = .ok (.iconst 5, 1) := by decide +kernel
theorem dX0_make_5 : decode cX0_make 5 = .ok (.ireturn, 1) := by decide +kernel
theorem dX0_make_6 : decode cX0_make 6 = .ok (.aload_n 0, 1) := by decide +kernel
theorem dX0_make_7 : decode cX0_make 7 = .ok (.getfield 28, 3) := by decide +kernel
theorem dX0_make_10 : decode cX0_make 10 = .ok (.iload_n 3, 1) := by decide +kernel
theorem dX0_make_11 : decode cX0_make 11 = .ok (.invokevirtual 113, 3) := by decide +kernel
theorem dX0_make_14 : decode cX0_make 14 = .ok (.ifCond .ne 5, 3) := by decide +kernel
theorem dX0_make_17 : decode cX0_make 17 = .ok (.iconst 4, 1) := by decide +kernel
theorem dX0_make_18 : decode cX0_make 18 = .ok (.ireturn, 1) := by decide +kernel
theorem dX0_make_19 : decode cX0_make 19 = .ok (.aload_n 0, 1) := by decide +kernel
theorem dX0_make_20 : decode cX0_make 20 = .ok (.getfield 11, 3) := by decide +kernel
theorem dX0_make_23 : decode cX0_make 23 = .ok (.iload_n 1, 1) := by decide +kernel
theorem dX0_make_24 : decode cX0_make 24 = .ok (.aload_n 0, 1) := by decide +kernel
theorem dX0_make_25 : decode cX0_make 25 = .ok (.getfield 28, 3) := by decide +kernel
theorem dX0_make_28 : decode cX0_make 28 = .ok (.iload_n 2, 1) := by decide +kernel
theorem dX0_make_29 : decode cX0_make 29 = .ok (.iload_n 3, 1) := by decide +kernel
theorem dX0_make_30 : decode cX0_make 30 = .ok (.invokevirtual 116, 3) := by decide +kernel
theorem dX0_make_33 : decode cX0_make 33 = .ok (.aastore, 1) := by decide +kernel
theorem dX0_make_34 : decode cX0_make 34 = .ok (.iconst 0, 1) := by decide +kernel
theorem dX0_make_35 : decode cX0_make 35 = .ok (.ireturn, 1) := by decide +kernel
theorem dX0_twin_0 : decode cX0_twin 0 = .ok (.aload_n 0, 1) := by decide +kernel
theorem dX0_twin_1 : decode cX0_twin 1 = .ok (.getfield 11, 3) := by decide +kernel
theorem dX0_twin_4 : decode cX0_twin 4 = .ok (.iload_n 2, 1) := by decide +kernel
theorem dX0_twin_5 : decode cX0_twin 5 = .ok (.aaload, 1) := by decide +kernel
theorem dX0_twin_6 : decode cX0_twin 6 = .ok (.ifnonnull 5, 3) := by decide +kernel
theorem dX0_twin_9 : decode cX0_twin 9 = .ok (.iconst 1, 1) := by decide +kernel
theorem dX0_twin_10 : decode cX0_twin 10 = .ok (.ireturn, 1) := by decide +kernel
theorem dX0_twin_11 : decode cX0_twin 11 = .ok (.aload_n 0, 1) := by decide +kernel
theorem dX0_twin_12 : decode cX0_twin 12 = .ok (.getfield 11, 3) := by decide +kernel
theorem dX0_twin_15 : decode cX0_twin 15 = .ok (.iload_n 2, 1) := by decide +kernel
theorem dX0_twin_16 : decode cX0_twin 16 = .ok (.aaload, 1) := by decide +kernel
theorem dX0_twin_17 : decode cX0_twin 17 = .ok (.astore 4, 2) := by decide +kernel
theorem dX0_twin_19 : decode cX0_twin 19 = .ok (.aload 4, 2) := by decide +kernel
theorem dX0_twin_21 : decode cX0_twin 21 = .ok (.instanceof 67, 3) := by decide +kernel
theorem dX0_twin_24 : decode cX0_twin 24 = .ok (.ifCond .eq 12, 3) := by decide +kernel
theorem dX0_twin_27 : decode cX0_twin 27 = .ok (.aload 4, 2) := by decide +kernel
theorem dX0_twin_29 : decode cX0_twin 29 = .ok (.checkcast 67, 3) := by decide +kernel
theorem dX0_twin_32 : decode cX0_twin 32 = .ok (.astore_n 3, 1) := by decide +kernel
theorem dX0_twin_33 : decode cX0_twin 33 = .ok (.goto 5, 3) := by decide +kernel
theorem dX0_twin_36 : decode cX0_twin 36 = .ok (.iconst 2, 1) := by decide +kernel
theorem dX0_twin_37 : decode cX0_twin 37 = .ok (.ireturn, 1) := by decide +kernel
theorem dX0_twin_38 : decode cX0_twin 38 = .ok (.aload_n 0, 1) := by decide +kernel
theorem dX0_twin_39 : decode cX0_twin 39 = .ok (.getfield 28, 3) := by decide +kernel
theorem dX0_twin_42 : decode cX0_twin 42 = .ok (.aload_n 3, 1) := by decide +kernel
theorem dX0_twin_43 : decode cX0_twin 43 = .ok (.getfield 81, 3) := by decide +kernel
theorem dX0_twin_46 : decode cX0_twin 46 = .ok (.arraylength, 1) := by decide +kernel
theorem dX0_twin_47 : decode cX0_twin 47 = .ok (.invokevirtual 113, 3) := by decide +kernel
theorem dX0_twin_50 : decode cX0_twin 50 = .ok (.ifCond .ne 5, 3) := by decide +kernel
theorem dX0_twin_53 : decode cX0_twin 53 = .ok (.iconst 4, 1) := by decide +kernel
theorem dX0_twin_54 : decode cX0_twin 54 = .ok (.ireturn, 1) := by decide +kernel
theorem dX0_twin_55 : decode cX0_twin 55 = .ok (.aload_n 0, 1) := by decide +kernel
theorem dX0_twin_56 : decode cX0_twin 56 = .ok (.getfield 28, 3) := by decide +kernel
theorem dX0_twin_59 : decode cX0_twin 59 = .ok (.aload_n 3, 1) := by decide +kernel
theorem dX0_twin_60 : decode cX0_twin 60 = .ok (.getfield 120, 3) := by decide +kernel
theorem dX0_twin_63 : decode cX0_twin 63 = .ok (.aload_n 3, 1) := by decide +kernel
theorem dX0_twin_64 : decode cX0_twin 64 = .ok (.getfield 81, 3) := by decide +kernel
theorem dX0_twin_67 : decode cX0_twin 67 = .ok (.arraylength, 1) := by decide +kernel
theorem dX0_twin_68 : decode cX0_twin 68 = .ok (.invokevirtual 116, 3) := by decide +kernel
theorem dX0_twin_71 : decode cX0_twin 71 = .ok (.astore 4, 2) := by decide +kernel
theorem dX0_twin_73 : decode cX0_twin 73 = .ok (.aload_n 3, 1) := by decide +kernel
theorem dX0_twin_74 : decode cX0_twin 74 = .ok (.aload 4, 2) := by decide +kernel
theorem dX0_twin_76 : decode cX0_twin 76 = .ok (.getfield 81, 3) := by decide +kernel
theorem dX0_twin_79 : decode cX0_twin 79 = .ok (.invokevirtual 124, 3) := by decide +kernel
theorem dX0_twin_82 : decode cX0_twin 82 = .ok (.aload_n 0, 1) := by decide +kernel
theorem dX0_twin_83 : decode cX0_twin 83 = .ok (.getfield 11, 3) := by decide +kernel
theorem dX0_twin_86 : decode cX0_twin 86 = .ok (.iload_n 1, 1) := by decide +kernel
theorem dX0_twin_87 : decode cX0_twin 87 = .ok (.aload 4, 2) := by decide +kernel
theorem dX0_twin_89 : decode cX0_twin 89 = .ok (.aastore, 1) := by decide +kernel
theorem dX0_twin_90 : decode cX0_twin 90 = .ok (.iconst 0, 1) := by decide +kernel
theorem dX0_twin_91 : decode cX0_twin 91 = .ok (.ireturn, 1) := by decide +kernel
theorem dX0_swap_0 : decode cX0_swap 0 = .ok (.aload_n 0, 1) := by decide +kernel
theorem dX0_swap_1 : decode cX0_swap 1 = .ok (.getfield 11, 3) := by decide +kernel
theorem dX0_swap_4 : decode cX0_swap 4 = .ok (.iload_n 1, 1) := by decide +kernel
theorem dX0_swap_5 : decode cX0_swap 5 = .ok (.aaload, 1) := by decide +kernel
theorem dX0_swap_6 : decode cX0_swap 6 = .ok (.astore_n 3, 1) := by decide +kernel
theorem dX0_swap_7 : decode cX0_swap 7 = .ok (.aload_n 0, 1) := by decide +kernel
theorem dX0_swap_8 : decode cX0_swap 8 = .ok (.getfield 11, 3) := by decide +kernel
theorem dX0_swap_11 : decode cX0_swap 11 = .ok (.iload_n 1, 1) := by decide +kernel
theorem dX0_swap_12 : decode cX0_swap 12 = .ok (.aload_n 0, 1) := by decide +kernel
theorem dX0_swap_13 : decode cX0_swap 13 = .ok (.getfield 11, 3) := by decide +kernel
theorem dX0_swap_16 : decode cX0_swap 16 = .ok (.iload_n 2, 1) := by decide +kernel
theorem dX0_swap_17 : decode cX0_swap 17 = .ok (.aaload, 1) := by decide +kernel
theorem dX0_swap_18 : decode cX0_swap 18 = .ok (.aastore, 1) := by decide +kernel
theorem dX0_swap_19 : decode cX0_swap 19 = .ok (.aload_n 0, 1) := by decide +kernel
theorem dX0_swap_20 : decode cX0_swap 20 = .ok (.getfield 11, 3) := by decide +kernel
theorem dX0_swap_23 : decode cX0_swap 23 = .ok (.iload_n 2, 1) := by decide +kernel
theorem dX0_swap_24 : decode cX0_swap 24 = .ok (.aload_n 3, 1) := by decide +kernel
theorem dX0_swap_25 : decode cX0_swap 25 = .ok (.aastore, 1) := by decide +kernel
theorem dX0_swap_26 : decode cX0_swap 26 = .ok (.iconst 0, 1) := by decide +kernel
theorem dX0_swap_27 : decode cX0_swap 27 = .ok (.ireturn, 1) := by decide +kernel
theorem dX0_hang_0 : decode cX0_hang 0 = .ok (.iload_n 2, 1) := by decide +kernel
theorem dX0_hang_1 : decode cX0_hang 1 = .ok (.ifCond .ne 12, 3) := by decide +kernel
theorem dX0_hang_4 : decode cX0_hang 4 = .ok (.aload_n 0, 1) := by decide +kernel
theorem dX0_hang_5 : decode cX0_hang 5 = .ok (.getfield 11, 3) := by decide +kernel
theorem dX0_hang_8 : decode cX0_hang 8 = .ok (.iload_n 1, 1) := by decide +kernel
theorem dX0_hang_9 : decode cX0_hang 9 = .ok (.aconst_null, 1) := by decide +kernel
theorem dX0_hang_10 : decode cX0_hang 10 = .ok (.aastore, 1) := by decide +kernel
theorem dX0_hang_11 : decode cX0_hang 11 = .ok (.iconst 0, 1) := by decide +kernel
theorem dX0_hang_12 : decode cX0_hang 12 = .ok (.ireturn, 1) := by decide +kernel
theorem dX0_hang_13 : decode cX0_hang 13 = .ok (.iload_n 2, 1) := by decide +kernel
theorem dX0_hang_14 : decode cX0_hang 14 = .ok (.iconst 1, 1) := by decide +kernel
theorem dX0_hang_15 : decode cX0_hang 15 = .ok (.if_icmp .ne 18, 3) := by decide +kernel
theorem dX0_hang_18 : decode cX0_hang 18 = .ok (.aload_n 0, 1) := by decide +kernel
theorem dX0_hang_19 : decode cX0_hang 19 = .ok (.getfield 11, 3) := by decide +kernel
theorem dX0_hang_22 : decode cX0_hang 22 = .ok (.iload_n 1, 1) := by decide +kernel
theorem dX0_hang_23 : decode cX0_hang 23 = .ok (.new 128, 3) := by decide +kernel
theorem dX0_hang_26 : decode cX0_hang 26 = .ok (.dup, 1) := by decide +kernel
theorem dX0_hang_27 : decode cX0_hang 27 = .ok (.invokespecial 130, 3) := by decide +kernel
theorem dX0_hang_30 : decode cX0_hang 30 = .ok (.aastore, 1) := by decide +kernel
theorem dX0_hang_31 : decode cX0_hang 31 = .ok (.iconst 0, 1) := by decide +kernel
theorem dX0_hang_32 : decode cX0_hang 32 = .ok (.ireturn, 1) := by decide +kernel
theorem dX0_hang_33 : decode cX0_hang 33 = .ok (.aload_n 0, 1) := by decide +kernel
theorem dX0_hang_34 : decode cX0_hang 34 = .ok (.getfield 28, 3) := by decide +kernel
theorem dX0_hang_37 : decode cX0_hang 37 = .ok (.invokevirtual 131, 3) := by decide +kernel
theorem dX0_hang_40 : decode cX0_hang 40 = .ok (.ifCond .ne 5, 3) := by decide +kernel
theorem dX0_hang_43 : decode cX0_hang 43 = .ok (.iconst 4, 1) := by decide +kernel
theorem dX0_hang_44 : decode cX0_hang 44 = .ok (.ireturn, 1) := by decide +kernel
theorem dX0_hang_45 : decode cX0_hang 45 = .ok (.aload_n 0, 1) := by decide +kernel
theorem dX0_hang_46 : decode cX0_hang 46 = .ok (.getfield 11, 3) := by decide +kernel
theorem dX0_hang_49 : decode cX0_hang 49 = .ok (.iload_n 1, 1) := by decide +kernel
theorem dX0_hang_50 : decode cX0_hang 50 = .ok (.aload_n 0, 1) := by decide +kernel
theorem dX0_hang_51 : decode cX0_hang 51 = .ok (.getfield 28, 3) := by decide +kernel
theorem dX0_hang_54 : decode cX0_hang 54 = .ok (.iload_n 2, 1) := by decide +kernel
theorem dX0_hang_55 : decode cX0_hang 55 = .ok (.iconst 1, 1) := by decide +kernel
theorem dX0_hang_56 : decode cX0_hang 56 = .ok (.isub, 1) := by decide +kernel
theorem dX0_hang_57 : decode cX0_hang 57 = .ok (.invokevirtual 134, 3) := by decide +kernel
theorem dX0_hang_60 : decode cX0_hang 60 = .ok (.aastore, 1) := by decide +kernel
theorem dX0_hang_61 : decode cX0_hang 61 = .ok (.iconst 0, 1) := by decide +kernel
theorem dX0_hang_62 : decode cX0_hang 62 = .ok (.ireturn, 1) := by decide +kernel
theorem dX0_pin_0 : decode cX0_pin 0 = .ok (.aload_n 0, 1) := by decide +kernel
theorem dX0_pin_1 : decode cX0_pin 1 = .ok (.getfield 11, 3) := by decide +kernel
theorem dX0_pin_4 : decode cX0_pin 4 = .ok (.iload_n 1, 1) := by decide +kernel
theorem dX0_pin_5 : decode cX0_pin 5 = .ok (.aaload, 1) := by decide +kernel
theorem dX0_pin_6 : decode cX0_pin 6 = .ok (.ifnonnull 5, 3) := by decide +kernel
theorem dX0_pin_9 : decode cX0_pin 9 = .ok (.iconst 1, 1) := by decide +kernel
theorem dX0_pin_10 : decode cX0_pin 10 = .ok (.ireturn, 1) := by decide +kernel
theorem dX0_pin_11 : decode cX0_pin 11 = .ok (.aload_n 0, 1) := by decide +kernel
theorem dX0_pin_12 : decode cX0_pin 12 = .ok (.getfield 11, 3) := by decide +kernel
theorem dX0_pin_15 : decode cX0_pin 15 = .ok (.iload_n 1, 1) := by decide +kernel
theorem dX0_pin_16 : decode cX0_pin 16 = .ok (.aaload, 1) := by decide +kernel
theorem dX0_pin_17 : decode cX0_pin 17 = .ok (.astore 4, 2) := by decide +kernel
theorem dX0_pin_19 : decode cX0_pin 19 = .ok (.aload 4, 2) := by decide +kernel
theorem dX0_pin_21 : decode cX0_pin 21 = .ok (.instanceof 67, 3) := by decide +kernel
theorem dX0_pin_24 : decode cX0_pin 24 = .ok (.ifCond .eq 16, 3) := by decide +kernel
theorem dX0_pin_27 : decode cX0_pin 27 = .ok (.aload 4, 2) := by decide +kernel
theorem dX0_pin_29 : decode cX0_pin 29 = .ok (.checkcast 67, 3) := by decide +kernel
theorem dX0_pin_32 : decode cX0_pin 32 = .ok (.astore_n 3, 1) := by decide +kernel
theorem dX0_pin_33 : decode cX0_pin 33 = .ok (.aload_n 3, 1) := by decide +kernel
theorem dX0_pin_34 : decode cX0_pin 34 = .ok (.invokevirtual 90, 3) := by decide +kernel
theorem dX0_pin_37 : decode cX0_pin 37 = .ok (.ifCond .eq 5, 3) := by decide +kernel
theorem dX0_pin_40 : decode cX0_pin 40 = .ok (.iconst 2, 1) := by decide +kernel
theorem dX0_pin_41 : decode cX0_pin 41 = .ok (.ireturn, 1) := by decide +kernel
theorem dX0_pin_42 : decode cX0_pin 42 = .ok (.aload_n 3, 1) := by decide +kernel
theorem dX0_pin_43 : decode cX0_pin 43 = .ok (.aload_n 0, 1) := by decide +kernel
theorem dX0_pin_44 : decode cX0_pin 44 = .ok (.getfield 17, 3) := by decide +kernel
theorem dX0_pin_47 : decode cX0_pin 47 = .ok (.iload_n 1, 1) := by decide +kernel
theorem dX0_pin_48 : decode cX0_pin 48 = .ok (.iaload, 1) := by decide +kernel
theorem dX0_pin_49 : decode cX0_pin 49 = .ok (.invokevirtual 138, 3) := by decide +kernel
theorem dX0_pin_52 : decode cX0_pin 52 = .ok (.ifCond .ne 5, 3) := by decide +kernel
theorem dX0_pin_55 : decode cX0_pin 55 = .ok (.iconst 3, 1) := by decide +kernel
theorem dX0_pin_56 : decode cX0_pin 56 = .ok (.ireturn, 1) := by decide +kernel
theorem dX0_pin_57 : decode cX0_pin 57 = .ok (.aload_n 3, 1) := by decide +kernel
theorem dX0_pin_58 : decode cX0_pin 58 = .ok (.getfield 81, 3) := by decide +kernel
theorem dX0_pin_61 : decode cX0_pin 61 = .ok (.aload_n 0, 1) := by decide +kernel
theorem dX0_pin_62 : decode cX0_pin 62 = .ok (.getfield 17, 3) := by decide +kernel
theorem dX0_pin_65 : decode cX0_pin 65 = .ok (.iload_n 1, 1) := by decide +kernel
theorem dX0_pin_66 : decode cX0_pin 66 = .ok (.iaload, 1) := by decide +kernel
theorem dX0_pin_67 : decode cX0_pin 67 = .ok (.aload_n 3, 1) := by decide +kernel
theorem dX0_pin_68 : decode cX0_pin 68 = .ok (.getfield 120, 3) := by decide +kernel
theorem dX0_pin_71 : decode cX0_pin 71 = .ok (.iload_n 2, 1) := by decide +kernel
theorem dX0_pin_72 : decode cX0_pin 72 = .ok (.invokestatic 141, 3) := by decide +kernel
theorem dX0_pin_75 : decode cX0_pin 75 = .ok (.lastore, 1) := by decide +kernel
theorem dX0_pin_76 : decode cX0_pin 76 = .ok (.iconst 0, 1) := by decide +kernel
theorem dX0_pin_77 : decode cX0_pin 77 = .ok (.ireturn, 1) := by decide +kernel
theorem dX0_seat_0 : decode cX0_seat 0 = .ok (.aload_n 0, 1) := by decide +kernel
theorem dX0_seat_1 : decode cX0_seat 1 = .ok (.getfield 11, 3) := by decide +kernel
theorem dX0_seat_4 : decode cX0_seat 4 = .ok (.iload_n 1, 1) := by decide +kernel
theorem dX0_seat_5 : decode cX0_seat 5 = .ok (.aaload, 1) := by decide +kernel
theorem dX0_seat_6 : decode cX0_seat 6 = .ok (.ifnonnull 5, 3) := by decide +kernel
theorem dX0_seat_9 : decode cX0_seat 9 = .ok (.iconst 1, 1) := by decide +kernel
theorem dX0_seat_10 : decode cX0_seat 10 = .ok (.ireturn, 1) := by decide +kernel
theorem dX0_seat_11 : decode cX0_seat 11 = .ok (.aload_n 0, 1) := by decide +kernel
theorem dX0_seat_12 : decode cX0_seat 12 = .ok (.getfield 11, 3) := by decide +kernel
theorem dX0_seat_15 : decode cX0_seat 15 = .ok (.iload_n 1, 1) := by decide +kernel
theorem dX0_seat_16 : decode cX0_seat 16 = .ok (.aaload, 1) := by decide +kernel
theorem dX0_seat_17 : decode cX0_seat 17 = .ok (.astore 4, 2) := by decide +kernel
theorem dX0_seat_19 : decode cX0_seat 19 = .ok (.aload 4, 2) := by decide +kernel
theorem dX0_seat_21 : decode cX0_seat 21 = .ok (.instanceof 67, 3) := by decide +kernel
theorem dX0_seat_24 : decode cX0_seat 24 = .ok (.ifCond .eq 16, 3) := by decide +kernel
theorem dX0_seat_27 : decode cX0_seat 27 = .ok (.aload 4, 2) := by decide +kernel
theorem dX0_seat_29 : decode cX0_seat 29 = .ok (.checkcast 67, 3) := by decide +kernel
theorem dX0_seat_32 : decode cX0_seat 32 = .ok (.astore_n 3, 1) := by decide +kernel
theorem dX0_seat_33 : decode cX0_seat 33 = .ok (.aload_n 3, 1) := by decide +kernel
theorem dX0_seat_34 : decode cX0_seat 34 = .ok (.invokevirtual 90, 3) := by decide +kernel
theorem dX0_seat_37 : decode cX0_seat 37 = .ok (.ifCond .ne 5, 3) := by decide +kernel
theorem dX0_seat_40 : decode cX0_seat 40 = .ok (.iconst 2, 1) := by decide +kernel
theorem dX0_seat_41 : decode cX0_seat 41 = .ok (.ireturn, 1) := by decide +kernel
theorem dX0_seat_42 : decode cX0_seat 42 = .ok (.iconst 0, 1) := by decide +kernel
theorem dX0_seat_43 : decode cX0_seat 43 = .ok (.istore 4, 2) := by decide +kernel
theorem dX0_seat_45 : decode cX0_seat 45 = .ok (.aload_n 0, 1) := by decide +kernel
theorem dX0_seat_46 : decode cX0_seat 46 = .ok (.getfield 11, 3) := by decide +kernel
theorem dX0_seat_49 : decode cX0_seat 49 = .ok (.iload_n 2, 1) := by decide +kernel
theorem dX0_seat_50 : decode cX0_seat 50 = .ok (.aaload, 1) := by decide +kernel
theorem dX0_seat_51 : decode cX0_seat 51 = .ok (.astore 6, 2) := by decide +kernel
theorem dX0_seat_53 : decode cX0_seat 53 = .ok (.aload 6, 2) := by decide +kernel
theorem dX0_seat_55 : decode cX0_seat 55 = .ok (.instanceof 147, 3) := by decide +kernel
theorem dX0_seat_58 : decode cX0_seat 58 = .ok (.ifCond .eq 20, 3) := by decide +kernel
theorem dX0_seat_61 : decode cX0_seat 61 = .ok (.aload 6, 2) := by decide +kernel
theorem dX0_seat_63 : decode cX0_seat 63 = .ok (.checkcast 147, 3) := by decide +kernel
theorem dX0_seat_66 : decode cX0_seat 66 = .ok (.astore 5, 2) := by decide +kernel
theorem dX0_seat_68 : decode cX0_seat 68 = .ok (.aload 5, 2) := by decide +kernel
theorem dX0_seat_70 : decode cX0_seat 70 = .ok (.getfield 149, 3) := by decide +kernel
theorem dX0_seat_73 : decode cX0_seat 73 = .ok (.istore 4, 2) := by decide +kernel
theorem dX0_seat_75 : decode cX0_seat 75 = .ok (.goto 14, 3) := by decide +kernel
theorem dX0_seat_78 : decode cX0_seat 78 = .ok (.aload_n 0, 1) := by decide +kernel
theorem dX0_seat_79 : decode cX0_seat 79 = .ok (.getfield 11, 3) := by decide +kernel
theorem dX0_seat_82 : decode cX0_seat 82 = .ok (.iload_n 2, 1) := by decide +kernel
theorem dX0_seat_83 : decode cX0_seat 83 = .ok (.aaload, 1) := by decide +kernel
theorem dX0_seat_84 : decode cX0_seat 84 = .ok (.ifnull 5, 3) := by decide +kernel
theorem dX0_seat_87 : decode cX0_seat 87 = .ok (.iconst 2, 1) := by decide +kernel
theorem dX0_seat_88 : decode cX0_seat 88 = .ok (.ireturn, 1) := by decide +kernel
theorem dX0_seat_89 : decode cX0_seat 89 = .ok (.aload_n 3, 1) := by decide +kernel
theorem dX0_seat_90 : decode cX0_seat 90 = .ok (.aload_n 0, 1) := by decide +kernel
theorem dX0_seat_91 : decode cX0_seat 91 = .ok (.getfield 17, 3) := by decide +kernel
theorem dX0_seat_94 : decode cX0_seat 94 = .ok (.iload_n 1, 1) := by decide +kernel
theorem dX0_seat_95 : decode cX0_seat 95 = .ok (.iaload, 1) := by decide +kernel
theorem dX0_seat_96 : decode cX0_seat 96 = .ok (.invokevirtual 138, 3) := by decide +kernel
theorem dX0_seat_99 : decode cX0_seat 99 = .ok (.ifCond .ne 5, 3) := by decide +kernel
theorem dX0_seat_102 : decode cX0_seat 102 = .ok (.iconst 3, 1) := by decide +kernel
theorem dX0_seat_103 : decode cX0_seat 103 = .ok (.ireturn, 1) := by decide +kernel
theorem dX0_seat_104 : decode cX0_seat 104 = .ok (.aload_n 3, 1) := by decide +kernel
theorem dX0_seat_105 : decode cX0_seat 105 = .ok (.aload_n 0, 1) := by decide +kernel
theorem dX0_seat_106 : decode cX0_seat 106 = .ok (.getfield 28, 3) := by decide +kernel
theorem dX0_seat_109 : decode cX0_seat 109 = .ok (.iload 4, 2) := by decide +kernel
theorem dX0_seat_111 : decode cX0_seat 111 = .ok (.i2l, 1) := by decide +kernel
theorem dX0_seat_112 : decode cX0_seat 112 = .ok (.invokevirtual 94, 3) := by decide +kernel
theorem dX0_seat_115 : decode cX0_seat 115 = .ok (.invokevirtual 98, 3) := by decide +kernel
theorem dX0_seat_118 : decode cX0_seat 118 = .ok (.ifCond .ne 5, 3) := by decide +kernel
theorem dX0_seat_121 : decode cX0_seat 121 = .ok (.iconst 2, 1) := by decide +kernel
theorem dX0_seat_122 : decode cX0_seat 122 = .ok (.ireturn, 1) := by decide +kernel
theorem dX0_seat_123 : decode cX0_seat 123 = .ok (.aload_n 3, 1) := by decide +kernel
theorem dX0_seat_124 : decode cX0_seat 124 = .ok (.getfield 81, 3) := by decide +kernel
theorem dX0_seat_127 : decode cX0_seat 127 = .ok (.aload_n 0, 1) := by decide +kernel
theorem dX0_seat_128 : decode cX0_seat 128 = .ok (.getfield 17, 3) := by decide +kernel
theorem dX0_seat_131 : decode cX0_seat 131 = .ok (.iload_n 1, 1) := by decide +kernel
theorem dX0_seat_132 : decode cX0_seat 132 = .ok (.iaload, 1) := by decide +kernel
theorem dX0_seat_133 : decode cX0_seat 133 = .ok (.iload 4, 2) := by decide +kernel
theorem dX0_seat_135 : decode cX0_seat 135 = .ok (.i2l, 1) := by decide +kernel
theorem dX0_seat_136 : decode cX0_seat 136 = .ok (.lastore, 1) := by decide +kernel
theorem dX0_seat_137 : decode cX0_seat 137 = .ok (.iconst 0, 1) := by decide +kernel
theorem dX0_seat_138 : decode cX0_seat 138 = .ok (.ireturn, 1) := by decide +kernel
theorem dX0_lift_0 : decode cX0_lift 0 = .ok (.aload_n 0, 1) := by decide +kernel
theorem dX0_lift_1 : decode cX0_lift 1 = .ok (.getfield 11, 3) := by decide +kernel
theorem dX0_lift_4 : decode cX0_lift 4 = .ok (.iload_n 1, 1) := by decide +kernel
theorem dX0_lift_5 : decode cX0_lift 5 = .ok (.aaload, 1) := by decide +kernel
theorem dX0_lift_6 : decode cX0_lift 6 = .ok (.ifnonnull 5, 3) := by decide +kernel
theorem dX0_lift_9 : decode cX0_lift 9 = .ok (.iconst 1, 1) := by decide +kernel
theorem dX0_lift_10 : decode cX0_lift 10 = .ok (.ireturn, 1) := by decide +kernel
theorem dX0_lift_11 : decode cX0_lift 11 = .ok (.aload_n 0, 1) := by decide +kernel
theorem dX0_lift_12 : decode cX0_lift 12 = .ok (.getfield 11, 3) := by decide +kernel
theorem dX0_lift_15 : decode cX0_lift 15 = .ok (.iload_n 1, 1) := by decide +kernel
theorem dX0_lift_16 : decode cX0_lift 16 = .ok (.aaload, 1) := by decide +kernel
theorem dX0_lift_17 : decode cX0_lift 17 = .ok (.astore 4, 2) := by decide +kernel
theorem dX0_lift_19 : decode cX0_lift 19 = .ok (.aload 4, 2) := by decide +kernel
theorem dX0_lift_21 : decode cX0_lift 21 = .ok (.instanceof 67, 3) := by decide +kernel
theorem dX0_lift_24 : decode cX0_lift 24 = .ok (.ifCond .eq 16, 3) := by decide +kernel
theorem dX0_lift_27 : decode cX0_lift 27 = .ok (.aload 4, 2) := by decide +kernel
theorem dX0_lift_29 : decode cX0_lift 29 = .ok (.checkcast 67, 3) := by decide +kernel
theorem dX0_lift_32 : decode cX0_lift 32 = .ok (.astore_n 3, 1) := by decide +kernel
theorem dX0_lift_33 : decode cX0_lift 33 = .ok (.aload_n 3, 1) := by decide +kernel
theorem dX0_lift_34 : decode cX0_lift 34 = .ok (.invokevirtual 90, 3) := by decide +kernel
theorem dX0_lift_37 : decode cX0_lift 37 = .ok (.ifCond .ne 5, 3) := by decide +kernel
theorem dX0_lift_40 : decode cX0_lift 40 = .ok (.iconst 2, 1) := by decide +kernel
theorem dX0_lift_41 : decode cX0_lift 41 = .ok (.ireturn, 1) := by decide +kernel
theorem dX0_lift_42 : decode cX0_lift 42 = .ok (.aload_n 3, 1) := by decide +kernel
theorem dX0_lift_43 : decode cX0_lift 43 = .ok (.aload_n 0, 1) := by decide +kernel
theorem dX0_lift_44 : decode cX0_lift 44 = .ok (.getfield 17, 3) := by decide +kernel
theorem dX0_lift_47 : decode cX0_lift 47 = .ok (.iload_n 1, 1) := by decide +kernel
theorem dX0_lift_48 : decode cX0_lift 48 = .ok (.iaload, 1) := by decide +kernel
theorem dX0_lift_49 : decode cX0_lift 49 = .ok (.invokevirtual 138, 3) := by decide +kernel
theorem dX0_lift_52 : decode cX0_lift 52 = .ok (.ifCond .ne 5, 3) := by decide +kernel
theorem dX0_lift_55 : decode cX0_lift 55 = .ok (.iconst 3, 1) := by decide +kernel
theorem dX0_lift_56 : decode cX0_lift 56 = .ok (.ireturn, 1) := by decide +kernel
theorem dX0_lift_57 : decode cX0_lift 57 = .ok (.aload_n 0, 1) := by decide +kernel
theorem dX0_lift_58 : decode cX0_lift 58 = .ok (.getfield 11, 3) := by decide +kernel
theorem dX0_lift_61 : decode cX0_lift 61 = .ok (.iload_n 2, 1) := by decide +kernel
theorem dX0_lift_62 : decode cX0_lift 62 = .ok (.aload_n 0, 1) := by decide +kernel
theorem dX0_lift_63 : decode cX0_lift 63 = .ok (.getfield 28, 3) := by decide +kernel
theorem dX0_lift_66 : decode cX0_lift 66 = .ok (.aload_n 3, 1) := by decide +kernel
theorem dX0_lift_67 : decode cX0_lift 67 = .ok (.getfield 81, 3) := by decide +kernel
theorem dX0_lift_70 : decode cX0_lift 70 = .ok (.aload_n 0, 1) := by decide +kernel
theorem dX0_lift_71 : decode cX0_lift 71 = .ok (.getfield 17, 3) := by decide +kernel
theorem dX0_lift_74 : decode cX0_lift 74 = .ok (.iload_n 1, 1) := by decide +kernel
theorem dX0_lift_75 : decode cX0_lift 75 = .ok (.iaload, 1) := by decide +kernel
theorem dX0_lift_76 : decode cX0_lift 76 = .ok (.laload, 1) := by decide +kernel
theorem dX0_lift_77 : decode cX0_lift 77 = .ok (.invokevirtual 152, 3) := by decide +kernel
theorem dX0_lift_80 : decode cX0_lift 80 = .ok (.aastore, 1) := by decide +kernel
theorem dX0_lift_81 : decode cX0_lift 81 = .ok (.iconst 0, 1) := by decide +kernel
theorem dX0_lift_82 : decode cX0_lift 82 = .ok (.ireturn, 1) := by decide +kernel
theorem dX1_init_0 : decode cX1_init 0 = .ok (.aload_n 0, 1) := by decide +kernel
theorem dX1_init_1 : decode cX1_init 1 = .ok (.invokespecial 3, 3) := by decide +kernel
theorem dX1_init_4 : decode cX1_init 4 = .ok (.aload_n 0, 1) := by decide +kernel
theorem dX1_init_5 : decode cX1_init 5 = .ok (.bipush 20, 2) := by decide +kernel
theorem dX1_init_7 : decode cX1_init 7 = .ok (.anewarray 9, 3) := by decide +kernel
theorem dX1_init_10 : decode cX1_init 10 = .ok (.putfield 11, 3) := by decide +kernel
theorem dX1_init_13 : decode cX1_init 13 = .ok (.aload_n 0, 1) := by decide +kernel
theorem dX1_init_14 : decode cX1_init 14 = .ok (.sipush 1280, 3) := by decide +kernel
theorem dX1_init_17 : decode cX1_init 17 = .ok (.newarray .long, 2) := by decide +kernel
theorem dX1_init_19 : decode cX1_init 19 = .ok (.putfield 17, 3) := by decide +kernel
theorem dX1_init_22 : decode cX1_init 22 = .ok (.return_, 1) := by decide +kernel
theorem dX1_write_0 : decode cX1_write 0 = .ok (.aload_n 0, 1) := by decide +kernel
theorem dX1_write_1 : decode cX1_write 1 = .ok (.getfield 11, 3) := by decide +kernel
theorem dX1_write_4 : decode cX1_write 4 = .ok (.aload_n 0, 1) := by decide +kernel
theorem dX1_write_5 : decode cX1_write 5 = .ok (.getfield 21, 3) := by decide +kernel
theorem dX1_write_8 : decode cX1_write 8 = .ok (.aload_n 1, 1) := by decide +kernel
theorem dX1_write_9 : decode cX1_write 9 = .ok (.aastore, 1) := by decide +kernel
theorem dX1_write_10 : decode cX1_write 10 = .ok (.aload_n 2, 1) := by decide +kernel
theorem dX1_write_11 : decode cX1_write 11 = .ok (.iconst 0, 1) := by decide +kernel
theorem dX1_write_12 : decode cX1_write 12 = .ok (.aload_n 0, 1) := by decide +kernel
theorem dX1_write_13 : decode cX1_write 13 = .ok (.getfield 17, 3) := by decide +kernel
theorem dX1_write_16 : decode cX1_write 16 = .ok (.aload_n 0, 1) := by decide +kernel
theorem dX1_write_17 : decode cX1_write 17 = .ok (.getfield 21, 3) := by decide +kernel
theorem dX1_write_20 : decode cX1_write 20 = .ok (.bipush 64, 2) := by decide +kernel
theorem dX1_write_22 : decode cX1_write 22 = .ok (.imul, 1) := by decide +kernel
theorem dX1_write_23 : decode cX1_write 23 = .ok (.aload_n 1, 1) := by decide +kernel
theorem dX1_write_24 : decode cX1_write 24 = .ok (.getfield 25, 3) := by decide +kernel
theorem dX1_write_27 : decode cX1_write 27 = .ok (.arraylength, 1) := by decide +kernel
theorem dX1_write_28 : decode cX1_write 28 = .ok (.invokestatic 28, 3) := by decide +kernel
theorem dX1_write_31 : decode cX1_write 31 = .ok (.aload_n 0, 1) := by decide +kernel
theorem dX1_write_32 : decode cX1_write 32 = .ok (.aload_n 0, 1) := by decide +kernel
theorem dX1_write_33 : decode cX1_write 33 = .ok (.getfield 21, 3) := by decide +kernel
theorem dX1_write_36 : decode cX1_write 36 = .ok (.iconst 1, 1) := by decide +kernel
theorem dX1_write_37 : decode cX1_write 37 = .ok (.iadd, 1) := by decide +kernel
theorem dX1_write_38 : decode cX1_write 38 = .ok (.bipush 20, 2) := by decide +kernel
theorem dX1_write_40 : decode cX1_write 40 = .ok (.irem, 1) := by decide +kernel
theorem dX1_write_41 : decode cX1_write 41 = .ok (.putfield 21, 3) := by decide +kernel
theorem dX1_write_44 : decode cX1_write 44 = .ok (.aload_n 0, 1) := by decide +kernel
theorem dX1_write_45 : decode cX1_write 45 = .ok (.aload_n 0, 1) := by decide +kernel
theorem dX1_write_46 : decode cX1_write 46 = .ok (.getfield 34, 3) := by decide +kernel
theorem dX1_write_49 : decode cX1_write 49 = .ok (.iconst 1, 1) := by decide +kernel
theorem dX1_write_50 : decode cX1_write 50 = .ok (.iadd, 1) := by decide +kernel
theorem dX1_write_51 : decode cX1_write 51 = .ok (.bipush 20, 2) := by decide +kernel
theorem dX1_write_53 : decode cX1_write 53 = .ok (.invokestatic 37, 3) := by decide +kernel
theorem dX1_write_56 : decode cX1_write 56 = .ok (.putfield 34, 3) := by decide +kernel
theorem dX1_write_59 : decode cX1_write 59 = .ok (.return_, 1) := by decide +kernel
theorem dX1_takeBack_0 : decode cX1_takeBack 0 = .ok (.aload_n 0, 1) := by decide +kernel
theorem dX1_takeBack_1 : decode cX1_takeBack 1 = .ok (.getfield 21, 3) := by decide +kernel
theorem dX1_takeBack_4 : decode cX1_takeBack 4 = .ok (.bipush 20, 2) := by decide +kernel
theorem dX1_takeBack_6 : decode cX1_takeBack 6 = .ok (.iadd, 1) := by decide +kernel
theorem dX1_takeBack_7 : decode cX1_takeBack 7 = .ok (.iconst 1, 1) := by decide +kernel
theorem dX1_takeBack_8 : decode cX1_takeBack 8 = .ok (.isub, 1) := by decide +kernel
theorem dX1_takeBack_9 : decode cX1_takeBack 9 = .ok (.bipush 20, 2) := by decide +kernel
theorem dX1_takeBack_11 : decode cX1_takeBack 11 = .ok (.irem, 1) := by decide +kernel
theorem dX1_takeBack_12 : decode cX1_takeBack 12 = .ok (.istore_n 1, 1) := by decide +kernel
theorem dX1_takeBack_13 : decode cX1_takeBack 13 = .ok (.aload_n 0, 1) := by decide +kernel
theorem dX1_takeBack_14 : decode cX1_takeBack 14 = .ok (.getfield 11, 3) := by decide +kernel
theorem dX1_takeBack_17 : decode cX1_takeBack 17 = .ok (.iload_n 1, 1) := by decide +kernel
theorem dX1_takeBack_18 : decode cX1_takeBack 18 = .ok (.aaload, 1) := by decide +kernel
theorem dX1_takeBack_19 : decode cX1_takeBack 19 = .ok (.astore_n 2, 1) := by decide +kernel
theorem dX1_takeBack_20 : decode cX1_takeBack 20 = .ok (.aload_n 0, 1) := by decide +kernel
theorem dX1_takeBack_21 : decode cX1_takeBack 21 = .ok (.getfield 34, 3) := by decide +kernel
theorem dX1_takeBack_24 : decode cX1_takeBack 24 = .ok (.ifCond .eq 7, 3) := by decide +kernel
theorem dX1_takeBack_27 : decode cX1_takeBack 27 = .ok (.aload_n 2, 1) := by decide +kernel
theorem dX1_takeBack_28 : decode cX1_takeBack 28 = .ok (.ifnonnull 5, 3) := by decide +kernel
theorem dX1_takeBack_31 : decode cX1_takeBack 31 = .ok (.iconst 0, 1) := by decide +kernel
theorem dX1_takeBack_32 : decode cX1_takeBack 32 = .ok (.ireturn, 1) := by decide +kernel
theorem dX1_takeBack_33 : decode cX1_takeBack 33 = .ok (.aload_n 0, 1) := by decide +kernel
theorem dX1_takeBack_34 : decode cX1_takeBack 34 = .ok (.getfield 17, 3) := by decide +kernel
theorem dX1_takeBack_37 : decode cX1_takeBack 37 = .ok (.iload_n 1, 1) := by decide +kernel
theorem dX1_takeBack_38 : decode cX1_takeBack 38 = .ok (.bipush 64, 2) := by decide +kernel
theorem dX1_takeBack_40 : decode cX1_takeBack 40 = .ok (.imul, 1) := by decide +kernel
theorem dX1_takeBack_41 : decode cX1_takeBack 41 = .ok (.aload_n 2, 1) := by decide +kernel
theorem dX1_takeBack_42 : decode cX1_takeBack 42 = .ok (.getfield 25, 3) := by decide +kernel
theorem dX1_takeBack_45 : decode cX1_takeBack 45 = .ok (.iconst 0, 1) := by decide +kernel
theorem dX1_takeBack_46 : decode cX1_takeBack 46 = .ok (.aload_n 2, 1) := by decide +kernel
theorem dX1_takeBack_47 : decode cX1_takeBack 47 = .ok (.getfield 25, 3) := by decide +kernel
theorem dX1_takeBack_50 : decode cX1_takeBack 50 = .ok (.arraylength, 1) := by decide +kernel
theorem dX1_takeBack_51 : decode cX1_takeBack 51 = .ok (.invokestatic 28, 3) := by decide +kernel
theorem dX1_takeBack_54 : decode cX1_takeBack 54 = .ok (.aload_n 0, 1) := by decide +kernel
theorem dX1_takeBack_55 : decode cX1_takeBack 55 = .ok (.iload_n 1, 1) := by decide +kernel
theorem dX1_takeBack_56 : decode cX1_takeBack 56 = .ok (.putfield 21, 3) := by decide +kernel
theorem dX1_takeBack_59 : decode cX1_takeBack 59 = .ok (.aload_n 0, 1) := by decide +kernel
theorem dX1_takeBack_60 : decode cX1_takeBack 60 = .ok (.dup, 1) := by decide +kernel
theorem dX1_takeBack_61 : decode cX1_takeBack 61 = .ok (.getfield 34, 3) := by decide +kernel
theorem dX1_takeBack_64 : decode cX1_takeBack 64 = .ok (.iconst 1, 1) := by decide +kernel
theorem dX1_takeBack_65 : decode cX1_takeBack 65 = .ok (.isub, 1) := by decide +kernel
theorem dX1_takeBack_66 : decode cX1_takeBack 66 = .ok (.putfield 34, 3) := by decide +kernel
theorem dX1_takeBack_69 : decode cX1_takeBack 69 = .ok (.iconst 1, 1) := by decide +kernel
theorem dX1_takeBack_70 : decode cX1_takeBack 70 = .ok (.ireturn, 1) := by decide +kernel
theorem dX2_init_0 : decode cX2_init 0 = .ok (.aload_n 0, 1) := by decide +kernel
theorem dX2_init_1 : decode cX2_init 1 = .ok (.invokespecial 3, 3) := by decide +kernel
theorem dX2_init_4 : decode cX2_init 4 = .ok (.return_, 1) := by decide +kernel
theorem dX2_appearance_0 : decode cX2_appearance 0 = .ok (.bipush 12, 2) := by decide +kernel
theorem dX2_appearance_2 : decode cX2_appearance 2 = .ok (.ireturn, 1) := by decide +kernel
theorem dX2_measure_0 : decode cX2_measure 0 = .ok (.iconst (-1), 1) := by decide +kernel
theorem dX2_measure_1 : decode cX2_measure 1 = .ok (.ireturn, 1) := by decide +kernel
theorem dX3_init_0 : decode cX3_init 0 = .ok (.aload_n 0, 1) := by decide +kernel
theorem dX3_init_1 : decode cX3_init 1 = .ok (.invokespecial 3, 3) := by decide +kernel
theorem dX3_init_4 : decode cX3_init 4 = .ok (.aload_n 0, 1) := by decide +kernel
theorem dX3_init_5 : decode cX3_init 5 = .ok (.iload_n 1, 1) := by decide +kernel
theorem dX3_init_6 : decode cX3_init 6 = .ok (.putfield 9, 3) := by decide +kernel
theorem dX3_init_9 : decode cX3_init 9 = .ok (.aload_n 0, 1) := by decide +kernel
theorem dX3_init_10 : decode cX3_init 10 = .ok (.iload_n 2, 1) := by decide +kernel
theorem dX3_init_11 : decode cX3_init 11 = .ok (.putfield 15, 3) := by decide +kernel
theorem dX3_init_14 : decode cX3_init 14 = .ok (.return_, 1) := by decide +kernel
theorem dX3_appearance_0 : decode cX3_appearance 0 = .ok (.bipush 12, 2) := by decide +kernel
theorem dX3_appearance_2 : decode cX3_appearance 2 = .ok (.aload_n 0, 1) := by decide +kernel
theorem dX3_appearance_3 : decode cX3_appearance 3 = .ok (.getfield 9, 3) := by decide +kernel
theorem dX3_appearance_6 : decode cX3_appearance 6 = .ok (.iadd, 1) := by decide +kernel
theorem dX3_appearance_7 : decode cX3_appearance 7 = .ok (.ireturn, 1) := by decide +kernel
theorem dX3_measure_0 : decode cX3_measure 0 = .ok (.aload_n 0, 1) := by decide +kernel
theorem dX3_measure_1 : decode cX3_measure 1 = .ok (.getfield 15, 3) := by decide +kernel
theorem dX3_measure_4 : decode cX3_measure 4 = .ok (.ireturn, 1) := by decide +kernel
theorem dX4_cutToKind_0 : decode cX4_cutToKind 0 = .ok (.iload_n 0, 1) := by decide +kernel
theorem dX4_cutToKind_1 : decode cX4_cutToKind 1 = .ok (.tableswitch 80 0 7 #[47, 57, 61, 65, 80, 80, 69, 75], 47) := by decide +kernel
theorem dX4_cutToKind_48 : decode cX4_cutToKind 48 = .ok (.iload_n 1, 1) := by decide +kernel
theorem dX4_cutToKind_49 : decode cX4_cutToKind 49 = .ok (.ifCond .eq 7, 3) := by decide +kernel
theorem dX4_cutToKind_52 : decode cX4_cutToKind 52 = .ok (.lconst 1, 1) := by decide +kernel
theorem dX4_cutToKind_53 : decode cX4_cutToKind 53 = .ok (.goto 4, 3) := by decide +kernel
theorem dX4_cutToKind_56 : decode cX4_cutToKind 56 = .ok (.lconst 0, 1) := by decide +kernel
theorem dX4_cutToKind_57 : decode cX4_cutToKind 57 = .ok (.lreturn, 1) := by decide +kernel
theorem dX4_cutToKind_58 : decode cX4_cutToKind 58 = .ok (.iload_n 1, 1) := by decide +kernel
theorem dX4_cutToKind_59 : decode cX4_cutToKind 59 = .ok (.i2b, 1) := by decide +kernel
theorem dX4_cutToKind_60 : decode cX4_cutToKind 60 = .ok (.i2l, 1) := by decide +kernel
theorem dX4_cutToKind_61 : decode cX4_cutToKind 61 = .ok (.lreturn, 1) := by decide +kernel
theorem dX4_cutToKind_62 : decode cX4_cutToKind 62 = .ok (.iload_n 1, 1) := by decide +kernel
theorem dX4_cutToKind_63 : decode cX4_cutToKind 63 = .ok (.i2c, 1) := by decide +kernel
theorem dX4_cutToKind_64 : decode cX4_cutToKind 64 = .ok (.i2l, 1) := by decide +kernel
theorem dX4_cutToKind_65 : decode cX4_cutToKind 65 = .ok (.lreturn, 1) := by decide +kernel
theorem dX4_cutToKind_66 : decode cX4_cutToKind 66 = .ok (.iload_n 1, 1) := by decide +kernel
theorem dX4_cutToKind_67 : decode cX4_cutToKind 67 = .ok (.i2s, 1) := by decide +kernel
theorem dX4_cutToKind_68 : decode cX4_cutToKind 68 = .ok (.i2l, 1) := by decide +kernel
theorem dX4_cutToKind_69 : decode cX4_cutToKind 69 = .ok (.lreturn, 1) := by decide +kernel
theorem dX4_cutToKind_70 : decode cX4_cutToKind 70 = .ok (.iload_n 1, 1) := by decide +kernel
theorem dX4_cutToKind_71 : decode cX4_cutToKind 71 = .ok (.invokestatic 9, 3) := by decide +kernel
theorem dX4_cutToKind_74 : decode cX4_cutToKind 74 = .ok (.i2l, 1) := by decide +kernel
theorem dX4_cutToKind_75 : decode cX4_cutToKind 75 = .ok (.lreturn, 1) := by decide +kernel
theorem dX4_cutToKind_76 : decode cX4_cutToKind 76 = .ok (.iload_n 1, 1) := by decide +kernel
theorem dX4_cutToKind_77 : decode cX4_cutToKind 77 = .ok (.invokestatic 15, 3) := by decide +kernel
theorem dX4_cutToKind_80 : decode cX4_cutToKind 80 = .ok (.lreturn, 1) := by decide +kernel
theorem dX4_cutToKind_81 : decode cX4_cutToKind 81 = .ok (.iload_n 1, 1) := by decide +kernel
theorem dX4_cutToKind_82 : decode cX4_cutToKind 82 = .ok (.i2l, 1) := by decide +kernel
theorem dX4_cutToKind_83 : decode cX4_cutToKind 83 = .ok (.lreturn, 1) := by decide +kernel
theorem dX4_floatBits_0 : decode cX4_floatBits 0 = .ok (.iload_n 0, 1) := by decide +kernel
theorem dX4_floatBits_1 : decode cX4_floatBits 1 = .ok (.ifCond .ne 5, 3) := by decide +kernel
theorem dX4_floatBits_4 : decode cX4_floatBits 4 = .ok (.iconst 0, 1) := by decide +kernel
theorem dX4_floatBits_5 : decode cX4_floatBits 5 = .ok (.ireturn, 1) := by decide +kernel
theorem dX4_floatBits_6 : decode cX4_floatBits 6 = .ok (.iload_n 0, 1) := by decide +kernel
theorem dX4_floatBits_7 : decode cX4_floatBits 7 = .ok (.i2l, 1) := by decide +kernel
theorem dX4_floatBits_8 : decode cX4_floatBits 8 = .ok (.invokestatic 19, 3) := by decide +kernel
theorem dX4_floatBits_11 : decode cX4_floatBits 11 = .ok (.lstore_n 1, 1) := by decide +kernel
theorem dX4_floatBits_12 : decode cX4_floatBits 12 = .ok (.lload_n 1, 1) := by decide +kernel
theorem dX4_floatBits_13 : decode cX4_floatBits 13 = .ok (.invokestatic 25, 3) := by decide +kernel
theorem dX4_floatBits_16 : decode cX4_floatBits 16 = .ok (.istore_n 3, 1) := by decide +kernel
theorem dX4_floatBits_17 : decode cX4_floatBits 17 = .ok (.iload_n 3, 1) := by decide +kernel
theorem dX4_floatBits_18 : decode cX4_floatBits 18 = .ok (.bipush 23, 2) := by decide +kernel
theorem dX4_floatBits_20 : decode cX4_floatBits 20 = .ok (.if_icmp .gt 12, 3) := by decide +kernel
theorem dX4_floatBits_23 : decode cX4_floatBits 23 = .ok (.lload_n 1, 1) := by decide +kernel
theorem dX4_floatBits_24 : decode cX4_floatBits 24 = .ok (.bipush 23, 2) := by decide +kernel
theorem dX4_floatBits_26 : decode cX4_floatBits 26 = .ok (.iload_n 3, 1) := by decide +kernel
theorem dX4_floatBits_27 : decode cX4_floatBits 27 = .ok (.isub, 1) := by decide +kernel
theorem dX4_floatBits_28 : decode cX4_floatBits 28 = .ok (.lshl, 1) := by decide +kernel
theorem dX4_floatBits_29 : decode cX4_floatBits 29 = .ok (.goto 11, 3) := by decide +kernel
theorem dX4_floatBits_32 : decode cX4_floatBits 32 = .ok (.lload_n 1, 1) := by decide +kernel
theorem dX4_floatBits_33 : decode cX4_floatBits 33 = .ok (.iload_n 3, 1) := by decide +kernel
theorem dX4_floatBits_34 : decode cX4_floatBits 34 = .ok (.bipush 23, 2) := by decide +kernel
theorem dX4_floatBits_36 : decode cX4_floatBits 36 = .ok (.isub, 1) := by decide +kernel
theorem dX4_floatBits_37 : decode cX4_floatBits 37 = .ok (.invokestatic 29, 3) := by decide +kernel
theorem dX4_floatBits_40 : decode cX4_floatBits 40 = .ok (.lstore 4, 2) := by decide +kernel
theorem dX4_floatBits_42 : decode cX4_floatBits 42 = .ok (.iload_n 3, 1) := by decide +kernel
theorem dX4_floatBits_43 : decode cX4_floatBits 43 = .ok (.bipush 127, 2) := by decide +kernel
theorem dX4_floatBits_45 : decode cX4_floatBits 45 = .ok (.iadd, 1) := by decide +kernel
theorem dX4_floatBits_46 : decode cX4_floatBits 46 = .ok (.i2l, 1) := by decide +kernel
theorem dX4_floatBits_47 : decode cX4_floatBits 47 = .ok (.bipush 23, 2) := by decide +kernel
theorem dX4_floatBits_49 : decode cX4_floatBits 49 = .ok (.lshl, 1) := by decide +kernel
theorem dX4_floatBits_50 : decode cX4_floatBits 50 = .ok (.lload 4, 2) := by decide +kernel
theorem dX4_floatBits_52 : decode cX4_floatBits 52 = .ok (.ladd, 1) := by decide +kernel
theorem dX4_floatBits_53 : decode cX4_floatBits 53 = .ok (.ldc2_w 33, 3) := by decide +kernel
theorem dX4_floatBits_56 : decode cX4_floatBits 56 = .ok (.lsub, 1) := by decide +kernel
theorem dX4_floatBits_57 : decode cX4_floatBits 57 = .ok (.lstore 6, 2) := by decide +kernel
theorem dX4_floatBits_59 : decode cX4_floatBits 59 = .ok (.iload_n 0, 1) := by decide +kernel
theorem dX4_floatBits_60 : decode cX4_floatBits 60 = .ok (.ifCond .ge 12, 3) := by decide +kernel
theorem dX4_floatBits_63 : decode cX4_floatBits 63 = .ok (.lload 6, 2) := by decide +kernel
theorem dX4_floatBits_65 : decode cX4_floatBits 65 = .ok (.ldc2_w 35, 3) := by decide +kernel
theorem dX4_floatBits_68 : decode cX4_floatBits 68 = .ok (.lor, 1) := by decide +kernel
theorem dX4_floatBits_69 : decode cX4_floatBits 69 = .ok (.goto 5, 3) := by decide +kernel
theorem dX4_floatBits_72 : decode cX4_floatBits 72 = .ok (.lload 6, 2) := by decide +kernel
theorem dX4_floatBits_74 : decode cX4_floatBits 74 = .ok (.l2i, 1) := by decide +kernel
theorem dX4_floatBits_75 : decode cX4_floatBits 75 = .ok (.ireturn, 1) := by decide +kernel
theorem dX4_doubleBits_0 : decode cX4_doubleBits 0 = .ok (.iload_n 0, 1) := by decide +kernel
theorem dX4_doubleBits_1 : decode cX4_doubleBits 1 = .ok (.ifCond .ne 5, 3) := by decide +kernel
theorem dX4_doubleBits_4 : decode cX4_doubleBits 4 = .ok (.lconst 0, 1) := by decide +kernel
theorem dX4_doubleBits_5 : decode cX4_doubleBits 5 = .ok (.lreturn, 1) := by decide +kernel
theorem dX4_doubleBits_6 : decode cX4_doubleBits 6 = .ok (.iload_n 0, 1) := by decide +kernel
theorem dX4_doubleBits_7 : decode cX4_doubleBits 7 = .ok (.i2l, 1) := by decide +kernel
theorem dX4_doubleBits_8 : decode cX4_doubleBits 8 = .ok (.invokestatic 19, 3) := by decide +kernel
theorem dX4_doubleBits_11 : decode cX4_doubleBits 11 = .ok (.lstore_n 1, 1) := by decide +kernel
theorem dX4_doubleBits_12 : decode cX4_doubleBits 12 = .ok (.lload_n 1, 1) := by decide +kernel
theorem dX4_doubleBits_13 : decode cX4_doubleBits 13 = .ok (.invokestatic 25, 3) := by decide +kernel
theorem dX4_doubleBits_16 : decode cX4_doubleBits 16 = .ok (.istore_n 3, 1) := by decide +kernel
theorem dX4_doubleBits_17 : decode cX4_doubleBits 17 = .ok (.lload_n 1, 1) := by decide +kernel
theorem dX4_doubleBits_18 : decode cX4_doubleBits 18 = .ok (.bipush 52, 2) := by decide +kernel
theorem dX4_doubleBits_20 : decode cX4_doubleBits 20 = .ok (.iload_n 3, 1) := by decide +kernel
theorem dX4_doubleBits_21 : decode cX4_doubleBits 21 = .ok (.isub, 1) := by decide +kernel
theorem dX4_doubleBits_22 : decode cX4_doubleBits 22 = .ok (.lshl, 1) := by decide +kernel
theorem dX4_doubleBits_23 : decode cX4_doubleBits 23 = .ok (.lstore 4, 2) := by decide +kernel
theorem dX4_doubleBits_25 : decode cX4_doubleBits 25 = .ok (.iload_n 3, 1) := by decide +kernel
theorem dX4_doubleBits_26 : decode cX4_doubleBits 26 = .ok (.i2l, 1) := by decide +kernel
theorem dX4_doubleBits_27 : decode cX4_doubleBits 27 = .ok (.ldc2_w 37, 3) := by decide +kernel
theorem dX4_doubleBits_30 : decode cX4_doubleBits 30 = .ok (.ladd, 1) := by decide +kernel
theorem dX4_doubleBits_31 : decode cX4_doubleBits 31 = .ok (.bipush 52, 2) := by decide +kernel
theorem dX4_doubleBits_33 : decode cX4_doubleBits 33 = .ok (.lshl, 1) := by decide +kernel
theorem dX4_doubleBits_34 : decode cX4_doubleBits 34 = .ok (.lload 4, 2) := by decide +kernel
theorem dX4_doubleBits_36 : decode cX4_doubleBits 36 = .ok (.ladd, 1) := by decide +kernel
theorem dX4_doubleBits_37 : decode cX4_doubleBits 37 = .ok (.ldc2_w 39, 3) := by decide +kernel
theorem dX4_doubleBits_40 : decode cX4_doubleBits 40 = .ok (.lsub, 1) := by decide +kernel
theorem dX4_doubleBits_41 : decode cX4_doubleBits 41 = .ok (.lstore 6, 2) := by decide +kernel
theorem dX4_doubleBits_43 : decode cX4_doubleBits 43 = .ok (.iload_n 0, 1) := by decide +kernel
theorem dX4_doubleBits_44 : decode cX4_doubleBits 44 = .ok (.ifCond .ge 12, 3) := by decide +kernel
theorem dX4_doubleBits_47 : decode cX4_doubleBits 47 = .ok (.lload 6, 2) := by decide +kernel
theorem dX4_doubleBits_49 : decode cX4_doubleBits 49 = .ok (.ldc2_w 41, 3) := by decide +kernel
theorem dX4_doubleBits_52 : decode cX4_doubleBits 52 = .ok (.lor, 1) := by decide +kernel
theorem dX4_doubleBits_53 : decode cX4_doubleBits 53 = .ok (.goto 5, 3) := by decide +kernel
theorem dX4_doubleBits_56 : decode cX4_doubleBits 56 = .ok (.lload 6, 2) := by decide +kernel
theorem dX4_doubleBits_58 : decode cX4_doubleBits 58 = .ok (.lreturn, 1) := by decide +kernel
theorem dX4_topBit_0 : decode cX4_topBit 0 = .ok (.iconst 0, 1) := by decide +kernel
theorem dX4_topBit_1 : decode cX4_topBit 1 = .ok (.istore_n 2, 1) := by decide +kernel
theorem dX4_topBit_2 : decode cX4_topBit 2 = .ok (.iconst 1, 1) := by decide +kernel
theorem dX4_topBit_3 : decode cX4_topBit 3 = .ok (.istore_n 3, 1) := by decide +kernel
theorem dX4_topBit_4 : decode cX4_topBit 4 = .ok (.iload_n 3, 1) := by decide +kernel
theorem dX4_topBit_5 : decode cX4_topBit 5 = .ok (.bipush 32, 2) := by decide +kernel
theorem dX4_topBit_7 : decode cX4_topBit 7 = .ok (.if_icmp .ge 19, 3) := by decide +kernel
theorem dX4_topBit_10 : decode cX4_topBit 10 = .ok (.lload_n 0, 1) := by decide +kernel
theorem dX4_topBit_11 : decode cX4_topBit 11 = .ok (.iload_n 3, 1) := by decide +kernel
theorem dX4_topBit_12 : decode cX4_topBit 12 = .ok (.lshr, 1) := by decide +kernel
theorem dX4_topBit_13 : decode cX4_topBit 13 = .ok (.lconst 0, 1) := by decide +kernel
theorem dX4_topBit_14 : decode cX4_topBit 14 = .ok (.lcmp, 1) := by decide +kernel
theorem dX4_topBit_15 : decode cX4_topBit 15 = .ok (.ifCond .eq 5, 3) := by decide +kernel
theorem dX4_topBit_18 : decode cX4_topBit 18 = .ok (.iload_n 3, 1) := by decide +kernel
theorem dX4_topBit_19 : decode cX4_topBit 19 = .ok (.istore_n 2, 1) := by decide +kernel
theorem dX4_topBit_20 : decode cX4_topBit 20 = .ok (.iinc 3 1, 3) := by decide +kernel
theorem dX4_topBit_23 : decode cX4_topBit 23 = .ok (.goto (-19), 3) := by decide +kernel
theorem dX4_topBit_26 : decode cX4_topBit 26 = .ok (.iload_n 2, 1) := by decide +kernel
theorem dX4_topBit_27 : decode cX4_topBit 27 = .ok (.ireturn, 1) := by decide +kernel
theorem dX4_shiftedToNearest_0 : decode cX4_shiftedToNearest 0 = .ok (.lload_n 0, 1) := by decide +kernel
theorem dX4_shiftedToNearest_1 : decode cX4_shiftedToNearest 1 = .ok (.iload_n 2, 1) := by decide +kernel
theorem dX4_shiftedToNearest_2 : decode cX4_shiftedToNearest 2 = .ok (.lshr, 1) := by decide +kernel
theorem dX4_shiftedToNearest_3 : decode cX4_shiftedToNearest 3 = .ok (.lstore_n 3, 1) := by decide +kernel
theorem dX4_shiftedToNearest_4 : decode cX4_shiftedToNearest 4 = .ok (.lload_n 0, 1) := by decide +kernel
theorem dX4_shiftedToNearest_5 : decode cX4_shiftedToNearest 5 = .ok (.lload_n 3, 1) := by decide +kernel
theorem dX4_shiftedToNearest_6 : decode cX4_shiftedToNearest 6 = .ok (.iload_n 2, 1) := by decide +kernel
theorem dX4_shiftedToNearest_7 : decode cX4_shiftedToNearest 7 = .ok (.lshl, 1) := by decide +kernel
theorem dX4_shiftedToNearest_8 : decode cX4_shiftedToNearest 8 = .ok (.lsub, 1) := by decide +kernel
theorem dX4_shiftedToNearest_9 : decode cX4_shiftedToNearest 9 = .ok (.lstore 5, 2) := by decide +kernel
theorem dX4_shiftedToNearest_11 : decode cX4_shiftedToNearest 11 = .ok (.lconst 1, 1) := by decide +kernel
theorem dX4_shiftedToNearest_12 : decode cX4_shiftedToNearest 12 = .ok (.iload_n 2, 1) := by decide +kernel
theorem dX4_shiftedToNearest_13 : decode cX4_shiftedToNearest 13 = .ok (.iconst 1, 1) := by decide +kernel
theorem dX4_shiftedToNearest_14 : decode cX4_shiftedToNearest 14 = .ok (.isub, 1) := by decide +kernel
theorem dX4_shiftedToNearest_15 : decode cX4_shiftedToNearest 15 = .ok (.lshl, 1) := by decide +kernel
theorem dX4_shiftedToNearest_16 : decode cX4_shiftedToNearest 16 = .ok (.lstore 7, 2) := by decide +kernel
theorem dX4_shiftedToNearest_18 : decode cX4_shiftedToNearest 18 = .ok (.lload 5, 2) := by decide +kernel
theorem dX4_shiftedToNearest_20 : decode cX4_shiftedToNearest 20 = .ok (.lload 7, 2) := by decide +kernel
theorem dX4_shiftedToNearest_22 : decode cX4_shiftedToNearest 22 = .ok (.lcmp, 1) := by decide +kernel
theorem dX4_shiftedToNearest_23 : decode cX4_shiftedToNearest 23 = .ok (.ifCond .gt 19, 3) := by decide +kernel
theorem dX4_shiftedToNearest_26 : decode cX4_shiftedToNearest 26 = .ok (.lload 5, 2) := by decide +kernel
theorem dX4_shiftedToNearest_28 : decode cX4_shiftedToNearest 28 = .ok (.lload 7, 2) := by decide +kernel
theorem dX4_shiftedToNearest_30 : decode cX4_shiftedToNearest 30 = .ok (.lcmp, 1) := by decide +kernel
theorem dX4_shiftedToNearest_31 : decode cX4_shiftedToNearest 31 = .ok (.ifCond .ne 15, 3) := by decide +kernel
theorem dX4_shiftedToNearest_34 : decode cX4_shiftedToNearest 34 = .ok (.lload_n 3, 1) := by decide +kernel
theorem dX4_shiftedToNearest_35 : decode cX4_shiftedToNearest 35 = .ok (.lconst 1, 1) := by decide +kernel
theorem dX4_shiftedToNearest_36 : decode cX4_shiftedToNearest 36 = .ok (.land, 1) := by decide +kernel
theorem dX4_shiftedToNearest_37 : decode cX4_shiftedToNearest 37 = .ok (.lconst 1, 1) := by decide +kernel
theorem dX4_shiftedToNearest_38 : decode cX4_shiftedToNearest 38 = .ok (.lcmp, 1) := by decide +kernel
theorem dX4_shiftedToNearest_39 : decode cX4_shiftedToNearest 39 = .ok (.ifCond .ne 7, 3) := by decide +kernel
theorem dX4_shiftedToNearest_42 : decode cX4_shiftedToNearest 42 = .ok (.iconst 1, 1) := by decide +kernel
theorem dX4_shiftedToNearest_43 : decode cX4_shiftedToNearest 43 = .ok (.goto 4, 3) := by decide +kernel
theorem dX4_shiftedToNearest_46 : decode cX4_shiftedToNearest 46 = .ok (.iconst 0, 1) := by decide +kernel
theorem dX4_shiftedToNearest_47 : decode cX4_shiftedToNearest 47 = .ok (.istore 9, 2) := by decide +kernel
theorem dX4_shiftedToNearest_49 : decode cX4_shiftedToNearest 49 = .ok (.iload 9, 2) := by decide +kernel
theorem dX4_shiftedToNearest_51 : decode cX4_shiftedToNearest 51 = .ok (.ifCond .eq 9, 3) := by decide +kernel
theorem dX4_shiftedToNearest_54 : decode cX4_shiftedToNearest 54 = .ok (.lload_n 3, 1) := by decide +kernel
theorem dX4_shiftedToNearest_55 : decode cX4_shiftedToNearest 55 = .ok (.lconst 1, 1) := by decide +kernel
theorem dX4_shiftedToNearest_56 : decode cX4_shiftedToNearest 56 = .ok (.ladd, 1) := by decide +kernel
theorem dX4_shiftedToNearest_57 : decode cX4_shiftedToNearest 57 = .ok (.goto 4, 3) := by decide +kernel
theorem dX4_shiftedToNearest_60 : decode cX4_shiftedToNearest 60 = .ok (.lload_n 3, 1) := by decide +kernel
theorem dX4_shiftedToNearest_61 : decode cX4_shiftedToNearest 61 = .ok (.lreturn, 1) := by decide +kernel
theorem dX5_init_0 : decode cX5_init 0 = .ok (.aload_n 0, 1) := by decide +kernel
theorem dX5_init_1 : decode cX5_init 1 = .ok (.invokespecial 3, 3) := by decide +kernel
theorem dX5_init_4 : decode cX5_init 4 = .ok (.aload_n 0, 1) := by decide +kernel
theorem dX5_init_5 : decode cX5_init 5 = .ok (.iload_n 1, 1) := by decide +kernel
theorem dX5_init_6 : decode cX5_init 6 = .ok (.putfield 9, 3) := by decide +kernel
theorem dX5_init_9 : decode cX5_init 9 = .ok (.aload_n 0, 1) := by decide +kernel
theorem dX5_init_10 : decode cX5_init 10 = .ok (.iload_n 2, 1) := by decide +kernel
theorem dX5_init_11 : decode cX5_init 11 = .ok (.newarray .long, 2) := by decide +kernel
theorem dX5_init_13 : decode cX5_init 13 = .ok (.putfield 15, 3) := by decide +kernel
theorem dX5_init_16 : decode cX5_init 16 = .ok (.return_, 1) := by decide +kernel
theorem dX5_appearance_0 : decode cX5_appearance 0 = .ok (.aload_n 0, 1) := by decide +kernel
theorem dX5_appearance_1 : decode cX5_appearance 1 = .ok (.getfield 9, 3) := by decide +kernel
theorem dX5_appearance_4 : decode cX5_appearance 4 = .ok (.ireturn, 1) := by decide +kernel
theorem dX5_measure_0 : decode cX5_measure 0 = .ok (.aload_n 0, 1) := by decide +kernel
theorem dX5_measure_1 : decode cX5_measure 1 = .ok (.getfield 15, 3) := by decide +kernel
theorem dX5_measure_4 : decode cX5_measure 4 = .ok (.arraylength, 1) := by decide +kernel
theorem dX5_measure_5 : decode cX5_measure 5 = .ok (.ireturn, 1) := by decide +kernel
theorem dX5_isOfFigures_0 : decode cX5_isOfFigures 0 = .ok (.aload_n 0, 1) := by decide +kernel
theorem dX5_isOfFigures_1 : decode cX5_isOfFigures 1 = .ok (.getfield 9, 3) := by decide +kernel
theorem dX5_isOfFigures_4 : decode cX5_isOfFigures 4 = .ok (.bipush 8, 2) := by decide +kernel
theorem dX5_isOfFigures_6 : decode cX5_isOfFigures 6 = .ok (.if_icmp .lt 7, 3) := by decide +kernel
theorem dX5_isOfFigures_9 : decode cX5_isOfFigures 9 = .ok (.iconst 1, 1) := by decide +kernel
theorem dX5_isOfFigures_10 : decode cX5_isOfFigures 10 = .ok (.goto 4, 3) := by decide +kernel
theorem dX5_isOfFigures_13 : decode cX5_isOfFigures 13 = .ok (.iconst 0, 1) := by decide +kernel
theorem dX5_isOfFigures_14 : decode cX5_isOfFigures 14 = .ok (.ireturn, 1) := by decide +kernel
theorem dX5_isAlike_0 : decode cX5_isAlike 0 = .ok (.aload_n 0, 1) := by decide +kernel
theorem dX5_isAlike_1 : decode cX5_isAlike 1 = .ok (.getfield 9, 3) := by decide +kernel
theorem dX5_isAlike_4 : decode cX5_isAlike 4 = .ok (.aload_n 1, 1) := by decide +kernel
theorem dX5_isAlike_5 : decode cX5_isAlike 5 = .ok (.getfield 9, 3) := by decide +kernel
theorem dX5_isAlike_8 : decode cX5_isAlike 8 = .ok (.if_icmp .eq 17, 3) := by decide +kernel
theorem dX5_isAlike_11 : decode cX5_isAlike 11 = .ok (.aload_n 0, 1) := by decide +kernel
theorem dX5_isAlike_12 : decode cX5_isAlike 12 = .ok (.invokevirtual 19, 3) := by decide +kernel
theorem dX5_isAlike_15 : decode cX5_isAlike 15 = .ok (.ifCond .eq 14, 3) := by decide +kernel
theorem dX5_isAlike_18 : decode cX5_isAlike 18 = .ok (.aload_n 1, 1) := by decide +kernel
theorem dX5_isAlike_19 : decode cX5_isAlike 19 = .ok (.invokevirtual 19, 3) := by decide +kernel
theorem dX5_isAlike_22 : decode cX5_isAlike 22 = .ok (.ifCond .eq 7, 3) := by decide +kernel
theorem dX5_isAlike_25 : decode cX5_isAlike 25 = .ok (.iconst 1, 1) := by decide +kernel
theorem dX5_isAlike_26 : decode cX5_isAlike 26 = .ok (.goto 4, 3) := by decide +kernel
theorem dX5_isAlike_29 : decode cX5_isAlike 29 = .ok (.iconst 0, 1) := by decide +kernel
theorem dX5_isAlike_30 : decode cX5_isAlike 30 = .ok (.ireturn, 1) := by decide +kernel
theorem dX5_hasPlace_0 : decode cX5_hasPlace 0 = .ok (.iload_n 1, 1) := by decide +kernel
theorem dX5_hasPlace_1 : decode cX5_hasPlace 1 = .ok (.ifCond .lt 16, 3) := by decide +kernel
theorem dX5_hasPlace_4 : decode cX5_hasPlace 4 = .ok (.iload_n 1, 1) := by decide +kernel
theorem dX5_hasPlace_5 : decode cX5_hasPlace 5 = .ok (.aload_n 0, 1) := by decide +kernel
theorem dX5_hasPlace_6 : decode cX5_hasPlace 6 = .ok (.getfield 15, 3) := by decide +kernel
theorem dX5_hasPlace_9 : decode cX5_hasPlace 9 = .ok (.arraylength, 1) := by decide +kernel
theorem dX5_hasPlace_10 : decode cX5_hasPlace 10 = .ok (.if_icmp .ge 7, 3) := by decide +kernel
theorem dX5_hasPlace_13 : decode cX5_hasPlace 13 = .ok (.iconst 1, 1) := by decide +kernel
theorem dX5_hasPlace_14 : decode cX5_hasPlace 14 = .ok (.goto 4, 3) := by decide +kernel
theorem dX5_hasPlace_17 : decode cX5_hasPlace 17 = .ok (.iconst 0, 1) := by decide +kernel
theorem dX5_hasPlace_18 : decode cX5_hasPlace 18 = .ok (.ireturn, 1) := by decide +kernel
theorem dX5_hasPlaces_0 : decode cX5_hasPlaces 0 = .ok (.iload_n 1, 1) := by decide +kernel
theorem dX5_hasPlaces_1 : decode cX5_hasPlaces 1 = .ok (.ifCond .lt 26, 3) := by decide +kernel
theorem dX5_hasPlaces_4 : decode cX5_hasPlaces 4 = .ok (.iload_n 2, 1) := by decide +kernel
theorem dX5_hasPlaces_5 : decode cX5_hasPlaces 5 = .ok (.ifCond .lt 22, 3) := by decide +kernel
theorem dX5_hasPlaces_8 : decode cX5_hasPlaces 8 = .ok (.iload_n 1, 1) := by decide +kernel
theorem dX5_hasPlaces_9 : decode cX5_hasPlaces 9 = .ok (.i2l, 1) := by decide +kernel
theorem dX5_hasPlaces_10 : decode cX5_hasPlaces 10 = .ok (.iload_n 2, 1) := by decide +kernel
theorem dX5_hasPlaces_11 : decode cX5_hasPlaces 11 = .ok (.i2l, 1) := by decide +kernel
theorem dX5_hasPlaces_12 : decode cX5_hasPlaces 12 = .ok (.ladd, 1) := by decide +kernel
theorem dX5_hasPlaces_13 : decode cX5_hasPlaces 13 = .ok (.aload_n 0, 1) := by decide +kernel
theorem dX5_hasPlaces_14 : decode cX5_hasPlaces 14 = .ok (.getfield 15, 3) := by decide +kernel
theorem dX5_hasPlaces_17 : decode cX5_hasPlaces 17 = .ok (.arraylength, 1) := by decide +kernel
theorem dX5_hasPlaces_18 : decode cX5_hasPlaces 18 = .ok (.i2l, 1) := by decide +kernel
theorem dX5_hasPlaces_19 : decode cX5_hasPlaces 19 = .ok (.lcmp, 1) := by decide +kernel
theorem dX5_hasPlaces_20 : decode cX5_hasPlaces 20 = .ok (.ifCond .gt 7, 3) := by decide +kernel
theorem dX5_hasPlaces_23 : decode cX5_hasPlaces 23 = .ok (.iconst 1, 1) := by decide +kernel
theorem dX5_hasPlaces_24 : decode cX5_hasPlaces 24 = .ok (.goto 4, 3) := by decide +kernel
theorem dX5_hasPlaces_27 : decode cX5_hasPlaces 27 = .ok (.iconst 0, 1) := by decide +kernel
theorem dX5_hasPlaces_28 : decode cX5_hasPlaces 28 = .ok (.ireturn, 1) := by decide +kernel
theorem dX5_canHave_0 : decode cX5_canHave 0 = .ok (.aload_n 0, 1) := by decide +kernel
theorem dX5_canHave_1 : decode cX5_canHave 1 = .ok (.getfield 9, 3) := by decide +kernel
theorem dX5_canHave_4 : decode cX5_canHave 4 = .ok (.tableswitch 78 9 11 #[28, 48, 63], 28) := by decide +kernel
theorem dX5_canHave_32 : decode cX5_canHave 32 = .ok (.iload_n 1, 1) := by decide +kernel
theorem dX5_canHave_33 : decode cX5_canHave 33 = .ok (.ifCond .eq 13, 3) := by decide +kernel
theorem dX5_canHave_36 : decode cX5_canHave 36 = .ok (.iload_n 1, 1) := by decide +kernel
theorem dX5_canHave_37 : decode cX5_canHave 37 = .ok (.iconst 2, 1) := by decide +kernel
theorem dX5_canHave_38 : decode cX5_canHave 38 = .ok (.if_icmp .eq 8, 3) := by decide +kernel
theorem dX5_canHave_41 : decode cX5_canHave 41 = .ok (.iload_n 1, 1) := by decide +kernel
theorem dX5_canHave_42 : decode cX5_canHave 42 = .ok (.iconst 3, 1) := by decide +kernel
theorem dX5_canHave_43 : decode cX5_canHave 43 = .ok (.if_icmp .ne 7, 3) := by decide +kernel
theorem dX5_canHave_46 : decode cX5_canHave 46 = .ok (.iconst 1, 1) := by decide +kernel
theorem dX5_canHave_47 : decode cX5_canHave 47 = .ok (.goto 4, 3) := by decide +kernel
theorem dX5_canHave_50 : decode cX5_canHave 50 = .ok (.iconst 0, 1) := by decide +kernel
theorem dX5_canHave_51 : decode cX5_canHave 51 = .ok (.ireturn, 1) := by decide +kernel
theorem dX5_canHave_52 : decode cX5_canHave 52 = .ok (.iload_n 1, 1) := by decide +kernel
theorem dX5_canHave_53 : decode cX5_canHave 53 = .ok (.ifCond .eq 8, 3) := by decide +kernel
theorem dX5_canHave_56 : decode cX5_canHave 56 = .ok (.iload_n 1, 1) := by decide +kernel
theorem dX5_canHave_57 : decode cX5_canHave 57 = .ok (.iconst 3, 1) := by decide +kernel
theorem dX5_canHave_58 : decode cX5_canHave 58 = .ok (.if_icmp .ne 7, 3) := by decide +kernel
theorem dX5_canHave_61 : decode cX5_canHave 61 = .ok (.iconst 1, 1) := by decide +kernel
theorem dX5_canHave_62 : decode cX5_canHave 62 = .ok (.goto 4, 3) := by decide +kernel
theorem dX5_canHave_65 : decode cX5_canHave 65 = .ok (.iconst 0, 1) := by decide +kernel
theorem dX5_canHave_66 : decode cX5_canHave 66 = .ok (.ireturn, 1) := by decide +kernel
theorem dX5_canHave_67 : decode cX5_canHave 67 = .ok (.iload_n 1, 1) := by decide +kernel
theorem dX5_canHave_68 : decode cX5_canHave 68 = .ok (.ifCond .eq 8, 3) := by decide +kernel
theorem dX5_canHave_71 : decode cX5_canHave 71 = .ok (.iload_n 1, 1) := by decide +kernel
theorem dX5_canHave_72 : decode cX5_canHave 72 = .ok (.iconst 4, 1) := by decide +kernel
theorem dX5_canHave_73 : decode cX5_canHave 73 = .ok (.if_icmp .ne 7, 3) := by decide +kernel
theorem dX5_canHave_76 : decode cX5_canHave 76 = .ok (.iconst 1, 1) := by decide +kernel
theorem dX5_canHave_77 : decode cX5_canHave 77 = .ok (.goto 4, 3) := by decide +kernel
theorem dX5_canHave_80 : decode cX5_canHave 80 = .ok (.iconst 0, 1) := by decide +kernel
theorem dX5_canHave_81 : decode cX5_canHave 81 = .ok (.ireturn, 1) := by decide +kernel
theorem dX5_canHave_82 : decode cX5_canHave 82 = .ok (.iconst 1, 1) := by decide +kernel
theorem dX5_canHave_83 : decode cX5_canHave 83 = .ok (.ireturn, 1) := by decide +kernel
theorem dX5_turn_0 : decode cX5_turn 0 = .ok (.aload_n 0, 1) := by decide +kernel
theorem dX5_turn_1 : decode cX5_turn 1 = .ok (.getfield 15, 3) := by decide +kernel
theorem dX5_turn_4 : decode cX5_turn 4 = .ok (.arraylength, 1) := by decide +kernel
theorem dX5_turn_5 : decode cX5_turn 5 = .ok (.istore_n 3, 1) := by decide +kernel
theorem dX5_turn_6 : decode cX5_turn 6 = .ok (.iload_n 3, 1) := by decide +kernel
theorem dX5_turn_7 : decode cX5_turn 7 = .ok (.ifCond .ne 4, 3) := by decide +kernel
theorem dX5_turn_10 : decode cX5_turn 10 = .ok (.return_, 1) := by decide +kernel
theorem dX5_turn_11 : decode cX5_turn 11 = .ok (.iload_n 1, 1) := by decide +kernel
theorem dX5_turn_12 : decode cX5_turn 12 = .ok (.iload_n 3, 1) := by decide +kernel
theorem dX5_turn_13 : decode cX5_turn 13 = .ok (.invokestatic 23, 3) := by decide +kernel
theorem dX5_turn_16 : decode cX5_turn 16 = .ok (.istore 4, 2) := by decide +kernel
theorem dX5_turn_18 : decode cX5_turn 18 = .ok (.aload_n 0, 1) := by decide +kernel
theorem dX5_turn_19 : decode cX5_turn 19 = .ok (.aload_n 2, 1) := by decide +kernel
theorem dX5_turn_20 : decode cX5_turn 20 = .ok (.invokevirtual 29, 3) := by decide +kernel
theorem dX5_turn_23 : decode cX5_turn 23 = .ok (.iconst 0, 1) := by decide +kernel
theorem dX5_turn_24 : decode cX5_turn 24 = .ok (.istore 5, 2) := by decide +kernel
theorem dX5_turn_26 : decode cX5_turn 26 = .ok (.iload 5, 2) := by decide +kernel
theorem dX5_turn_28 : decode cX5_turn 28 = .ok (.iload_n 3, 1) := by decide +kernel
theorem dX5_turn_29 : decode cX5_turn 29 = .ok (.if_icmp .ge 25, 3) := by decide +kernel
theorem dX5_turn_32 : decode cX5_turn 32 = .ok (.aload_n 0, 1) := by decide +kernel
theorem dX5_turn_33 : decode cX5_turn 33 = .ok (.getfield 15, 3) := by decide +kernel
theorem dX5_turn_36 : decode cX5_turn 36 = .ok (.iload 5, 2) := by decide +kernel
theorem dX5_turn_38 : decode cX5_turn 38 = .ok (.aload_n 2, 1) := by decide +kernel
theorem dX5_turn_39 : decode cX5_turn 39 = .ok (.iload 5, 2) := by decide +kernel
theorem dX5_turn_41 : decode cX5_turn 41 = .ok (.iload 4, 2) := by decide +kernel
theorem dX5_turn_43 : decode cX5_turn 43 = .ok (.iadd, 1) := by decide +kernel
theorem dX5_turn_44 : decode cX5_turn 44 = .ok (.iload_n 3, 1) := by decide +kernel
theorem dX5_turn_45 : decode cX5_turn 45 = .ok (.irem, 1) := by decide +kernel
theorem dX5_turn_46 : decode cX5_turn 46 = .ok (.laload, 1) := by decide +kernel
theorem dX5_turn_47 : decode cX5_turn 47 = .ok (.lastore, 1) := by decide +kernel
theorem dX5_turn_48 : decode cX5_turn 48 = .ok (.iinc 5 1, 3) := by decide +kernel
theorem dX5_turn_51 : decode cX5_turn 51 = .ok (.goto (-25), 3) := by decide +kernel
theorem dX5_turn_54 : decode cX5_turn 54 = .ok (.return_, 1) := by decide +kernel
theorem dX5_open_0 : decode cX5_open 0 = .ok (.aload_n 0, 1) := by decide +kernel
theorem dX5_open_1 : decode cX5_open 1 = .ok (.getfield 15, 3) := by decide +kernel
theorem dX5_open_4 : decode cX5_open 4 = .ok (.iload_n 1, 1) := by decide +kernel
theorem dX5_open_5 : decode cX5_open 5 = .ok (.aload_n 0, 1) := by decide +kernel
theorem dX5_open_6 : decode cX5_open 6 = .ok (.getfield 15, 3) := by decide +kernel
theorem dX5_open_9 : decode cX5_open 9 = .ok (.iload_n 1, 1) := by decide +kernel
theorem dX5_open_10 : decode cX5_open 10 = .ok (.iload_n 2, 1) := by decide +kernel
theorem dX5_open_11 : decode cX5_open 11 = .ok (.iadd, 1) := by decide +kernel
theorem dX5_open_12 : decode cX5_open 12 = .ok (.aload_n 0, 1) := by decide +kernel
theorem dX5_open_13 : decode cX5_open 13 = .ok (.getfield 15, 3) := by decide +kernel
theorem dX5_open_16 : decode cX5_open 16 = .ok (.arraylength, 1) := by decide +kernel
theorem dX5_open_17 : decode cX5_open 17 = .ok (.iload_n 1, 1) := by decide +kernel
theorem dX5_open_18 : decode cX5_open 18 = .ok (.isub, 1) := by decide +kernel
theorem dX5_open_19 : decode cX5_open 19 = .ok (.iload_n 2, 1) := by decide +kernel
theorem dX5_open_20 : decode cX5_open 20 = .ok (.isub, 1) := by decide +kernel
theorem dX5_open_21 : decode cX5_open 21 = .ok (.invokestatic 33, 3) := by decide +kernel
theorem dX5_open_24 : decode cX5_open 24 = .ok (.aload_n 0, 1) := by decide +kernel
theorem dX5_open_25 : decode cX5_open 25 = .ok (.iload_n 1, 1) := by decide +kernel
theorem dX5_open_26 : decode cX5_open 26 = .ok (.iload_n 1, 1) := by decide +kernel
theorem dX5_open_27 : decode cX5_open 27 = .ok (.iload_n 2, 1) := by decide +kernel
theorem dX5_open_28 : decode cX5_open 28 = .ok (.iadd, 1) := by decide +kernel
theorem dX5_open_29 : decode cX5_open 29 = .ok (.invokevirtual 39, 3) := by decide +kernel
theorem dX5_open_32 : decode cX5_open 32 = .ok (.return_, 1) := by decide +kernel
theorem dX5_shut_0 : decode cX5_shut 0 = .ok (.aload_n 0, 1) := by decide +kernel
theorem dX5_shut_1 : decode cX5_shut 1 = .ok (.getfield 15, 3) := by decide +kernel
theorem dX5_shut_4 : decode cX5_shut 4 = .ok (.iload_n 1, 1) := by decide +kernel
theorem dX5_shut_5 : decode cX5_shut 5 = .ok (.iload_n 2, 1) := by decide +kernel
theorem dX5_shut_6 : decode cX5_shut 6 = .ok (.iadd, 1) := by decide +kernel
theorem dX5_shut_7 : decode cX5_shut 7 = .ok (.aload_n 0, 1) := by decide +kernel
theorem dX5_shut_8 : decode cX5_shut 8 = .ok (.getfield 15, 3) := by decide +kernel
theorem dX5_shut_11 : decode cX5_shut 11 = .ok (.iload_n 1, 1) := by decide +kernel
theorem dX5_shut_12 : decode cX5_shut 12 = .ok (.aload_n 0, 1) := by decide +kernel
theorem dX5_shut_13 : decode cX5_shut 13 = .ok (.getfield 15, 3) := by decide +kernel
theorem dX5_shut_16 : decode cX5_shut 16 = .ok (.arraylength, 1) := by decide +kernel
theorem dX5_shut_17 : decode cX5_shut 17 = .ok (.iload_n 1, 1) := by decide +kernel
theorem dX5_shut_18 : decode cX5_shut 18 = .ok (.isub, 1) := by decide +kernel
theorem dX5_shut_19 : decode cX5_shut 19 = .ok (.iload_n 2, 1) := by decide +kernel
theorem dX5_shut_20 : decode cX5_shut 20 = .ok (.isub, 1) := by decide +kernel
theorem dX5_shut_21 : decode cX5_shut 21 = .ok (.invokestatic 33, 3) := by decide +kernel
theorem dX5_shut_24 : decode cX5_shut 24 = .ok (.aload_n 0, 1) := by decide +kernel
theorem dX5_shut_25 : decode cX5_shut 25 = .ok (.aload_n 0, 1) := by decide +kernel
theorem dX5_shut_26 : decode cX5_shut 26 = .ok (.getfield 15, 3) := by decide +kernel
theorem dX5_shut_29 : decode cX5_shut 29 = .ok (.arraylength, 1) := by decide +kernel
theorem dX5_shut_30 : decode cX5_shut 30 = .ok (.iload_n 2, 1) := by decide +kernel
theorem dX5_shut_31 : decode cX5_shut 31 = .ok (.isub, 1) := by decide +kernel
theorem dX5_shut_32 : decode cX5_shut 32 = .ok (.aload_n 0, 1) := by decide +kernel
theorem dX5_shut_33 : decode cX5_shut 33 = .ok (.getfield 15, 3) := by decide +kernel
theorem dX5_shut_36 : decode cX5_shut 36 = .ok (.arraylength, 1) := by decide +kernel
theorem dX5_shut_37 : decode cX5_shut 37 = .ok (.invokevirtual 39, 3) := by decide +kernel
theorem dX5_shut_40 : decode cX5_shut 40 = .ok (.return_, 1) := by decide +kernel
theorem dX5_empty_0 : decode cX5_empty 0 = .ok (.iload_n 1, 1) := by decide +kernel
theorem dX5_empty_1 : decode cX5_empty 1 = .ok (.istore_n 3, 1) := by decide +kernel
theorem dX5_empty_2 : decode cX5_empty 2 = .ok (.iload_n 3, 1) := by decide +kernel
theorem dX5_empty_3 : decode cX5_empty 3 = .ok (.iload_n 2, 1) := by decide +kernel
theorem dX5_empty_4 : decode cX5_empty 4 = .ok (.if_icmp .ge 16, 3) := by decide +kernel
theorem dX5_empty_7 : decode cX5_empty 7 = .ok (.aload_n 0, 1) := by decide +kernel
theorem dX5_empty_8 : decode cX5_empty 8 = .ok (.getfield 15, 3) := by decide +kernel
theorem dX5_empty_11 : decode cX5_empty 11 = .ok (.iload_n 3, 1) := by decide +kernel
theorem dX5_empty_12 : decode cX5_empty 12 = .ok (.lconst 0, 1) := by decide +kernel
theorem dX5_empty_13 : decode cX5_empty 13 = .ok (.lastore, 1) := by decide +kernel
theorem dX5_empty_14 : decode cX5_empty 14 = .ok (.iinc 3 1, 3) := by decide +kernel
theorem dX5_empty_17 : decode cX5_empty 17 = .ok (.goto (-15), 3) := by decide +kernel
theorem dX5_empty_20 : decode cX5_empty 20 = .ok (.return_, 1) := by decide +kernel
theorem dX5_copyTo_0 : decode cX5_copyTo 0 = .ok (.aload_n 0, 1) := by decide +kernel
theorem dX5_copyTo_1 : decode cX5_copyTo 1 = .ok (.getfield 15, 3) := by decide +kernel
theorem dX5_copyTo_4 : decode cX5_copyTo 4 = .ok (.iconst 0, 1) := by decide +kernel
theorem dX5_copyTo_5 : decode cX5_copyTo 5 = .ok (.aload_n 1, 1) := by decide +kernel
theorem dX5_copyTo_6 : decode cX5_copyTo 6 = .ok (.iconst 0, 1) := by decide +kernel
theorem dX5_copyTo_7 : decode cX5_copyTo 7 = .ok (.aload_n 0, 1) := by decide +kernel
theorem dX5_copyTo_8 : decode cX5_copyTo 8 = .ok (.getfield 15, 3) := by decide +kernel
theorem dX5_copyTo_11 : decode cX5_copyTo 11 = .ok (.arraylength, 1) := by decide +kernel
theorem dX5_copyTo_12 : decode cX5_copyTo 12 = .ok (.invokestatic 33, 3) := by decide +kernel
theorem dX5_copyTo_15 : decode cX5_copyTo 15 = .ok (.return_, 1) := by decide +kernel
theorem dX5_differsFrom_0 : decode cX5_differsFrom 0 = .ok (.iconst 0, 1) := by decide +kernel
theorem dX5_differsFrom_1 : decode cX5_differsFrom 1 = .ok (.istore_n 2, 1) := by decide +kernel
theorem dX5_differsFrom_2 : decode cX5_differsFrom 2 = .ok (.iload_n 2, 1) := by decide +kernel
theorem dX5_differsFrom_3 : decode cX5_differsFrom 3 = .ok (.aload_n 0, 1) := by decide +kernel
theorem dX5_differsFrom_4 : decode cX5_differsFrom 4 = .ok (.getfield 15, 3) := by decide +kernel
theorem dX5_differsFrom_7 : decode cX5_differsFrom 7 = .ok (.arraylength, 1) := by decide +kernel
theorem dX5_differsFrom_8 : decode cX5_differsFrom 8 = .ok (.if_icmp .ge 24, 3) := by decide +kernel
theorem dX5_differsFrom_11 : decode cX5_differsFrom 11 = .ok (.aload_n 0, 1) := by decide +kernel
theorem dX5_differsFrom_12 : decode cX5_differsFrom 12 = .ok (.getfield 15, 3) := by decide +kernel
theorem dX5_differsFrom_15 : decode cX5_differsFrom 15 = .ok (.iload_n 2, 1) := by decide +kernel
theorem dX5_differsFrom_16 : decode cX5_differsFrom 16 = .ok (.laload, 1) := by decide +kernel
theorem dX5_differsFrom_17 : decode cX5_differsFrom 17 = .ok (.aload_n 1, 1) := by decide +kernel
theorem dX5_differsFrom_18 : decode cX5_differsFrom 18 = .ok (.iload_n 2, 1) := by decide +kernel
theorem dX5_differsFrom_19 : decode cX5_differsFrom 19 = .ok (.laload, 1) := by decide +kernel
theorem dX5_differsFrom_20 : decode cX5_differsFrom 20 = .ok (.lcmp, 1) := by decide +kernel
theorem dX5_differsFrom_21 : decode cX5_differsFrom 21 = .ok (.ifCond .eq 5, 3) := by decide +kernel
theorem dX5_differsFrom_24 : decode cX5_differsFrom 24 = .ok (.iconst 1, 1) := by decide +kernel
theorem dX5_differsFrom_25 : decode cX5_differsFrom 25 = .ok (.ireturn, 1) := by decide +kernel
theorem dX5_differsFrom_26 : decode cX5_differsFrom 26 = .ok (.iinc 2 1, 3) := by decide +kernel
theorem dX5_differsFrom_29 : decode cX5_differsFrom 29 = .ok (.goto (-27), 3) := by decide +kernel
theorem dX5_differsFrom_32 : decode cX5_differsFrom 32 = .ok (.iconst 0, 1) := by decide +kernel
theorem dX5_differsFrom_33 : decode cX5_differsFrom 33 = .ok (.ireturn, 1) := by decide +kernel
theorem dX6_init_0 : decode cX6_init 0 = .ok (.aload_n 0, 1) := by decide +kernel
theorem dX6_init_1 : decode cX6_init 1 = .ok (.invokespecial 3, 3) := by decide +kernel
theorem dX6_init_4 : decode cX6_init 4 = .ok (.aload_n 0, 1) := by decide +kernel
theorem dX6_init_5 : decode cX6_init 5 = .ok (.sipush 400, 3) := by decide +kernel
theorem dX6_init_8 : decode cX6_init 8 = .ok (.anewarray 9, 3) := by decide +kernel
theorem dX6_init_11 : decode cX6_init 11 = .ok (.putfield 11, 3) := by decide +kernel
theorem dX6_init_14 : decode cX6_init 14 = .ok (.return_, 1) := by decide +kernel
theorem dX6_hasRoomForRow_0 : decode cX6_hasRoomForRow 0 = .ok (.aload_n 0, 1) := by decide +kernel
theorem dX6_hasRoomForRow_1 : decode cX6_hasRoomForRow 1 = .ok (.getfield 17, 3) := by decide +kernel
theorem dX6_hasRoomForRow_4 : decode cX6_hasRoomForRow 4 = .ok (.bipush 120, 2) := by decide +kernel
theorem dX6_hasRoomForRow_6 : decode cX6_hasRoomForRow 6 = .ok (.if_icmp .ge 25, 3) := by decide +kernel
theorem dX6_hasRoomForRow_9 : decode cX6_hasRoomForRow 9 = .ok (.iload_n 1, 1) := by decide +kernel
theorem dX6_hasRoomForRow_10 : decode cX6_hasRoomForRow 10 = .ok (.bipush 64, 2) := by decide +kernel
theorem dX6_hasRoomForRow_12 : decode cX6_hasRoomForRow 12 = .ok (.if_icmp .gt 19, 3) := by decide +kernel
theorem dX6_hasRoomForRow_15 : decode cX6_hasRoomForRow 15 = .ok (.aload_n 0, 1) := by decide +kernel
theorem dX6_hasRoomForRow_16 : decode cX6_hasRoomForRow 16 = .ok (.getfield 21, 3) := by decide +kernel
theorem dX6_hasRoomForRow_19 : decode cX6_hasRoomForRow 19 = .ok (.iload_n 1, 1) := by decide +kernel
theorem dX6_hasRoomForRow_20 : decode cX6_hasRoomForRow 20 = .ok (.iadd, 1) := by decide +kernel
theorem dX6_hasRoomForRow_21 : decode cX6_hasRoomForRow 21 = .ok (.sipush 3000, 3) := by decide +kernel
theorem dX6_hasRoomForRow_24 : decode cX6_hasRoomForRow 24 = .ok (.if_icmp .gt 7, 3) := by decide +kernel
theorem dX6_hasRoomForRow_27 : decode cX6_hasRoomForRow 27 = .ok (.iconst 1, 1) := by decide +kernel
theorem dX6_hasRoomForRow_28 : decode cX6_hasRoomForRow 28 = .ok (.goto 4, 3) := by decide +kernel
theorem dX6_hasRoomForRow_31 : decode cX6_hasRoomForRow 31 = .ok (.iconst 0, 1) := by decide +kernel
theorem dX6_hasRoomForRow_32 : decode cX6_hasRoomForRow 32 = .ok (.ireturn, 1) := by decide +kernel
theorem dX6_hasRoomForFigure_0 : decode cX6_hasRoomForFigure 0 = .ok (.aload_n 0, 1) := by decide +kernel
theorem dX6_hasRoomForFigure_1 : decode cX6_hasRoomForFigure 1 = .ok (.getfield 24, 3) := by decide +kernel
theorem dX6_hasRoomForFigure_4 : decode cX6_hasRoomForFigure 4 = .ok (.sipush 400, 3) := by decide +kernel
theorem dX6_hasRoomForFigure_7 : decode cX6_hasRoomForFigure 7 = .ok (.if_icmp .ge 7, 3) := by decide +kernel
theorem dX6_hasRoomForFigure_10 : decode cX6_hasRoomForFigure 10 = .ok (.iconst 1, 1) := by decide +kernel
theorem dX6_hasRoomForFigure_11 : decode cX6_hasRoomForFigure 11 = .ok (.goto 4, 3) := by decide +kernel
theorem dX6_hasRoomForFigure_14 : decode cX6_hasRoomForFigure 14 = .ok (.iconst 0, 1) := by decide +kernel
theorem dX6_hasRoomForFigure_15 : decode cX6_hasRoomForFigure 15 = .ok (.ireturn, 1) := by decide +kernel
theorem dX6_makeRow_0 : decode cX6_makeRow 0 = .ok (.aload_n 0, 1) := by decide +kernel
theorem dX6_makeRow_1 : decode cX6_makeRow 1 = .ok (.dup, 1) := by decide +kernel
theorem dX6_makeRow_2 : decode cX6_makeRow 2 = .ok (.getfield 17, 3) := by decide +kernel
theorem dX6_makeRow_5 : decode cX6_makeRow 5 = .ok (.iconst 1, 1) := by decide +kernel
theorem dX6_makeRow_6 : decode cX6_makeRow 6 = .ok (.iadd, 1) := by decide +kernel
theorem dX6_makeRow_7 : decode cX6_makeRow 7 = .ok (.putfield 17, 3) := by decide +kernel
theorem dX6_makeRow_10 : decode cX6_makeRow 10 = .ok (.aload_n 0, 1) := by decide +kernel
theorem dX6_makeRow_11 : decode cX6_makeRow 11 = .ok (.dup, 1) := by decide +kernel
theorem dX6_makeRow_12 : decode cX6_makeRow 12 = .ok (.getfield 21, 3) := by decide +kernel
theorem dX6_makeRow_15 : decode cX6_makeRow 15 = .ok (.iload_n 2, 1) := by decide +kernel
theorem dX6_makeRow_16 : decode cX6_makeRow 16 = .ok (.iadd, 1) := by decide +kernel
theorem dX6_makeRow_17 : decode cX6_makeRow 17 = .ok (.putfield 21, 3) := by decide +kernel
theorem dX6_makeRow_20 : decode cX6_makeRow 20 = .ok (.new 27, 3) := by decide +kernel
theorem dX6_makeRow_23 : decode cX6_makeRow 23 = .ok (.dup, 1) := by decide +kernel
theorem dX6_makeRow_24 : decode cX6_makeRow 24 = .ok (.iload_n 1, 1) := by decide +kernel
theorem dX6_makeRow_25 : decode cX6_makeRow 25 = .ok (.iload_n 2, 1) := by decide +kernel
theorem dX6_makeRow_26 : decode cX6_makeRow 26 = .ok (.invokespecial 29, 3) := by decide +kernel
theorem dX6_makeRow_29 : decode cX6_makeRow 29 = .ok (.areturn, 1) := by decide +kernel
theorem dX6_makeFigure_0 : decode cX6_makeFigure 0 = .ok (.new 9, 3) := by decide +kernel
theorem dX6_makeFigure_3 : decode cX6_makeFigure 3 = .ok (.dup, 1) := by decide +kernel
theorem dX6_makeFigure_4 : decode cX6_makeFigure 4 = .ok (.iload_n 1, 1) := by decide +kernel
theorem dX6_makeFigure_5 : decode cX6_makeFigure 5 = .ok (.aload_n 0, 1) := by decide +kernel
theorem dX6_makeFigure_6 : decode cX6_makeFigure 6 = .ok (.getfield 24, 3) := by decide +kernel
theorem dX6_makeFigure_9 : decode cX6_makeFigure 9 = .ok (.iconst 1, 1) := by decide +kernel
theorem dX6_makeFigure_10 : decode cX6_makeFigure 10 = .ok (.iadd, 1) := by decide +kernel
theorem dX6_makeFigure_11 : decode cX6_makeFigure 11 = .ok (.invokespecial 32, 3) := by decide +kernel
theorem dX6_makeFigure_14 : decode cX6_makeFigure 14 = .ok (.astore_n 2, 1) := by decide +kernel
theorem dX6_makeFigure_15 : decode cX6_makeFigure 15 = .ok (.aload_n 0, 1) := by decide +kernel
theorem dX6_makeFigure_16 : decode cX6_makeFigure 16 = .ok (.getfield 11, 3) := by decide +kernel
theorem dX6_makeFigure_19 : decode cX6_makeFigure 19 = .ok (.aload_n 0, 1) := by decide +kernel
theorem dX6_makeFigure_20 : decode cX6_makeFigure 20 = .ok (.getfield 24, 3) := by decide +kernel
theorem dX6_makeFigure_23 : decode cX6_makeFigure 23 = .ok (.aload_n 2, 1) := by decide +kernel
theorem dX6_makeFigure_24 : decode cX6_makeFigure 24 = .ok (.aastore, 1) := by decide +kernel
theorem dX6_makeFigure_25 : decode cX6_makeFigure 25 = .ok (.aload_n 0, 1) := by decide +kernel
theorem dX6_makeFigure_26 : decode cX6_makeFigure 26 = .ok (.dup, 1) := by decide +kernel
theorem dX6_makeFigure_27 : decode cX6_makeFigure 27 = .ok (.getfield 24, 3) := by decide +kernel
theorem dX6_makeFigure_30 : decode cX6_makeFigure 30 = .ok (.iconst 1, 1) := by decide +kernel
theorem dX6_makeFigure_31 : decode cX6_makeFigure 31 = .ok (.iadd, 1) := by decide +kernel
theorem dX6_makeFigure_32 : decode cX6_makeFigure 32 = .ok (.putfield 24, 3) := by decide +kernel
theorem dX6_makeFigure_35 : decode cX6_makeFigure 35 = .ok (.aload_n 2, 1) := by decide +kernel
theorem dX6_makeFigure_36 : decode cX6_makeFigure 36 = .ok (.areturn, 1) := by decide +kernel
theorem dX6_figureOf_0 : decode cX6_figureOf 0 = .ok (.lload_n 1, 1) := by decide +kernel
theorem dX6_figureOf_1 : decode cX6_figureOf 1 = .ok (.lconst 1, 1) := by decide +kernel
theorem dX6_figureOf_2 : decode cX6_figureOf 2 = .ok (.lcmp, 1) := by decide +kernel
theorem dX6_figureOf_3 : decode cX6_figureOf 3 = .ok (.ifCond .lt 13, 3) := by decide +kernel
theorem dX6_figureOf_6 : decode cX6_figureOf 6 = .ok (.lload_n 1, 1) := by decide +kernel
theorem dX6_figureOf_7 : decode cX6_figureOf 7 = .ok (.aload_n 0, 1) := by decide +kernel
theorem dX6_figureOf_8 : decode cX6_figureOf 8 = .ok (.getfield 24, 3) := by decide +kernel
theorem dX6_figureOf_11 : decode cX6_figureOf 11 = .ok (.i2l, 1) := by decide +kernel
theorem dX6_figureOf_12 : decode cX6_figureOf 12 = .ok (.lcmp, 1) := by decide +kernel
theorem dX6_figureOf_13 : decode cX6_figureOf 13 = .ok (.ifCond .le 5, 3) := by decide +kernel
theorem dX6_figureOf_16 : decode cX6_figureOf 16 = .ok (.aconst_null, 1) := by decide +kernel
theorem dX6_figureOf_17 : decode cX6_figureOf 17 = .ok (.areturn, 1) := by decide +kernel
theorem dX6_figureOf_18 : decode cX6_figureOf 18 = .ok (.aload_n 0, 1) := by decide +kernel
theorem dX6_figureOf_19 : decode cX6_figureOf 19 = .ok (.getfield 11, 3) := by decide +kernel
theorem dX6_figureOf_22 : decode cX6_figureOf 22 = .ok (.lload_n 1, 1) := by decide +kernel
theorem dX6_figureOf_23 : decode cX6_figureOf 23 = .ok (.l2i, 1) := by decide +kernel
theorem dX6_figureOf_24 : decode cX6_figureOf 24 = .ok (.iconst 1, 1) := by decide +kernel
theorem dX6_figureOf_25 : decode cX6_figureOf 25 = .ok (.isub, 1) := by decide +kernel
theorem dX6_figureOf_26 : decode cX6_figureOf 26 = .ok (.aaload, 1) := by decide +kernel
theorem dX6_figureOf_27 : decode cX6_figureOf 27 = .ok (.areturn, 1) := by decide +kernel
theorem dX6_sortOf_0 : decode cX6_sortOf 0 = .ok (.aload_n 0, 1) := by decide +kernel
theorem dX6_sortOf_1 : decode cX6_sortOf 1 = .ok (.lload_n 1, 1) := by decide +kernel
theorem dX6_sortOf_2 : decode cX6_sortOf 2 = .ok (.invokevirtual 33, 3) := by decide +kernel
theorem dX6_sortOf_5 : decode cX6_sortOf 5 = .ok (.astore_n 3, 1) := by decide +kernel
theorem dX6_sortOf_6 : decode cX6_sortOf 6 = .ok (.aload_n 3, 1) := by decide +kernel
theorem dX6_sortOf_7 : decode cX6_sortOf 7 = .ok (.ifnonnull 7, 3) := by decide +kernel
theorem dX6_sortOf_10 : decode cX6_sortOf 10 = .ok (.iconst 0, 1) := by decide +kernel
theorem dX6_sortOf_11 : decode cX6_sortOf 11 = .ok (.goto 7, 3) := by decide +kernel
theorem dX6_sortOf_14 : decode cX6_sortOf 14 = .ok (.aload_n 3, 1) := by decide +kernel
theorem dX6_sortOf_15 : decode cX6_sortOf 15 = .ok (.getfield 37, 3) := by decide +kernel
theorem dX6_sortOf_18 : decode cX6_sortOf 18 = .ok (.ireturn, 1) := by decide +kernel
theorem dX7_init_0 : decode cX7_init 0 = .ok (.aload_n 0, 1) := by decide +kernel
theorem dX7_init_1 : decode cX7_init 1 = .ok (.invokespecial 1, 3) := by decide +kernel
theorem dX7_init_4 : decode cX7_init 4 = .ok (.return_, 1) := by decide +kernel
theorem dX8_init_0 : decode cX8_init 0 = .ok (.aload_n 0, 1) := by decide +kernel
theorem dX8_init_1 : decode cX8_init 1 = .ok (.invokespecial 3, 3) := by decide +kernel
theorem dX8_init_4 : decode cX8_init 4 = .ok (.aload_n 0, 1) := by decide +kernel
theorem dX8_init_5 : decode cX8_init 5 = .ok (.bipush 60, 2) := by decide +kernel
theorem dX8_init_7 : decode cX8_init 7 = .ok (.newarray .int, 2) := by decide +kernel
theorem dX8_init_9 : decode cX8_init 9 = .ok (.putfield 9, 3) := by decide +kernel
theorem dX8_init_12 : decode cX8_init 12 = .ok (.aload_n 0, 1) := by decide +kernel
theorem dX8_init_13 : decode cX8_init 13 = .ok (.bipush 60, 2) := by decide +kernel
theorem dX8_init_15 : decode cX8_init 15 = .ok (.newarray .int, 2) := by decide +kernel
theorem dX8_init_17 : decode cX8_init 17 = .ok (.putfield 15, 3) := by decide +kernel
theorem dX8_init_20 : decode cX8_init 20 = .ok (.aload_n 0, 1) := by decide +kernel
theorem dX8_init_21 : decode cX8_init 21 = .ok (.bipush 60, 2) := by decide +kernel
theorem dX8_init_23 : decode cX8_init 23 = .ok (.newarray .int, 2) := by decide +kernel
theorem dX8_init_25 : decode cX8_init 25 = .ok (.putfield 18, 3) := by decide +kernel
theorem dX8_init_28 : decode cX8_init 28 = .ok (.aload_n 0, 1) := by decide +kernel
theorem dX8_init_29 : decode cX8_init 29 = .ok (.bipush 60, 2) := by decide +kernel
theorem dX8_init_31 : decode cX8_init 31 = .ok (.newarray .int, 2) := by decide +kernel
theorem dX8_init_33 : decode cX8_init 33 = .ok (.putfield 21, 3) := by decide +kernel
theorem dX8_init_36 : decode cX8_init 36 = .ok (.aload_n 0, 1) := by decide +kernel
theorem dX8_init_37 : decode cX8_init 37 = .ok (.bipush 60, 2) := by decide +kernel
theorem dX8_init_39 : decode cX8_init 39 = .ok (.newarray .int, 2) := by decide +kernel
theorem dX8_init_41 : decode cX8_init 41 = .ok (.putfield 24, 3) := by decide +kernel
theorem dX8_init_44 : decode cX8_init 44 = .ok (.return_, 1) := by decide +kernel
theorem dX8_append_0 : decode cX8_append 0 = .ok (.aload_n 0, 1) := by decide +kernel
theorem dX8_append_1 : decode cX8_append 1 = .ok (.getfield 27, 3) := by decide +kernel
theorem dX8_append_4 : decode cX8_append 4 = .ok (.istore 5, 2) := by decide +kernel
theorem dX8_append_6 : decode cX8_append 6 = .ok (.aload_n 0, 1) := by decide +kernel
theorem dX8_append_7 : decode cX8_append 7 = .ok (.getfield 9, 3) := by decide +kernel
theorem dX8_append_10 : decode cX8_append 10 = .ok (.iload 5, 2) := by decide +kernel
theorem dX8_append_12 : decode cX8_append 12 = .ok (.iload_n 1, 1) := by decide +kernel
theorem dX8_append_13 : decode cX8_append 13 = .ok (.iastore, 1) := by decide +kernel
theorem dX8_append_14 : decode cX8_append 14 = .ok (.aload_n 0, 1) := by decide +kernel
theorem dX8_append_15 : decode cX8_append 15 = .ok (.getfield 15, 3) := by decide +kernel
theorem dX8_append_18 : decode cX8_append 18 = .ok (.iload 5, 2) := by decide +kernel
theorem dX8_append_20 : decode cX8_append 20 = .ok (.iload_n 2, 1) := by decide +kernel
theorem dX8_append_21 : decode cX8_append 21 = .ok (.iastore, 1) := by decide +kernel
theorem dX8_append_22 : decode cX8_append 22 = .ok (.aload_n 0, 1) := by decide +kernel
theorem dX8_append_23 : decode cX8_append 23 = .ok (.getfield 18, 3) := by decide +kernel
theorem dX8_append_26 : decode cX8_append 26 = .ok (.iload 5, 2) := by decide +kernel
theorem dX8_append_28 : decode cX8_append 28 = .ok (.iload_n 3, 1) := by decide +kernel
theorem dX8_append_29 : decode cX8_append 29 = .ok (.iastore, 1) := by decide +kernel
theorem dX8_append_30 : decode cX8_append 30 = .ok (.aload_n 0, 1) := by decide +kernel
theorem dX8_append_31 : decode cX8_append 31 = .ok (.getfield 21, 3) := by decide +kernel
theorem dX8_append_34 : decode cX8_append 34 = .ok (.iload 5, 2) := by decide +kernel
theorem dX8_append_36 : decode cX8_append 36 = .ok (.iload 4, 2) := by decide +kernel
theorem dX8_append_38 : decode cX8_append 38 = .ok (.iastore, 1) := by decide +kernel
theorem dX8_append_39 : decode cX8_append 39 = .ok (.aload_n 0, 1) := by decide +kernel
theorem dX8_append_40 : decode cX8_append 40 = .ok (.dup, 1) := by decide +kernel
theorem dX8_append_41 : decode cX8_append 41 = .ok (.getfield 27, 3) := by decide +kernel
theorem dX8_append_44 : decode cX8_append 44 = .ok (.iconst 1, 1) := by decide +kernel
theorem dX8_append_45 : decode cX8_append 45 = .ok (.iadd, 1) := by decide +kernel
theorem dX8_append_46 : decode cX8_append 46 = .ok (.putfield 27, 3) := by decide +kernel
theorem dX8_append_49 : decode cX8_append 49 = .ok (.iload 5, 2) := by decide +kernel
theorem dX8_append_51 : decode cX8_append 51 = .ok (.ireturn, 1) := by decide +kernel
theorem dX8_forgetAgains_0 : decode cX8_forgetAgains 0 = .ok (.iconst 0, 1) := by decide +kernel
theorem dX8_forgetAgains_1 : decode cX8_forgetAgains 1 = .ok (.istore_n 1, 1) := by decide +kernel
theorem dX8_forgetAgains_2 : decode cX8_forgetAgains 2 = .ok (.iload_n 1, 1) := by decide +kernel
theorem dX8_forgetAgains_3 : decode cX8_forgetAgains 3 = .ok (.bipush 60, 2) := by decide +kernel
theorem dX8_forgetAgains_5 : decode cX8_forgetAgains 5 = .ok (.if_icmp .ge 16, 3) := by decide +kernel
theorem dX8_forgetAgains_8 : decode cX8_forgetAgains 8 = .ok (.aload_n 0, 1) := by decide +kernel
theorem dX8_forgetAgains_9 : decode cX8_forgetAgains 9 = .ok (.getfield 24, 3) := by decide +kernel
theorem dX8_forgetAgains_12 : decode cX8_forgetAgains 12 = .ok (.iload_n 1, 1) := by decide +kernel
theorem dX8_forgetAgains_13 : decode cX8_forgetAgains 13 = .ok (.iconst 0, 1) := by decide +kernel
theorem dX8_forgetAgains_14 : decode cX8_forgetAgains 14 = .ok (.iastore, 1) := by decide +kernel
theorem dX8_forgetAgains_15 : decode cX8_forgetAgains 15 = .ok (.iinc 1 1, 3) := by decide +kernel
theorem dX8_forgetAgains_18 : decode cX8_forgetAgains 18 = .ok (.goto (-16), 3) := by decide +kernel
theorem dX8_forgetAgains_21 : decode cX8_forgetAgains 21 = .ok (.return_, 1) := by decide +kernel
theorem dX8_following_0 : decode cX8_following 0 = .ok (.aload_n 0, 1) := by decide +kernel
theorem dX8_following_1 : decode cX8_following 1 = .ok (.getfield 9, 3) := by decide +kernel
theorem dX8_following_4 : decode cX8_following 4 = .ok (.iload_n 1, 1) := by decide +kernel
theorem dX8_following_5 : decode cX8_following 5 = .ok (.iaload, 1) := by decide +kernel
theorem dX8_following_6 : decode cX8_following 6 = .ok (.bipush 13, 2) := by decide +kernel
theorem dX8_following_8 : decode cX8_following 8 = .ok (.if_icmp .ne 14, 3) := by decide +kernel
theorem dX8_following_11 : decode cX8_following 11 = .ok (.iload_n 1, 1) := by decide +kernel
theorem dX8_following_12 : decode cX8_following 12 = .ok (.iconst 1, 1) := by decide +kernel
theorem dX8_following_13 : decode cX8_following 13 = .ok (.iadd, 1) := by decide +kernel
theorem dX8_following_14 : decode cX8_following 14 = .ok (.aload_n 0, 1) := by decide +kernel
theorem dX8_following_15 : decode cX8_following 15 = .ok (.getfield 21, 3) := by decide +kernel
theorem dX8_following_18 : decode cX8_following 18 = .ok (.iload_n 1, 1) := by decide +kernel
theorem dX8_following_19 : decode cX8_following 19 = .ok (.iaload, 1) := by decide +kernel
theorem dX8_following_20 : decode cX8_following 20 = .ok (.iadd, 1) := by decide +kernel
theorem dX8_following_21 : decode cX8_following 21 = .ok (.ireturn, 1) := by decide +kernel
theorem dX8_following_22 : decode cX8_following 22 = .ok (.aload_n 0, 1) := by decide +kernel
theorem dX8_following_23 : decode cX8_following 23 = .ok (.getfield 9, 3) := by decide +kernel
theorem dX8_following_26 : decode cX8_following 26 = .ok (.iload_n 1, 1) := by decide +kernel
theorem dX8_following_27 : decode cX8_following 27 = .ok (.iaload, 1) := by decide +kernel
theorem dX8_following_28 : decode cX8_following 28 = .ok (.bipush 14, 2) := by decide +kernel
theorem dX8_following_30 : decode cX8_following 30 = .ok (.if_icmp .eq 7, 3) := by decide +kernel
theorem dX8_following_33 : decode cX8_following 33 = .ok (.iload_n 1, 1) := by decide +kernel
theorem dX8_following_34 : decode cX8_following 34 = .ok (.iconst 1, 1) := by decide +kernel
theorem dX8_following_35 : decode cX8_following 35 = .ok (.iadd, 1) := by decide +kernel
theorem dX8_following_36 : decode cX8_following 36 = .ok (.ireturn, 1) := by decide +kernel
theorem dX8_following_37 : decode cX8_following 37 = .ok (.aload_n 0, 1) := by decide +kernel
theorem dX8_following_38 : decode cX8_following 38 = .ok (.getfield 24, 3) := by decide +kernel
theorem dX8_following_41 : decode cX8_following 41 = .ok (.iload_n 1, 1) := by decide +kernel
theorem dX8_following_42 : decode cX8_following 42 = .ok (.iaload, 1) := by decide +kernel
theorem dX8_following_43 : decode cX8_following 43 = .ok (.aload_n 0, 1) := by decide +kernel
theorem dX8_following_44 : decode cX8_following 44 = .ok (.getfield 21, 3) := by decide +kernel
theorem dX8_following_47 : decode cX8_following 47 = .ok (.iload_n 1, 1) := by decide +kernel
theorem dX8_following_48 : decode cX8_following 48 = .ok (.iaload, 1) := by decide +kernel
theorem dX8_following_49 : decode cX8_following 49 = .ok (.if_icmp .ge 26, 3) := by decide +kernel
theorem dX8_following_52 : decode cX8_following 52 = .ok (.aload_n 0, 1) := by decide +kernel
theorem dX8_following_53 : decode cX8_following 53 = .ok (.getfield 24, 3) := by decide +kernel
theorem dX8_following_56 : decode cX8_following 56 = .ok (.iload_n 1, 1) := by decide +kernel
theorem dX8_following_57 : decode cX8_following 57 = .ok (.dup2, 1) := by decide +kernel
theorem dX8_following_58 : decode cX8_following 58 = .ok (.iaload, 1) := by decide +kernel
theorem dX8_following_59 : decode cX8_following 59 = .ok (.iconst 1, 1) := by decide +kernel
theorem dX8_following_60 : decode cX8_following 60 = .ok (.iadd, 1) := by decide +kernel
theorem dX8_following_61 : decode cX8_following 61 = .ok (.iastore, 1) := by decide +kernel
theorem dX8_following_62 : decode cX8_following 62 = .ok (.iconst 0, 1) := by decide +kernel
theorem dX8_following_63 : decode cX8_following 63 = .ok (.iload_n 1, 1) := by decide +kernel
theorem dX8_following_64 : decode cX8_following 64 = .ok (.aload_n 0, 1) := by decide +kernel
theorem dX8_following_65 : decode cX8_following 65 = .ok (.getfield 18, 3) := by decide +kernel
theorem dX8_following_68 : decode cX8_following 68 = .ok (.iload_n 1, 1) := by decide +kernel
theorem dX8_following_69 : decode cX8_following 69 = .ok (.iaload, 1) := by decide +kernel
theorem dX8_following_70 : decode cX8_following 70 = .ok (.isub, 1) := by decide +kernel
theorem dX8_following_71 : decode cX8_following 71 = .ok (.invokestatic 31, 3) := by decide +kernel
theorem dX8_following_74 : decode cX8_following 74 = .ok (.ireturn, 1) := by decide +kernel
theorem dX8_following_75 : decode cX8_following 75 = .ok (.aload_n 0, 1) := by decide +kernel
theorem dX8_following_76 : decode cX8_following 76 = .ok (.getfield 24, 3) := by decide +kernel
theorem dX8_following_79 : decode cX8_following 79 = .ok (.iload_n 1, 1) := by decide +kernel
theorem dX8_following_80 : decode cX8_following 80 = .ok (.iconst 0, 1) := by decide +kernel
theorem dX8_following_81 : decode cX8_following 81 = .ok (.iastore, 1) := by decide +kernel
theorem dX8_following_82 : decode cX8_following 82 = .ok (.iload_n 1, 1) := by decide +kernel
theorem dX8_following_83 : decode cX8_following 83 = .ok (.iconst 1, 1) := by decide +kernel
theorem dX8_following_84 : decode cX8_following 84 = .ok (.iadd, 1) := by decide +kernel
theorem dX8_following_85 : decode cX8_following 85 = .ok (.ireturn, 1) := by decide +kernel
theorem dX8_meeting_0 : decode cX8_meeting 0 = .ok (.iload_n 1, 1) := by decide +kernel
theorem dX8_meeting_1 : decode cX8_meeting 1 = .ok (.iconst 1, 1) := by decide +kernel
theorem dX8_meeting_2 : decode cX8_meeting 2 = .ok (.iadd, 1) := by decide +kernel
theorem dX8_meeting_3 : decode cX8_meeting 3 = .ok (.istore_n 3, 1) := by decide +kernel
theorem dX8_meeting_4 : decode cX8_meeting 4 = .ok (.iconst 0, 1) := by decide +kernel
theorem dX8_meeting_5 : decode cX8_meeting 5 = .ok (.istore 4, 2) := by decide +kernel
theorem dX8_meeting_7 : decode cX8_meeting 7 = .ok (.iload 4, 2) := by decide +kernel
theorem dX8_meeting_9 : decode cX8_meeting 9 = .ok (.bipush 60, 2) := by decide +kernel
theorem dX8_meeting_11 : decode cX8_meeting 11 = .ok (.if_icmp .ge 51, 3) := by decide +kernel
theorem dX8_meeting_14 : decode cX8_meeting 14 = .ok (.aload_n 0, 1) := by decide +kernel
theorem dX8_meeting_15 : decode cX8_meeting 15 = .ok (.iload_n 3, 1) := by decide +kernel
theorem dX8_meeting_16 : decode cX8_meeting 16 = .ok (.invokevirtual 37, 3) := by decide +kernel
theorem dX8_meeting_19 : decode cX8_meeting 19 = .ok (.ifCond .eq 43, 3) := by decide +kernel
theorem dX8_meeting_22 : decode cX8_meeting 22 = .ok (.aload_n 0, 1) := by decide +kernel
theorem dX8_meeting_23 : decode cX8_meeting 23 = .ok (.getfield 15, 3) := by decide +kernel
theorem dX8_meeting_26 : decode cX8_meeting 26 = .ok (.iload_n 3, 1) := by decide +kernel
theorem dX8_meeting_27 : decode cX8_meeting 27 = .ok (.iaload, 1) := by decide +kernel
theorem dX8_meeting_28 : decode cX8_meeting 28 = .ok (.ifCond .eq 13, 3) := by decide +kernel
theorem dX8_meeting_31 : decode cX8_meeting 31 = .ok (.aload_n 0, 1) := by decide +kernel
theorem dX8_meeting_32 : decode cX8_meeting 32 = .ok (.getfield 15, 3) := by decide +kernel
theorem dX8_meeting_35 : decode cX8_meeting 35 = .ok (.iload_n 3, 1) := by decide +kernel
theorem dX8_meeting_36 : decode cX8_meeting 36 = .ok (.iaload, 1) := by decide +kernel
theorem dX8_meeting_37 : decode cX8_meeting 37 = .ok (.iload_n 2, 1) := by decide +kernel
theorem dX8_meeting_38 : decode cX8_meeting 38 = .ok (.if_icmp .ne 7, 3) := by decide +kernel
theorem dX8_meeting_41 : decode cX8_meeting 41 = .ok (.iload_n 3, 1) := by decide +kernel
theorem dX8_meeting_42 : decode cX8_meeting 42 = .ok (.iconst 1, 1) := by decide +kernel
theorem dX8_meeting_43 : decode cX8_meeting 43 = .ok (.iadd, 1) := by decide +kernel
theorem dX8_meeting_44 : decode cX8_meeting 44 = .ok (.ireturn, 1) := by decide +kernel
theorem dX8_meeting_45 : decode cX8_meeting 45 = .ok (.iload_n 3, 1) := by decide +kernel
theorem dX8_meeting_46 : decode cX8_meeting 46 = .ok (.aload_n 0, 1) := by decide +kernel
theorem dX8_meeting_47 : decode cX8_meeting 47 = .ok (.getfield 21, 3) := by decide +kernel
theorem dX8_meeting_50 : decode cX8_meeting 50 = .ok (.iload_n 3, 1) := by decide +kernel
theorem dX8_meeting_51 : decode cX8_meeting 51 = .ok (.iaload, 1) := by decide +kernel
theorem dX8_meeting_52 : decode cX8_meeting 52 = .ok (.iconst 1, 1) := by decide +kernel
theorem dX8_meeting_53 : decode cX8_meeting 53 = .ok (.iadd, 1) := by decide +kernel
theorem dX8_meeting_54 : decode cX8_meeting 54 = .ok (.iadd, 1) := by decide +kernel
theorem dX8_meeting_55 : decode cX8_meeting 55 = .ok (.istore_n 3, 1) := by decide +kernel
theorem dX8_meeting_56 : decode cX8_meeting 56 = .ok (.iinc 4 1, 3) := by decide +kernel
theorem dX8_meeting_59 : decode cX8_meeting 59 = .ok (.goto (-52), 3) := by decide +kernel
theorem dX8_meeting_62 : decode cX8_meeting 62 = .ok (.iconst (-1), 1) := by decide +kernel
theorem dX8_meeting_63 : decode cX8_meeting 63 = .ok (.ireturn, 1) := by decide +kernel
theorem dX8_isWhen_0 : decode cX8_isWhen 0 = .ok (.iload_n 1, 1) := by decide +kernel
theorem dX8_isWhen_1 : decode cX8_isWhen 1 = .ok (.ifCond .lt 26, 3) := by decide +kernel
theorem dX8_isWhen_4 : decode cX8_isWhen 4 = .ok (.iload_n 1, 1) := by decide +kernel
theorem dX8_isWhen_5 : decode cX8_isWhen 5 = .ok (.aload_n 0, 1) := by decide +kernel
theorem dX8_isWhen_6 : decode cX8_isWhen 6 = .ok (.getfield 27, 3) := by decide +kernel
theorem dX8_isWhen_9 : decode cX8_isWhen 9 = .ok (.if_icmp .ge 18, 3) := by decide +kernel
theorem dX8_isWhen_12 : decode cX8_isWhen 12 = .ok (.aload_n 0, 1) := by decide +kernel
theorem dX8_isWhen_13 : decode cX8_isWhen 13 = .ok (.getfield 9, 3) := by decide +kernel
theorem dX8_isWhen_16 : decode cX8_isWhen 16 = .ok (.iload_n 1, 1) := by decide +kernel
theorem dX8_isWhen_17 : decode cX8_isWhen 17 = .ok (.iaload, 1) := by decide +kernel
theorem dX8_isWhen_18 : decode cX8_isWhen 18 = .ok (.bipush 13, 2) := by decide +kernel
theorem dX8_isWhen_20 : decode cX8_isWhen 20 = .ok (.if_icmp .ne 7, 3) := by decide +kernel
theorem dX8_isWhen_23 : decode cX8_isWhen 23 = .ok (.iconst 1, 1) := by decide +kernel
theorem dX8_isWhen_24 : decode cX8_isWhen 24 = .ok (.goto 4, 3) := by decide +kernel
theorem dX8_isWhen_27 : decode cX8_isWhen 27 = .ok (.iconst 0, 1) := by decide +kernel
theorem dX8_isWhen_28 : decode cX8_isWhen 28 = .ok (.ireturn, 1) := by decide +kernel
theorem dX9_init_0 : decode cX9_init 0 = .ok (.aload_n 0, 1) := by decide +kernel
theorem dX9_init_1 : decode cX9_init 1 = .ok (.invokespecial 3, 3) := by decide +kernel
theorem dX9_init_4 : decode cX9_init 4 = .ok (.aload_n 0, 1) := by decide +kernel
theorem dX9_init_5 : decode cX9_init 5 = .ok (.new 9, 3) := by decide +kernel
theorem dX9_init_8 : decode cX9_init 8 = .ok (.dup, 1) := by decide +kernel
theorem dX9_init_9 : decode cX9_init 9 = .ok (.invokespecial 11, 3) := by decide +kernel
theorem dX9_init_12 : decode cX9_init 12 = .ok (.putfield 12, 3) := by decide +kernel
theorem dX9_init_15 : decode cX9_init 15 = .ok (.aload_n 0, 1) := by decide +kernel
theorem dX9_init_16 : decode cX9_init 16 = .ok (.new 16, 3) := by decide +kernel
theorem dX9_init_19 : decode cX9_init 19 = .ok (.dup, 1) := by decide +kernel
theorem dX9_init_20 : decode cX9_init 20 = .ok (.invokespecial 18, 3) := by decide +kernel
theorem dX9_init_23 : decode cX9_init 23 = .ok (.putfield 19, 3) := by decide +kernel
theorem dX9_init_26 : decode cX9_init 26 = .ok (.aload_n 0, 1) := by decide +kernel
theorem dX9_init_27 : decode cX9_init 27 = .ok (.new 23, 3) := by decide +kernel
theorem dX9_init_30 : decode cX9_init 30 = .ok (.dup, 1) := by decide +kernel
theorem dX9_init_31 : decode cX9_init 31 = .ok (.invokespecial 25, 3) := by decide +kernel
theorem dX9_init_34 : decode cX9_init 34 = .ok (.putfield 26, 3) := by decide +kernel
theorem dX9_init_37 : decode cX9_init 37 = .ok (.aload_n 0, 1) := by decide +kernel
theorem dX9_init_38 : decode cX9_init 38 = .ok (.bipush 64, 2) := by decide +kernel
theorem dX9_init_40 : decode cX9_init 40 = .ok (.newarray .long, 2) := by decide +kernel
theorem dX9_init_42 : decode cX9_init 42 = .ok (.putfield 30, 3) := by decide +kernel
theorem dX9_init_45 : decode cX9_init 45 = .ok (.aload_n 0, 1) := by decide +kernel
theorem dX9_init_46 : decode cX9_init 46 = .ok (.iconst (-1), 1) := by decide +kernel
theorem dX9_init_47 : decode cX9_init 47 = .ok (.putfield 34, 3) := by decide +kernel
theorem dX9_init_50 : decode cX9_init 50 = .ok (.return_, 1) := by decide +kernel
theorem dX9_order_0 : decode cX9_order 0 = .ok (.iload_n 1, 1) := by decide +kernel
theorem dX9_order_1 : decode cX9_order 1 = .ok (.iload_n 2, 1) := by decide +kernel
theorem dX9_order_2 : decode cX9_order 2 = .ok (.iload_n 3, 1) := by decide +kernel
theorem dX9_order_3 : decode cX9_order 3 = .ok (.iload 4, 2) := by decide +kernel
theorem dX9_order_5 : decode cX9_order 5 = .ok (.invokestatic 38, 3) := by decide +kernel
theorem dX9_order_8 : decode cX9_order 8 = .ok (.ifCond .eq 15, 3) := by decide +kernel
theorem dX9_order_11 : decode cX9_order 11 = .ok (.aload_n 0, 1) := by decide +kernel
theorem dX9_order_12 : decode cX9_order 12 = .ok (.getfield 19, 3) := by decide +kernel
theorem dX9_order_15 : decode cX9_order 15 = .ok (.getfield 42, 3) := by decide +kernel
theorem dX9_order_18 : decode cX9_order 18 = .ok (.bipush 60, 2) := by decide +kernel
theorem dX9_order_20 : decode cX9_order 20 = .ok (.if_icmp .lt 5, 3) := by decide +kernel
theorem dX9_order_23 : decode cX9_order 23 = .ok (.iconst (-1), 1) := by decide +kernel
end
section
theorem dX9_order_24 : decode cX9_order 24 = .ok (.ireturn, 1) := by decide +kernel
theorem dX9_order_25 : decode cX9_order 25 = .ok (.aload_n 0, 1) := by decide +kernel
theorem dX9_order_26 : decode cX9_order 26 = .ok (.getfield 19, 3) := by decide +kernel
theorem dX9_order_29 : decode cX9_order 29 = .ok (.iload_n 1, 1) := by decide +kernel
theorem dX9_order_30 : decode cX9_order 30 = .ok (.iload_n 2, 1) := by decide +kernel
theorem dX9_order_31 : decode cX9_order 31 = .ok (.iload_n 3, 1) := by decide +kernel
theorem dX9_order_32 : decode cX9_order 32 = .ok (.iload 4, 2) := by decide +kernel
theorem dX9_order_34 : decode cX9_order 34 = .ok (.invokevirtual 45, 3) := by decide +kernel
theorem dX9_order_37 : decode cX9_order 37 = .ok (.ireturn, 1) := by decide +kernel
theorem dX9_cut_0 : decode cX9_cut 0 = .ok (.iload_n 1, 1) := by decide +kernel
theorem dX9_cut_1 : decode cX9_cut 1 = .ok (.ifCond .lt 14, 3) := by decide +kernel
theorem dX9_cut_4 : decode cX9_cut 4 = .ok (.iload_n 1, 1) := by decide +kernel
theorem dX9_cut_5 : decode cX9_cut 5 = .ok (.aload_n 0, 1) := by decide +kernel
theorem dX9_cut_6 : decode cX9_cut 6 = .ok (.getfield 19, 3) := by decide +kernel
theorem dX9_cut_9 : decode cX9_cut 9 = .ok (.getfield 42, 3) := by decide +kernel
theorem dX9_cut_12 : decode cX9_cut 12 = .ok (.if_icmp .le 5, 3) := by decide +kernel
theorem dX9_cut_15 : decode cX9_cut 15 = .ok (.iconst 0, 1) := by decide +kernel
theorem dX9_cut_16 : decode cX9_cut 16 = .ok (.ireturn, 1) := by decide +kernel
theorem dX9_cut_17 : decode cX9_cut 17 = .ok (.aload_n 0, 1) := by decide +kernel
theorem dX9_cut_18 : decode cX9_cut 18 = .ok (.getfield 19, 3) := by decide +kernel
theorem dX9_cut_21 : decode cX9_cut 21 = .ok (.iload_n 1, 1) := by decide +kernel
theorem dX9_cut_22 : decode cX9_cut 22 = .ok (.putfield 42, 3) := by decide +kernel
theorem dX9_cut_25 : decode cX9_cut 25 = .ok (.iconst 1, 1) := by decide +kernel
theorem dX9_cut_26 : decode cX9_cut 26 = .ok (.ireturn, 1) := by decide +kernel
theorem dX9_act_0 : decode cX9_act 0 = .ok (.iload_n 1, 1) := by decide +kernel
theorem dX9_act_1 : decode cX9_act 1 = .ok (.bipush 12, 2) := by decide +kernel
theorem dX9_act_3 : decode cX9_act 3 = .ok (.if_icmp .gt 14, 3) := by decide +kernel
theorem dX9_act_6 : decode cX9_act 6 = .ok (.iload_n 1, 1) := by decide +kernel
theorem dX9_act_7 : decode cX9_act 7 = .ok (.iload_n 2, 1) := by decide +kernel
theorem dX9_act_8 : decode cX9_act 8 = .ok (.iload_n 3, 1) := by decide +kernel
theorem dX9_act_9 : decode cX9_act 9 = .ok (.iload 4, 2) := by decide +kernel
theorem dX9_act_11 : decode cX9_act 11 = .ok (.invokestatic 38, 3) := by decide +kernel
theorem dX9_act_14 : decode cX9_act 14 = .ok (.ifCond .ne 5, 3) := by decide +kernel
theorem dX9_act_17 : decode cX9_act 17 = .ok (.iconst (-1), 1) := by decide +kernel
theorem dX9_act_18 : decode cX9_act 18 = .ok (.ireturn, 1) := by decide +kernel
theorem dX9_act_19 : decode cX9_act 19 = .ok (.aload_n 0, 1) := by decide +kernel
theorem dX9_act_20 : decode cX9_act 20 = .ok (.getfield 49, 3) := by decide +kernel
theorem dX9_act_23 : decode cX9_act 23 = .ok (.sipush 4000, 3) := by decide +kernel
theorem dX9_act_26 : decode cX9_act 26 = .ok (.if_icmp .lt 6, 3) := by decide +kernel
theorem dX9_act_29 : decode cX9_act 29 = .ok (.bipush 6, 2) := by decide +kernel
theorem dX9_act_31 : decode cX9_act 31 = .ok (.ireturn, 1) := by decide +kernel
theorem dX9_act_32 : decode cX9_act 32 = .ok (.aload_n 0, 1) := by decide +kernel
theorem dX9_act_33 : decode cX9_act 33 = .ok (.iload_n 1, 1) := by decide +kernel
theorem dX9_act_34 : decode cX9_act 34 = .ok (.iload_n 2, 1) := by decide +kernel
theorem dX9_act_35 : decode cX9_act 35 = .ok (.iload_n 3, 1) := by decide +kernel
theorem dX9_act_36 : decode cX9_act 36 = .ok (.iload 4, 2) := by decide +kernel
theorem dX9_act_38 : decode cX9_act 38 = .ok (.invokevirtual 52, 3) := by decide +kernel
theorem dX9_act_41 : decode cX9_act 41 = .ok (.ireturn, 1) := by decide +kernel
theorem dX9_run_0 : decode cX9_run 0 = .ok (.iload_n 1, 1) := by decide +kernel
theorem dX9_run_1 : decode cX9_run 1 = .ok (.ifCond .lt 10, 3) := by decide +kernel
theorem dX9_run_4 : decode cX9_run 4 = .ok (.iload_n 1, 1) := by decide +kernel
theorem dX9_run_5 : decode cX9_run 5 = .ok (.sipush 300, 3) := by decide +kernel
theorem dX9_run_8 : decode cX9_run 8 = .ok (.if_icmp .le 5, 3) := by decide +kernel
theorem dX9_run_11 : decode cX9_run 11 = .ok (.iconst (-1), 1) := by decide +kernel
theorem dX9_run_12 : decode cX9_run 12 = .ok (.ireturn, 1) := by decide +kernel
theorem dX9_run_13 : decode cX9_run 13 = .ok (.aload_n 0, 1) := by decide +kernel
theorem dX9_run_14 : decode cX9_run 14 = .ok (.getfield 19, 3) := by decide +kernel
theorem dX9_run_17 : decode cX9_run 17 = .ok (.invokevirtual 55, 3) := by decide +kernel
theorem dX9_run_20 : decode cX9_run 20 = .ok (.aload_n 0, 1) := by decide +kernel
theorem dX9_run_21 : decode cX9_run 21 = .ok (.iconst 0, 1) := by decide +kernel
theorem dX9_run_22 : decode cX9_run 22 = .ok (.putfield 58, 3) := by decide +kernel
theorem dX9_run_25 : decode cX9_run 25 = .ok (.aload_n 0, 1) := by decide +kernel
theorem dX9_run_26 : decode cX9_run 26 = .ok (.iconst (-1), 1) := by decide +kernel
theorem dX9_run_27 : decode cX9_run 27 = .ok (.putfield 34, 3) := by decide +kernel
theorem dX9_run_30 : decode cX9_run 30 = .ok (.iconst 0, 1) := by decide +kernel
theorem dX9_run_31 : decode cX9_run 31 = .ok (.istore_n 2, 1) := by decide +kernel
theorem dX9_run_32 : decode cX9_run 32 = .ok (.iconst 0, 1) := by decide +kernel
theorem dX9_run_33 : decode cX9_run 33 = .ok (.istore_n 3, 1) := by decide +kernel
theorem dX9_run_34 : decode cX9_run 34 = .ok (.iload_n 3, 1) := by decide +kernel
theorem dX9_run_35 : decode cX9_run 35 = .ok (.iload_n 1, 1) := by decide +kernel
theorem dX9_run_36 : decode cX9_run 36 = .ok (.if_icmp .gt 158, 3) := by decide +kernel
theorem dX9_run_39 : decode cX9_run 39 = .ok (.iload_n 2, 1) := by decide +kernel
theorem dX9_run_40 : decode cX9_run 40 = .ok (.aload_n 0, 1) := by decide +kernel
theorem dX9_run_41 : decode cX9_run 41 = .ok (.getfield 19, 3) := by decide +kernel
theorem dX9_run_44 : decode cX9_run 44 = .ok (.getfield 42, 3) := by decide +kernel
theorem dX9_run_47 : decode cX9_run 47 = .ok (.if_icmp .ge 147, 3) := by decide +kernel
theorem dX9_run_50 : decode cX9_run 50 = .ok (.aload_n 0, 1) := by decide +kernel
theorem dX9_run_51 : decode cX9_run 51 = .ok (.getfield 49, 3) := by decide +kernel
theorem dX9_run_54 : decode cX9_run 54 = .ok (.sipush 4000, 3) := by decide +kernel
theorem dX9_run_57 : decode cX9_run 57 = .ok (.if_icmp .lt 11, 3) := by decide +kernel
theorem dX9_run_60 : decode cX9_run 60 = .ok (.aload_n 0, 1) := by decide +kernel
theorem dX9_run_61 : decode cX9_run 61 = .ok (.iload_n 2, 1) := by decide +kernel
theorem dX9_run_62 : decode cX9_run 62 = .ok (.putfield 34, 3) := by decide +kernel
theorem dX9_run_65 : decode cX9_run 65 = .ok (.bipush 6, 2) := by decide +kernel
theorem dX9_run_67 : decode cX9_run 67 = .ok (.ireturn, 1) := by decide +kernel
theorem dX9_run_68 : decode cX9_run 68 = .ok (.iload_n 3, 1) := by decide +kernel
theorem dX9_run_69 : decode cX9_run 69 = .ok (.iload_n 1, 1) := by decide +kernel
theorem dX9_run_70 : decode cX9_run 70 = .ok (.if_icmp .ne 6, 3) := by decide +kernel
theorem dX9_run_73 : decode cX9_run 73 = .ok (.bipush 7, 2) := by decide +kernel
theorem dX9_run_75 : decode cX9_run 75 = .ok (.ireturn, 1) := by decide +kernel
theorem dX9_run_76 : decode cX9_run 76 = .ok (.aload_n 0, 1) := by decide +kernel
theorem dX9_run_77 : decode cX9_run 77 = .ok (.dup, 1) := by decide +kernel
theorem dX9_run_78 : decode cX9_run 78 = .ok (.getfield 58, 3) := by decide +kernel
theorem dX9_run_81 : decode cX9_run 81 = .ok (.iconst 1, 1) := by decide +kernel
theorem dX9_run_82 : decode cX9_run 82 = .ok (.iadd, 1) := by decide +kernel
theorem dX9_run_83 : decode cX9_run 83 = .ok (.putfield 58, 3) := by decide +kernel
theorem dX9_run_86 : decode cX9_run 86 = .ok (.aload_n 0, 1) := by decide +kernel
theorem dX9_run_87 : decode cX9_run 87 = .ok (.aload_n 0, 1) := by decide +kernel
theorem dX9_run_88 : decode cX9_run 88 = .ok (.getfield 19, 3) := by decide +kernel
theorem dX9_run_91 : decode cX9_run 91 = .ok (.getfield 61, 3) := by decide +kernel
theorem dX9_run_94 : decode cX9_run 94 = .ok (.iload_n 2, 1) := by decide +kernel
theorem dX9_run_95 : decode cX9_run 95 = .ok (.iaload, 1) := by decide +kernel
theorem dX9_run_96 : decode cX9_run 96 = .ok (.aload_n 0, 1) := by decide +kernel
theorem dX9_run_97 : decode cX9_run 97 = .ok (.getfield 19, 3) := by decide +kernel
theorem dX9_run_100 : decode cX9_run 100 = .ok (.getfield 65, 3) := by decide +kernel
theorem dX9_run_103 : decode cX9_run 103 = .ok (.iload_n 2, 1) := by decide +kernel
theorem dX9_run_104 : decode cX9_run 104 = .ok (.iaload, 1) := by decide +kernel
theorem dX9_run_105 : decode cX9_run 105 = .ok (.aload_n 0, 1) := by decide +kernel
theorem dX9_run_106 : decode cX9_run 106 = .ok (.getfield 19, 3) := by decide +kernel
theorem dX9_run_109 : decode cX9_run 109 = .ok (.getfield 68, 3) := by decide +kernel
theorem dX9_run_112 : decode cX9_run 112 = .ok (.iload_n 2, 1) := by decide +kernel
theorem dX9_run_113 : decode cX9_run 113 = .ok (.iaload, 1) := by decide +kernel
theorem dX9_run_114 : decode cX9_run 114 = .ok (.aload_n 0, 1) := by decide +kernel
theorem dX9_run_115 : decode cX9_run 115 = .ok (.getfield 19, 3) := by decide +kernel
theorem dX9_run_118 : decode cX9_run 118 = .ok (.getfield 71, 3) := by decide +kernel
theorem dX9_run_121 : decode cX9_run 121 = .ok (.iload_n 2, 1) := by decide +kernel
theorem dX9_run_122 : decode cX9_run 122 = .ok (.iaload, 1) := by decide +kernel
theorem dX9_run_123 : decode cX9_run 123 = .ok (.invokevirtual 52, 3) := by decide +kernel
theorem dX9_run_126 : decode cX9_run 126 = .ok (.istore 4, 2) := by decide +kernel
theorem dX9_run_128 : decode cX9_run 128 = .ok (.iload 4, 2) := by decide +kernel
theorem dX9_run_130 : decode cX9_run 130 = .ok (.ifCond .ne 14, 3) := by decide +kernel
theorem dX9_run_133 : decode cX9_run 133 = .ok (.aload_n 0, 1) := by decide +kernel
theorem dX9_run_134 : decode cX9_run 134 = .ok (.getfield 19, 3) := by decide +kernel
theorem dX9_run_137 : decode cX9_run 137 = .ok (.iload_n 2, 1) := by decide +kernel
theorem dX9_run_138 : decode cX9_run 138 = .ok (.invokevirtual 74, 3) := by decide +kernel
theorem dX9_run_141 : decode cX9_run 141 = .ok (.goto 13, 3) := by decide +kernel
theorem dX9_run_144 : decode cX9_run 144 = .ok (.aload_n 0, 1) := by decide +kernel
theorem dX9_run_145 : decode cX9_run 145 = .ok (.getfield 19, 3) := by decide +kernel
theorem dX9_run_148 : decode cX9_run 148 = .ok (.iload_n 2, 1) := by decide +kernel
theorem dX9_run_149 : decode cX9_run 149 = .ok (.iload 4, 2) := by decide +kernel
theorem dX9_run_151 : decode cX9_run 151 = .ok (.invokevirtual 78, 3) := by decide +kernel
theorem dX9_run_154 : decode cX9_run 154 = .ok (.istore 5, 2) := by decide +kernel
theorem dX9_run_156 : decode cX9_run 156 = .ok (.iload 5, 2) := by decide +kernel
theorem dX9_run_158 : decode cX9_run 158 = .ok (.iconst (-1), 1) := by decide +kernel
theorem dX9_run_159 : decode cX9_run 159 = .ok (.if_icmp .ne 11, 3) := by decide +kernel
theorem dX9_run_162 : decode cX9_run 162 = .ok (.aload_n 0, 1) := by decide +kernel
theorem dX9_run_163 : decode cX9_run 163 = .ok (.iload_n 2, 1) := by decide +kernel
theorem dX9_run_164 : decode cX9_run 164 = .ok (.putfield 34, 3) := by decide +kernel
theorem dX9_run_167 : decode cX9_run 167 = .ok (.iload 4, 2) := by decide +kernel
theorem dX9_run_169 : decode cX9_run 169 = .ok (.ireturn, 1) := by decide +kernel
theorem dX9_run_170 : decode cX9_run 170 = .ok (.iload 4, 2) := by decide +kernel
theorem dX9_run_172 : decode cX9_run 172 = .ok (.ifCond .eq 13, 3) := by decide +kernel
theorem dX9_run_175 : decode cX9_run 175 = .ok (.aload_n 0, 1) := by decide +kernel
theorem dX9_run_176 : decode cX9_run 176 = .ok (.dup, 1) := by decide +kernel
theorem dX9_run_177 : decode cX9_run 177 = .ok (.getfield 82, 3) := by decide +kernel
theorem dX9_run_180 : decode cX9_run 180 = .ok (.iconst 1, 1) := by decide +kernel
theorem dX9_run_181 : decode cX9_run 181 = .ok (.iadd, 1) := by decide +kernel
theorem dX9_run_182 : decode cX9_run 182 = .ok (.putfield 82, 3) := by decide +kernel
theorem dX9_run_185 : decode cX9_run 185 = .ok (.iload 5, 2) := by decide +kernel
theorem dX9_run_187 : decode cX9_run 187 = .ok (.istore_n 2, 1) := by decide +kernel
theorem dX9_run_188 : decode cX9_run 188 = .ok (.iinc 3 1, 3) := by decide +kernel
theorem dX9_run_191 : decode cX9_run 191 = .ok (.goto (-157), 3) := by decide +kernel
theorem dX9_run_194 : decode cX9_run 194 = .ok (.iconst 0, 1) := by decide +kernel
theorem dX9_run_195 : decode cX9_run 195 = .ok (.ireturn, 1) := by decide +kernel
theorem dX9_back_0 : decode cX9_back 0 = .ok (.aload_n 0, 1) := by decide +kernel
theorem dX9_back_1 : decode cX9_back 1 = .ok (.getfield 26, 3) := by decide +kernel
theorem dX9_back_4 : decode cX9_back 4 = .ok (.invokevirtual 85, 3) := by decide +kernel
theorem dX9_back_7 : decode cX9_back 7 = .ok (.ireturn, 1) := by decide +kernel
theorem dX9_look_0 : decode cX9_look 0 = .ok (.iload_n 1, 1) := by decide +kernel
theorem dX9_look_1 : decode cX9_look 1 = .ok (.invokestatic 89, 3) := by decide +kernel
theorem dX9_look_4 : decode cX9_look 4 = .ok (.ifCond .ne 5, 3) := by decide +kernel
theorem dX9_look_7 : decode cX9_look 7 = .ok (.iconst (-1), 1) := by decide +kernel
theorem dX9_look_8 : decode cX9_look 8 = .ok (.ireturn, 1) := by decide +kernel
theorem dX9_look_9 : decode cX9_look 9 = .ok (.aload_n 0, 1) := by decide +kernel
theorem dX9_look_10 : decode cX9_look 10 = .ok (.getfield 12, 3) := by decide +kernel
theorem dX9_look_13 : decode cX9_look 13 = .ok (.getfield 93, 3) := by decide +kernel
theorem dX9_look_16 : decode cX9_look 16 = .ok (.iload_n 1, 1) := by decide +kernel
theorem dX9_look_17 : decode cX9_look 17 = .ok (.aaload, 1) := by decide +kernel
theorem dX9_look_18 : decode cX9_look 18 = .ok (.astore_n 3, 1) := by decide +kernel
theorem dX9_look_19 : decode cX9_look 19 = .ok (.iload_n 2, 1) := by decide +kernel
theorem dX9_look_20 : decode cX9_look 20 = .ok (.tableswitch 77 0 3 #[32, 45, 58, 68], 32) := by decide +kernel
theorem dX9_look_52 : decode cX9_look 52 = .ok (.aload_n 3, 1) := by decide +kernel
theorem dX9_look_53 : decode cX9_look 53 = .ok (.ifnonnull 7, 3) := by decide +kernel
theorem dX9_look_56 : decode cX9_look 56 = .ok (.iconst (-1), 1) := by decide +kernel
theorem dX9_look_57 : decode cX9_look 57 = .ok (.goto 7, 3) := by decide +kernel
theorem dX9_look_60 : decode cX9_look 60 = .ok (.aload_n 3, 1) := by decide +kernel
theorem dX9_look_61 : decode cX9_look 61 = .ok (.invokevirtual 97, 3) := by decide +kernel
theorem dX9_look_64 : decode cX9_look 64 = .ok (.ireturn, 1) := by decide +kernel
theorem dX9_look_65 : decode cX9_look 65 = .ok (.aload_n 3, 1) := by decide +kernel
theorem dX9_look_66 : decode cX9_look 66 = .ok (.ifnonnull 7, 3) := by decide +kernel
theorem dX9_look_69 : decode cX9_look 69 = .ok (.iconst (-1), 1) := by decide +kernel
theorem dX9_look_70 : decode cX9_look 70 = .ok (.goto 7, 3) := by decide +kernel
theorem dX9_look_73 : decode cX9_look 73 = .ok (.aload_n 3, 1) := by decide +kernel
theorem dX9_look_74 : decode cX9_look 74 = .ok (.invokevirtual 103, 3) := by decide +kernel
theorem dX9_look_77 : decode cX9_look 77 = .ok (.ireturn, 1) := by decide +kernel
theorem dX9_look_78 : decode cX9_look 78 = .ok (.aload_n 0, 1) := by decide +kernel
theorem dX9_look_79 : decode cX9_look 79 = .ok (.getfield 12, 3) := by decide +kernel
theorem dX9_look_82 : decode cX9_look 82 = .ok (.getfield 106, 3) := by decide +kernel
theorem dX9_look_85 : decode cX9_look 85 = .ok (.iload_n 1, 1) := by decide +kernel
theorem dX9_look_86 : decode cX9_look 86 = .ok (.iaload, 1) := by decide +kernel
theorem dX9_look_87 : decode cX9_look 87 = .ok (.ireturn, 1) := by decide +kernel
theorem dX9_look_88 : decode cX9_look 88 = .ok (.aload_n 0, 1) := by decide +kernel
theorem dX9_look_89 : decode cX9_look 89 = .ok (.getfield 12, 3) := by decide +kernel
theorem dX9_look_92 : decode cX9_look 92 = .ok (.aload_n 3, 1) := by decide +kernel
theorem dX9_look_93 : decode cX9_look 93 = .ok (.invokevirtual 109, 3) := by decide +kernel
theorem dX9_look_96 : decode cX9_look 96 = .ok (.ireturn, 1) := by decide +kernel
theorem dX9_look_97 : decode cX9_look 97 = .ok (.iconst (-1), 1) := by decide +kernel
theorem dX9_look_98 : decode cX9_look 98 = .ok (.ireturn, 1) := by decide +kernel
theorem dX9_cell_0 : decode cX9_cell 0 = .ok (.iload_n 1, 1) := by decide +kernel
theorem dX9_cell_1 : decode cX9_cell 1 = .ok (.invokestatic 89, 3) := by decide +kernel
theorem dX9_cell_4 : decode cX9_cell 4 = .ok (.ifCond .eq 43, 3) := by decide +kernel
theorem dX9_cell_7 : decode cX9_cell 7 = .ok (.aload_n 0, 1) := by decide +kernel
theorem dX9_cell_8 : decode cX9_cell 8 = .ok (.getfield 12, 3) := by decide +kernel
theorem dX9_cell_11 : decode cX9_cell 11 = .ok (.getfield 93, 3) := by decide +kernel
theorem dX9_cell_14 : decode cX9_cell 14 = .ok (.iload_n 1, 1) := by decide +kernel
theorem dX9_cell_15 : decode cX9_cell 15 = .ok (.aaload, 1) := by decide +kernel
theorem dX9_cell_16 : decode cX9_cell 16 = .ok (.astore 4, 2) := by decide +kernel
theorem dX9_cell_18 : decode cX9_cell 18 = .ok (.aload 4, 2) := by decide +kernel
theorem dX9_cell_20 : decode cX9_cell 20 = .ok (.instanceof 113, 3) := by decide +kernel
theorem dX9_cell_23 : decode cX9_cell 23 = .ok (.ifCond .eq 24, 3) := by decide +kernel
theorem dX9_cell_26 : decode cX9_cell 26 = .ok (.aload 4, 2) := by decide +kernel
theorem dX9_cell_28 : decode cX9_cell 28 = .ok (.checkcast 113, 3) := by decide +kernel
theorem dX9_cell_31 : decode cX9_cell 31 = .ok (.astore_n 3, 1) := by decide +kernel
theorem dX9_cell_32 : decode cX9_cell 32 = .ok (.aload_n 3, 1) := by decide +kernel
theorem dX9_cell_33 : decode cX9_cell 33 = .ok (.iload_n 2, 1) := by decide +kernel
theorem dX9_cell_34 : decode cX9_cell 34 = .ok (.invokevirtual 115, 3) := by decide +kernel
theorem dX9_cell_37 : decode cX9_cell 37 = .ok (.ifCond .eq 10, 3) := by decide +kernel
theorem dX9_cell_40 : decode cX9_cell 40 = .ok (.aload_n 3, 1) := by decide +kernel
theorem dX9_cell_41 : decode cX9_cell 41 = .ok (.getfield 118, 3) := by decide +kernel
theorem dX9_cell_44 : decode cX9_cell 44 = .ok (.iload_n 2, 1) := by decide +kernel
theorem dX9_cell_45 : decode cX9_cell 45 = .ok (.laload, 1) := by decide +kernel
theorem dX9_cell_46 : decode cX9_cell 46 = .ok (.lreturn, 1) := by decide +kernel
theorem dX9_cell_47 : decode cX9_cell 47 = .ok (.lconst 0, 1) := by decide +kernel
theorem dX9_cell_48 : decode cX9_cell 48 = .ok (.lreturn, 1) := by decide +kernel
theorem dX9_sort_0 : decode cX9_sort 0 = .ok (.aload_n 0, 1) := by decide +kernel
theorem dX9_sort_1 : decode cX9_sort 1 = .ok (.getfield 12, 3) := by decide +kernel
theorem dX9_sort_4 : decode cX9_sort 4 = .ok (.getfield 121, 3) := by decide +kernel
theorem dX9_sort_7 : decode cX9_sort 7 = .ok (.iload_n 1, 1) := by decide +kernel
theorem dX9_sort_8 : decode cX9_sort 8 = .ok (.i2l, 1) := by decide +kernel
theorem dX9_sort_9 : decode cX9_sort 9 = .ok (.invokevirtual 125, 3) := by decide +kernel
theorem dX9_sort_12 : decode cX9_sort 12 = .ok (.astore_n 2, 1) := by decide +kernel
theorem dX9_sort_13 : decode cX9_sort 13 = .ok (.aload_n 2, 1) := by decide +kernel
theorem dX9_sort_14 : decode cX9_sort 14 = .ok (.ifnonnull 7, 3) := by decide +kernel
theorem dX9_sort_17 : decode cX9_sort 17 = .ok (.iconst (-1), 1) := by decide +kernel
theorem dX9_sort_18 : decode cX9_sort 18 = .ok (.goto 7, 3) := by decide +kernel
theorem dX9_sort_21 : decode cX9_sort 21 = .ok (.aload_n 2, 1) := by decide +kernel
theorem dX9_sort_22 : decode cX9_sort 22 = .ok (.getfield 131, 3) := by decide +kernel
theorem dX9_sort_25 : decode cX9_sort 25 = .ok (.ireturn, 1) := by decide +kernel
theorem dX9_count_0 : decode cX9_count 0 = .ok (.iload_n 1, 1) := by decide +kernel
theorem dX9_count_1 : decode cX9_count 1 = .ok (.tableswitch 129 0 9 #[55, 63, 68, 79, 90, 101, 109, 114, 119, 124], 55) := by decide +kernel
theorem dX9_count_56 : decode cX9_count 56 = .ok (.aload_n 0, 1) := by decide +kernel
theorem dX9_count_57 : decode cX9_count 57 = .ok (.getfield 19, 3) := by decide +kernel
theorem dX9_count_60 : decode cX9_count 60 = .ok (.getfield 42, 3) := by decide +kernel
theorem dX9_count_63 : decode cX9_count 63 = .ok (.ireturn, 1) := by decide +kernel
theorem dX9_count_64 : decode cX9_count 64 = .ok (.aload_n 0, 1) := by decide +kernel
theorem dX9_count_65 : decode cX9_count 65 = .ok (.getfield 49, 3) := by decide +kernel
theorem dX9_count_68 : decode cX9_count 68 = .ok (.ireturn, 1) := by decide +kernel
theorem dX9_count_69 : decode cX9_count 69 = .ok (.aload_n 0, 1) := by decide +kernel
theorem dX9_count_70 : decode cX9_count 70 = .ok (.getfield 12, 3) := by decide +kernel
theorem dX9_count_73 : decode cX9_count 73 = .ok (.getfield 121, 3) := by decide +kernel
theorem dX9_count_76 : decode cX9_count 76 = .ok (.getfield 136, 3) := by decide +kernel
theorem dX9_count_79 : decode cX9_count 79 = .ok (.ireturn, 1) := by decide +kernel
theorem dX9_count_80 : decode cX9_count 80 = .ok (.aload_n 0, 1) := by decide +kernel
theorem dX9_count_81 : decode cX9_count 81 = .ok (.getfield 12, 3) := by decide +kernel
theorem dX9_count_84 : decode cX9_count 84 = .ok (.getfield 121, 3) := by decide +kernel
theorem dX9_count_87 : decode cX9_count 87 = .ok (.getfield 139, 3) := by decide +kernel
theorem dX9_count_90 : decode cX9_count 90 = .ok (.ireturn, 1) := by decide +kernel
theorem dX9_count_91 : decode cX9_count 91 = .ok (.aload_n 0, 1) := by decide +kernel
theorem dX9_count_92 : decode cX9_count 92 = .ok (.getfield 12, 3) := by decide +kernel
theorem dX9_count_95 : decode cX9_count 95 = .ok (.getfield 121, 3) := by decide +kernel
theorem dX9_count_98 : decode cX9_count 98 = .ok (.getfield 142, 3) := by decide +kernel
theorem dX9_count_101 : decode cX9_count 101 = .ok (.ireturn, 1) := by decide +kernel
theorem dX9_count_102 : decode cX9_count 102 = .ok (.aload_n 0, 1) := by decide +kernel
theorem dX9_count_103 : decode cX9_count 103 = .ok (.getfield 26, 3) := by decide +kernel
theorem dX9_count_106 : decode cX9_count 106 = .ok (.getfield 145, 3) := by decide +kernel
theorem dX9_count_109 : decode cX9_count 109 = .ok (.ireturn, 1) := by decide +kernel
theorem dX9_count_110 : decode cX9_count 110 = .ok (.aload_n 0, 1) := by decide +kernel
theorem dX9_count_111 : decode cX9_count 111 = .ok (.getfield 148, 3) := by decide +kernel
theorem dX9_count_114 : decode cX9_count 114 = .ok (.ireturn, 1) := by decide +kernel
theorem dX9_count_115 : decode cX9_count 115 = .ok (.aload_n 0, 1) := by decide +kernel
theorem dX9_count_116 : decode cX9_count 116 = .ok (.getfield 82, 3) := by decide +kernel
theorem dX9_count_119 : decode cX9_count 119 = .ok (.ireturn, 1) := by decide +kernel
theorem dX9_count_120 : decode cX9_count 120 = .ok (.aload_n 0, 1) := by decide +kernel
theorem dX9_count_121 : decode cX9_count 121 = .ok (.getfield 58, 3) := by decide +kernel
theorem dX9_count_124 : decode cX9_count 124 = .ok (.ireturn, 1) := by decide +kernel
theorem dX9_count_125 : decode cX9_count 125 = .ok (.aload_n 0, 1) := by decide +kernel
theorem dX9_count_126 : decode cX9_count 126 = .ok (.getfield 34, 3) := by decide +kernel
theorem dX9_count_129 : decode cX9_count 129 = .ok (.ireturn, 1) := by decide +kernel
theorem dX9_count_130 : decode cX9_count 130 = .ok (.iconst (-1), 1) := by decide +kernel
theorem dX9_count_131 : decode cX9_count 131 = .ok (.ireturn, 1) := by decide +kernel
theorem dX9_isWithin_0 : decode cX9_isWithin 0 = .ok (.iload_n 0, 1) := by decide +kernel
theorem dX9_isWithin_1 : decode cX9_isWithin 1 = .ok (.iload_n 1, 1) := by decide +kernel
theorem dX9_isWithin_2 : decode cX9_isWithin 2 = .ok (.if_icmp .lt 12, 3) := by decide +kernel
theorem dX9_isWithin_5 : decode cX9_isWithin 5 = .ok (.iload_n 0, 1) := by decide +kernel
theorem dX9_isWithin_6 : decode cX9_isWithin 6 = .ok (.iload_n 2, 1) := by decide +kernel
theorem dX9_isWithin_7 : decode cX9_isWithin 7 = .ok (.if_icmp .gt 7, 3) := by decide +kernel
theorem dX9_isWithin_10 : decode cX9_isWithin 10 = .ok (.iconst 1, 1) := by decide +kernel
theorem dX9_isWithin_11 : decode cX9_isWithin 11 = .ok (.goto 4, 3) := by decide +kernel
theorem dX9_isWithin_14 : decode cX9_isWithin 14 = .ok (.iconst 0, 1) := by decide +kernel
theorem dX9_isWithin_15 : decode cX9_isWithin 15 = .ok (.ireturn, 1) := by decide +kernel
theorem dX9_isSpindle_0 : decode cX9_isSpindle 0 = .ok (.iload_n 0, 1) := by decide +kernel
theorem dX9_isSpindle_1 : decode cX9_isSpindle 1 = .ok (.iconst 0, 1) := by decide +kernel
theorem dX9_isSpindle_2 : decode cX9_isSpindle 2 = .ok (.bipush 9, 2) := by decide +kernel
theorem dX9_isSpindle_4 : decode cX9_isSpindle 4 = .ok (.invokestatic 151, 3) := by decide +kernel
theorem dX9_isSpindle_7 : decode cX9_isSpindle 7 = .ok (.ireturn, 1) := by decide +kernel
theorem dX9_isAsTold_0 : decode cX9_isAsTold 0 = .ok (.iload_n 0, 1) := by decide +kernel
theorem dX9_isAsTold_1 : decode cX9_isAsTold 1 = .ok (.tableswitch 196 0 14 #[75, 80, 75, 75, 75, 100, 80, 80, 80, 123, 75, 80, 80, 145, 170], 75) := by decide +kernel
theorem dX9_isAsTold_76 : decode cX9_isAsTold 76 = .ok (.iload_n 1, 1) := by decide +kernel
theorem dX9_isAsTold_77 : decode cX9_isAsTold 77 = .ok (.invokestatic 89, 3) := by decide +kernel
theorem dX9_isAsTold_80 : decode cX9_isAsTold 80 = .ok (.ireturn, 1) := by decide +kernel
theorem dX9_isAsTold_81 : decode cX9_isAsTold 81 = .ok (.iload_n 1, 1) := by decide +kernel
theorem dX9_isAsTold_82 : decode cX9_isAsTold 82 = .ok (.invokestatic 89, 3) := by decide +kernel
theorem dX9_isAsTold_85 : decode cX9_isAsTold 85 = .ok (.ifCond .eq 14, 3) := by decide +kernel
theorem dX9_isAsTold_88 : decode cX9_isAsTold 88 = .ok (.iload_n 2, 1) := by decide +kernel
theorem dX9_isAsTold_89 : decode cX9_isAsTold 89 = .ok (.invokestatic 89, 3) := by decide +kernel
theorem dX9_isAsTold_92 : decode cX9_isAsTold 92 = .ok (.ifCond .eq 7, 3) := by decide +kernel
theorem dX9_isAsTold_95 : decode cX9_isAsTold 95 = .ok (.iconst 1, 1) := by decide +kernel
theorem dX9_isAsTold_96 : decode cX9_isAsTold 96 = .ok (.goto 4, 3) := by decide +kernel
theorem dX9_isAsTold_99 : decode cX9_isAsTold 99 = .ok (.iconst 0, 1) := by decide +kernel
theorem dX9_isAsTold_100 : decode cX9_isAsTold 100 = .ok (.ireturn, 1) := by decide +kernel
theorem dX9_isAsTold_101 : decode cX9_isAsTold 101 = .ok (.iload_n 1, 1) := by decide +kernel
theorem dX9_isAsTold_102 : decode cX9_isAsTold 102 = .ok (.invokestatic 89, 3) := by decide +kernel
theorem dX9_isAsTold_105 : decode cX9_isAsTold 105 = .ok (.ifCond .eq 17, 3) := by decide +kernel
theorem dX9_isAsTold_108 : decode cX9_isAsTold 108 = .ok (.iload_n 2, 1) := by decide +kernel
theorem dX9_isAsTold_109 : decode cX9_isAsTold 109 = .ok (.iconst 0, 1) := by decide +kernel
theorem dX9_isAsTold_110 : decode cX9_isAsTold 110 = .ok (.bipush 11, 2) := by decide +kernel
theorem dX9_isAsTold_112 : decode cX9_isAsTold 112 = .ok (.invokestatic 151, 3) := by decide +kernel
theorem dX9_isAsTold_115 : decode cX9_isAsTold 115 = .ok (.ifCond .eq 7, 3) := by decide +kernel
theorem dX9_isAsTold_118 : decode cX9_isAsTold 118 = .ok (.iconst 1, 1) := by decide +kernel
theorem dX9_isAsTold_119 : decode cX9_isAsTold 119 = .ok (.goto 4, 3) := by decide +kernel
theorem dX9_isAsTold_122 : decode cX9_isAsTold 122 = .ok (.iconst 0, 1) := by decide +kernel
theorem dX9_isAsTold_123 : decode cX9_isAsTold 123 = .ok (.ireturn, 1) := by decide +kernel
theorem dX9_isAsTold_124 : decode cX9_isAsTold 124 = .ok (.iload_n 1, 1) := by decide +kernel
theorem dX9_isAsTold_125 : decode cX9_isAsTold 125 = .ok (.invokestatic 89, 3) := by decide +kernel
theorem dX9_isAsTold_128 : decode cX9_isAsTold 128 = .ok (.ifCond .eq 16, 3) := by decide +kernel
theorem dX9_isAsTold_131 : decode cX9_isAsTold 131 = .ok (.iload_n 2, 1) := by decide +kernel
theorem dX9_isAsTold_132 : decode cX9_isAsTold 132 = .ok (.iconst 0, 1) := by decide +kernel
theorem dX9_isAsTold_133 : decode cX9_isAsTold 133 = .ok (.iconst 5, 1) := by decide +kernel
theorem dX9_isAsTold_134 : decode cX9_isAsTold 134 = .ok (.invokestatic 151, 3) := by decide +kernel
theorem dX9_isAsTold_137 : decode cX9_isAsTold 137 = .ok (.ifCond .eq 7, 3) := by decide +kernel
theorem dX9_isAsTold_140 : decode cX9_isAsTold 140 = .ok (.iconst 1, 1) := by decide +kernel
theorem dX9_isAsTold_141 : decode cX9_isAsTold 141 = .ok (.goto 4, 3) := by decide +kernel
theorem dX9_isAsTold_144 : decode cX9_isAsTold 144 = .ok (.iconst 0, 1) := by decide +kernel
theorem dX9_isAsTold_145 : decode cX9_isAsTold 145 = .ok (.ireturn, 1) := by decide +kernel
theorem dX9_isAsTold_146 : decode cX9_isAsTold 146 = .ok (.iload_n 1, 1) := by decide +kernel
theorem dX9_isAsTold_147 : decode cX9_isAsTold 147 = .ok (.iconst 0, 1) := by decide +kernel
theorem dX9_isAsTold_148 : decode cX9_isAsTold 148 = .ok (.iconst 5, 1) := by decide +kernel
theorem dX9_isAsTold_149 : decode cX9_isAsTold 149 = .ok (.invokestatic 151, 3) := by decide +kernel
theorem dX9_isAsTold_152 : decode cX9_isAsTold 152 = .ok (.ifCond .eq 17, 3) := by decide +kernel
theorem dX9_isAsTold_155 : decode cX9_isAsTold 155 = .ok (.iload_n 3, 1) := by decide +kernel
theorem dX9_isAsTold_156 : decode cX9_isAsTold 156 = .ok (.iconst 0, 1) := by decide +kernel
theorem dX9_isAsTold_157 : decode cX9_isAsTold 157 = .ok (.bipush 60, 2) := by decide +kernel
theorem dX9_isAsTold_159 : decode cX9_isAsTold 159 = .ok (.invokestatic 151, 3) := by decide +kernel
theorem dX9_isAsTold_162 : decode cX9_isAsTold 162 = .ok (.ifCond .eq 7, 3) := by decide +kernel
theorem dX9_isAsTold_165 : decode cX9_isAsTold 165 = .ok (.iconst 1, 1) := by decide +kernel
theorem dX9_isAsTold_166 : decode cX9_isAsTold 166 = .ok (.goto 4, 3) := by decide +kernel
theorem dX9_isAsTold_169 : decode cX9_isAsTold 169 = .ok (.iconst 0, 1) := by decide +kernel
theorem dX9_isAsTold_170 : decode cX9_isAsTold 170 = .ok (.ireturn, 1) := by decide +kernel
theorem dX9_isAsTold_171 : decode cX9_isAsTold 171 = .ok (.iload_n 2, 1) := by decide +kernel
theorem dX9_isAsTold_172 : decode cX9_isAsTold 172 = .ok (.iconst 1, 1) := by decide +kernel
theorem dX9_isAsTold_173 : decode cX9_isAsTold 173 = .ok (.bipush 60, 2) := by decide +kernel
theorem dX9_isAsTold_175 : decode cX9_isAsTold 175 = .ok (.invokestatic 151, 3) := by decide +kernel
theorem dX9_isAsTold_178 : decode cX9_isAsTold 178 = .ok (.ifCond .eq 17, 3) := by decide +kernel
theorem dX9_isAsTold_181 : decode cX9_isAsTold 181 = .ok (.iload_n 3, 1) := by decide +kernel
theorem dX9_isAsTold_182 : decode cX9_isAsTold 182 = .ok (.iconst 0, 1) := by decide +kernel
theorem dX9_isAsTold_183 : decode cX9_isAsTold 183 = .ok (.bipush 20, 2) := by decide +kernel
theorem dX9_isAsTold_185 : decode cX9_isAsTold 185 = .ok (.invokestatic 151, 3) := by decide +kernel
theorem dX9_isAsTold_188 : decode cX9_isAsTold 188 = .ok (.ifCond .eq 7, 3) := by decide +kernel
theorem dX9_isAsTold_191 : decode cX9_isAsTold 191 = .ok (.iconst 1, 1) := by decide +kernel
theorem dX9_isAsTold_192 : decode cX9_isAsTold 192 = .ok (.goto 4, 3) := by decide +kernel
theorem dX9_isAsTold_195 : decode cX9_isAsTold 195 = .ok (.iconst 0, 1) := by decide +kernel
theorem dX9_isAsTold_196 : decode cX9_isAsTold 196 = .ok (.ireturn, 1) := by decide +kernel
theorem dX9_isAsTold_197 : decode cX9_isAsTold 197 = .ok (.iconst 0, 1) := by decide +kernel
theorem dX9_isAsTold_198 : decode cX9_isAsTold 198 = .ok (.ireturn, 1) := by decide +kernel
theorem dX9_begin_0 : decode cX9_begin 0 = .ok (.aload_n 0, 1) := by decide +kernel
theorem dX9_begin_1 : decode cX9_begin 1 = .ok (.dup, 1) := by decide +kernel
theorem dX9_begin_2 : decode cX9_begin 2 = .ok (.getfield 49, 3) := by decide +kernel
theorem dX9_begin_5 : decode cX9_begin 5 = .ok (.iconst 1, 1) := by decide +kernel
theorem dX9_begin_6 : decode cX9_begin 6 = .ok (.iadd, 1) := by decide +kernel
theorem dX9_begin_7 : decode cX9_begin 7 = .ok (.putfield 49, 3) := by decide +kernel
theorem dX9_begin_10 : decode cX9_begin 10 = .ok (.aload_n 0, 1) := by decide +kernel
theorem dX9_begin_11 : decode cX9_begin 11 = .ok (.iload_n 1, 1) := by decide +kernel
theorem dX9_begin_12 : decode cX9_begin 12 = .ok (.iload_n 2, 1) := by decide +kernel
theorem dX9_begin_13 : decode cX9_begin 13 = .ok (.iload_n 3, 1) := by decide +kernel
theorem dX9_begin_14 : decode cX9_begin 14 = .ok (.invokevirtual 155, 3) := by decide +kernel
theorem dX9_begin_17 : decode cX9_begin 17 = .ok (.astore 5, 2) := by decide +kernel
theorem dX9_begin_19 : decode cX9_begin 19 = .ok (.aload 5, 2) := by decide +kernel
theorem dX9_begin_21 : decode cX9_begin 21 = .ok (.ifnull 12, 3) := by decide +kernel
theorem dX9_begin_24 : decode cX9_begin 24 = .ok (.aload 5, 2) := by decide +kernel
theorem dX9_begin_26 : decode cX9_begin 26 = .ok (.aload_n 0, 1) := by decide +kernel
theorem dX9_begin_27 : decode cX9_begin 27 = .ok (.getfield 30, 3) := by decide +kernel
theorem dX9_begin_30 : decode cX9_begin 30 = .ok (.invokevirtual 159, 3) := by decide +kernel
theorem dX9_begin_33 : decode cX9_begin 33 = .ok (.aload_n 0, 1) := by decide +kernel
theorem dX9_begin_34 : decode cX9_begin 34 = .ok (.getfield 12, 3) := by decide +kernel
theorem dX9_begin_37 : decode cX9_begin 37 = .ok (.iload_n 1, 1) := by decide +kernel
theorem dX9_begin_38 : decode cX9_begin 38 = .ok (.iload_n 2, 1) := by decide +kernel
theorem dX9_begin_39 : decode cX9_begin 39 = .ok (.iload_n 3, 1) := by decide +kernel
theorem dX9_begin_40 : decode cX9_begin 40 = .ok (.iload 4, 2) := by decide +kernel
theorem dX9_begin_42 : decode cX9_begin 42 = .ok (.invokevirtual 163, 3) := by decide +kernel
theorem dX9_begin_45 : decode cX9_begin 45 = .ok (.istore 6, 2) := by decide +kernel
theorem dX9_begin_47 : decode cX9_begin 47 = .ok (.aload 5, 2) := by decide +kernel
theorem dX9_begin_49 : decode cX9_begin 49 = .ok (.ifnull 28, 3) := by decide +kernel
theorem dX9_begin_52 : decode cX9_begin 52 = .ok (.aload 5, 2) := by decide +kernel
theorem dX9_begin_54 : decode cX9_begin 54 = .ok (.aload_n 0, 1) := by decide +kernel
theorem dX9_begin_55 : decode cX9_begin 55 = .ok (.getfield 30, 3) := by decide +kernel
theorem dX9_begin_58 : decode cX9_begin 58 = .ok (.invokevirtual 166, 3) := by decide +kernel
theorem dX9_begin_61 : decode cX9_begin 61 = .ok (.ifCond .eq 16, 3) := by decide +kernel
theorem dX9_begin_64 : decode cX9_begin 64 = .ok (.aload_n 0, 1) := by decide +kernel
theorem dX9_begin_65 : decode cX9_begin 65 = .ok (.getfield 26, 3) := by decide +kernel
theorem dX9_begin_68 : decode cX9_begin 68 = .ok (.aload 5, 2) := by decide +kernel
theorem dX9_begin_70 : decode cX9_begin 70 = .ok (.aload_n 0, 1) := by decide +kernel
theorem dX9_begin_71 : decode cX9_begin 71 = .ok (.getfield 30, 3) := by decide +kernel
theorem dX9_begin_74 : decode cX9_begin 74 = .ok (.invokevirtual 170, 3) := by decide +kernel
theorem dX9_begin_77 : decode cX9_begin 77 = .ok (.iload 6, 2) := by decide +kernel
theorem dX9_begin_79 : decode cX9_begin 79 = .ok (.ifCond .eq 13, 3) := by decide +kernel
theorem dX9_begin_82 : decode cX9_begin 82 = .ok (.aload_n 0, 1) := by decide +kernel
theorem dX9_begin_83 : decode cX9_begin 83 = .ok (.dup, 1) := by decide +kernel
theorem dX9_begin_84 : decode cX9_begin 84 = .ok (.getfield 148, 3) := by decide +kernel
theorem dX9_begin_87 : decode cX9_begin 87 = .ok (.iconst 1, 1) := by decide +kernel
theorem dX9_begin_88 : decode cX9_begin 88 = .ok (.iadd, 1) := by decide +kernel
theorem dX9_begin_89 : decode cX9_begin 89 = .ok (.putfield 148, 3) := by decide +kernel
theorem dX9_begin_92 : decode cX9_begin 92 = .ok (.iload 6, 2) := by decide +kernel
theorem dX9_begin_94 : decode cX9_begin 94 = .ok (.ireturn, 1) := by decide +kernel
theorem dX9_rowAtRisk_0 : decode cX9_rowAtRisk 0 = .ok (.iload_n 1, 1) := by decide +kernel
theorem dX9_rowAtRisk_1 : decode cX9_rowAtRisk 1 = .ok (.iconst 1, 1) := by decide +kernel
theorem dX9_rowAtRisk_2 : decode cX9_rowAtRisk 2 = .ok (.if_icmp .ne 7, 3) := by decide +kernel
theorem dX9_rowAtRisk_5 : decode cX9_rowAtRisk 5 = .ok (.iload_n 3, 1) := by decide +kernel
theorem dX9_rowAtRisk_6 : decode cX9_rowAtRisk 6 = .ok (.goto 4, 3) := by decide +kernel
theorem dX9_rowAtRisk_9 : decode cX9_rowAtRisk 9 = .ok (.iload_n 2, 1) := by decide +kernel
theorem dX9_rowAtRisk_10 : decode cX9_rowAtRisk 10 = .ok (.istore 4, 2) := by decide +kernel
theorem dX9_rowAtRisk_12 : decode cX9_rowAtRisk 12 = .ok (.iload_n 1, 1) := by decide +kernel
theorem dX9_rowAtRisk_13 : decode cX9_rowAtRisk 13 = .ok (.bipush 12, 2) := by decide +kernel
theorem dX9_rowAtRisk_15 : decode cX9_rowAtRisk 15 = .ok (.if_icmp .gt 41, 3) := by decide +kernel
theorem dX9_rowAtRisk_18 : decode cX9_rowAtRisk 18 = .ok (.iload 4, 2) := by decide +kernel
theorem dX9_rowAtRisk_20 : decode cX9_rowAtRisk 20 = .ok (.invokestatic 89, 3) := by decide +kernel
theorem dX9_rowAtRisk_23 : decode cX9_rowAtRisk 23 = .ok (.ifCond .eq 33, 3) := by decide +kernel
theorem dX9_rowAtRisk_26 : decode cX9_rowAtRisk 26 = .ok (.aload_n 0, 1) := by decide +kernel
theorem dX9_rowAtRisk_27 : decode cX9_rowAtRisk 27 = .ok (.getfield 12, 3) := by decide +kernel
theorem dX9_rowAtRisk_30 : decode cX9_rowAtRisk 30 = .ok (.getfield 93, 3) := by decide +kernel
theorem dX9_rowAtRisk_33 : decode cX9_rowAtRisk 33 = .ok (.iload 4, 2) := by decide +kernel
theorem dX9_rowAtRisk_35 : decode cX9_rowAtRisk 35 = .ok (.aaload, 1) := by decide +kernel
theorem dX9_rowAtRisk_36 : decode cX9_rowAtRisk 36 = .ok (.astore 6, 2) := by decide +kernel
theorem dX9_rowAtRisk_38 : decode cX9_rowAtRisk 38 = .ok (.aload 6, 2) := by decide +kernel
theorem dX9_rowAtRisk_40 : decode cX9_rowAtRisk 40 = .ok (.instanceof 113, 3) := by decide +kernel
theorem dX9_rowAtRisk_43 : decode cX9_rowAtRisk 43 = .ok (.ifCond .eq 13, 3) := by decide +kernel
theorem dX9_rowAtRisk_46 : decode cX9_rowAtRisk 46 = .ok (.aload 6, 2) := by decide +kernel
theorem dX9_rowAtRisk_48 : decode cX9_rowAtRisk 48 = .ok (.checkcast 113, 3) := by decide +kernel
theorem dX9_rowAtRisk_51 : decode cX9_rowAtRisk 51 = .ok (.astore 5, 2) := by decide +kernel
theorem dX9_rowAtRisk_53 : decode cX9_rowAtRisk 53 = .ok (.aload 5, 2) := by decide +kernel
theorem dX9_rowAtRisk_55 : decode cX9_rowAtRisk 55 = .ok (.areturn, 1) := by decide +kernel
theorem dX9_rowAtRisk_56 : decode cX9_rowAtRisk 56 = .ok (.aconst_null, 1) := by decide +kernel
theorem dX9_rowAtRisk_57 : decode cX9_rowAtRisk 57 = .ok (.areturn, 1) := by decide +kernel
theorem dX10_init_0 : decode cX10_init 0 = .ok (.aload_n 0, 1) := by decide +kernel
theorem dX10_init_1 : decode cX10_init 1 = .ok (.invokespecial 1, 3) := by decide +kernel
theorem dX10_init_4 : decode cX10_init 4 = .ok (.aload_n 0, 1) := by decide +kernel
theorem dX10_init_5 : decode cX10_init 5 = .ok (.bipush 120, 2) := by decide +kernel
theorem dX10_init_7 : decode cX10_init 7 = .ok (.newarray .int, 2) := by decide +kernel
theorem dX10_init_9 : decode cX10_init 9 = .ok (.putfield 7, 3) := by decide +kernel
theorem dX10_init_12 : decode cX10_init 12 = .ok (.aload_n 0, 1) := by decide +kernel
theorem dX10_init_13 : decode cX10_init 13 = .ok (.bipush 120, 2) := by decide +kernel
theorem dX10_init_15 : decode cX10_init 15 = .ok (.newarray .int, 2) := by decide +kernel
theorem dX10_init_17 : decode cX10_init 17 = .ok (.putfield 13, 3) := by decide +kernel
theorem dX10_init_20 : decode cX10_init 20 = .ok (.aload_n 0, 1) := by decide +kernel
theorem dX10_init_21 : decode cX10_init 21 = .ok (.bipush 120, 2) := by decide +kernel
theorem dX10_init_23 : decode cX10_init 23 = .ok (.newarray .int, 2) := by decide +kernel
theorem dX10_init_25 : decode cX10_init 25 = .ok (.putfield 16, 3) := by decide +kernel
theorem dX10_init_28 : decode cX10_init 28 = .ok (.aload_n 0, 1) := by decide +kernel
theorem dX10_init_29 : decode cX10_init 29 = .ok (.sipush 3000, 3) := by decide +kernel
theorem dX10_init_32 : decode cX10_init 32 = .ok (.newarray .long, 2) := by decide +kernel
theorem dX10_init_34 : decode cX10_init 34 = .ok (.putfield 19, 3) := by decide +kernel
theorem dX10_init_37 : decode cX10_init 37 = .ok (.aload_n 0, 1) := by decide +kernel
theorem dX10_init_38 : decode cX10_init 38 = .ok (.sipush 401, 3) := by decide +kernel
theorem dX10_init_41 : decode cX10_init 41 = .ok (.newarray .int, 2) := by decide +kernel
theorem dX10_init_43 : decode cX10_init 43 = .ok (.putfield 23, 3) := by decide +kernel
theorem dX10_init_46 : decode cX10_init 46 = .ok (.aload_n 0, 1) := by decide +kernel
theorem dX10_init_47 : decode cX10_init 47 = .ok (.bipush 10, 2) := by decide +kernel
theorem dX10_init_49 : decode cX10_init 49 = .ok (.newarray .int, 2) := by decide +kernel
theorem dX10_init_51 : decode cX10_init 51 = .ok (.putfield 26, 3) := by decide +kernel
theorem dX10_init_54 : decode cX10_init 54 = .ok (.aload_n 0, 1) := by decide +kernel
theorem dX10_init_55 : decode cX10_init 55 = .ok (.bipush 10, 2) := by decide +kernel
theorem dX10_init_57 : decode cX10_init 57 = .ok (.newarray .int, 2) := by decide +kernel
theorem dX10_init_59 : decode cX10_init 59 = .ok (.putfield 29, 3) := by decide +kernel
theorem dX10_init_62 : decode cX10_init 62 = .ok (.aload_n 0, 1) := by decide +kernel
theorem dX10_init_63 : decode cX10_init 63 = .ok (.bipush 10, 2) := by decide +kernel
theorem dX10_init_65 : decode cX10_init 65 = .ok (.newarray .int, 2) := by decide +kernel
theorem dX10_init_67 : decode cX10_init 67 = .ok (.putfield 32, 3) := by decide +kernel
theorem dX10_init_70 : decode cX10_init 70 = .ok (.aload_n 0, 1) := by decide +kernel
theorem dX10_init_71 : decode cX10_init 71 = .ok (.bipush 60, 2) := by decide +kernel
theorem dX10_init_73 : decode cX10_init 73 = .ok (.newarray .int, 2) := by decide +kernel
theorem dX10_init_75 : decode cX10_init 75 = .ok (.putfield 35, 3) := by decide +kernel
theorem dX10_init_78 : decode cX10_init 78 = .ok (.aload_n 0, 1) := by decide +kernel
theorem dX10_init_79 : decode cX10_init 79 = .ok (.bipush 60, 2) := by decide +kernel
theorem dX10_init_81 : decode cX10_init 81 = .ok (.newarray .int, 2) := by decide +kernel
theorem dX10_init_83 : decode cX10_init 83 = .ok (.putfield 38, 3) := by decide +kernel
theorem dX10_init_86 : decode cX10_init 86 = .ok (.aload_n 0, 1) := by decide +kernel
theorem dX10_init_87 : decode cX10_init 87 = .ok (.bipush 60, 2) := by decide +kernel
theorem dX10_init_89 : decode cX10_init 89 = .ok (.newarray .int, 2) := by decide +kernel
theorem dX10_init_91 : decode cX10_init 91 = .ok (.putfield 41, 3) := by decide +kernel
theorem dX10_init_94 : decode cX10_init 94 = .ok (.aload_n 0, 1) := by decide +kernel
theorem dX10_init_95 : decode cX10_init 95 = .ok (.bipush 60, 2) := by decide +kernel
theorem dX10_init_97 : decode cX10_init 97 = .ok (.newarray .int, 2) := by decide +kernel
theorem dX10_init_99 : decode cX10_init 99 = .ok (.putfield 44, 3) := by decide +kernel
theorem dX10_init_102 : decode cX10_init 102 = .ok (.aload_n 0, 1) := by decide +kernel
theorem dX10_init_103 : decode cX10_init 103 = .ok (.bipush 60, 2) := by decide +kernel
theorem dX10_init_105 : decode cX10_init 105 = .ok (.newarray .int, 2) := by decide +kernel
theorem dX10_init_107 : decode cX10_init 107 = .ok (.putfield 47, 3) := by decide +kernel
theorem dX10_init_110 : decode cX10_init 110 = .ok (.aload_n 0, 1) := by decide +kernel
theorem dX10_init_111 : decode cX10_init 111 = .ok (.bipush 20, 2) := by decide +kernel
theorem dX10_init_113 : decode cX10_init 113 = .ok (.newarray .int, 2) := by decide +kernel
theorem dX10_init_115 : decode cX10_init 115 = .ok (.putfield 50, 3) := by decide +kernel
theorem dX10_init_118 : decode cX10_init 118 = .ok (.aload_n 0, 1) := by decide +kernel
theorem dX10_init_119 : decode cX10_init 119 = .ok (.sipush 1280, 3) := by decide +kernel
theorem dX10_init_122 : decode cX10_init 122 = .ok (.newarray .long, 2) := by decide +kernel
theorem dX10_init_124 : decode cX10_init 124 = .ok (.putfield 53, 3) := by decide +kernel
theorem dX10_init_127 : decode cX10_init 127 = .ok (.aload_n 0, 1) := by decide +kernel
theorem dX10_init_128 : decode cX10_init 128 = .ok (.bipush 64, 2) := by decide +kernel
theorem dX10_init_130 : decode cX10_init 130 = .ok (.newarray .long, 2) := by decide +kernel
theorem dX10_init_132 : decode cX10_init 132 = .ok (.putfield 56, 3) := by decide +kernel
theorem dX10_init_135 : decode cX10_init 135 = .ok (.aload_n 0, 1) := by decide +kernel
theorem dX10_init_136 : decode cX10_init 136 = .ok (.bipush 64, 2) := by decide +kernel
theorem dX10_init_138 : decode cX10_init 138 = .ok (.newarray .long, 2) := by decide +kernel
theorem dX10_init_140 : decode cX10_init 140 = .ok (.putfield 59, 3) := by decide +kernel
theorem dX10_init_143 : decode cX10_init 143 = .ok (.aload_n 0, 1) := by decide +kernel
theorem dX10_init_144 : decode cX10_init 144 = .ok (.iconst (-1), 1) := by decide +kernel
theorem dX10_init_145 : decode cX10_init 145 = .ok (.putfield 62, 3) := by decide +kernel
theorem dX10_init_148 : decode cX10_init 148 = .ok (.return_, 1) := by decide +kernel
theorem dX10_in_0 : decode cX10_in 0 = .ok (.iload_n 0, 1) := by decide +kernel
theorem dX10_in_1 : decode cX10_in 1 = .ok (.iload_n 1, 1) := by decide +kernel
theorem dX10_in_2 : decode cX10_in 2 = .ok (.if_icmp .lt 12, 3) := by decide +kernel
theorem dX10_in_5 : decode cX10_in 5 = .ok (.iload_n 0, 1) := by decide +kernel
theorem dX10_in_6 : decode cX10_in 6 = .ok (.iload_n 2, 1) := by decide +kernel
theorem dX10_in_7 : decode cX10_in 7 = .ok (.if_icmp .gt 7, 3) := by decide +kernel
theorem dX10_in_10 : decode cX10_in 10 = .ok (.iconst 1, 1) := by decide +kernel
theorem dX10_in_11 : decode cX10_in 11 = .ok (.goto 4, 3) := by decide +kernel
theorem dX10_in_14 : decode cX10_in 14 = .ok (.iconst 0, 1) := by decide +kernel
theorem dX10_in_15 : decode cX10_in 15 = .ok (.ireturn, 1) := by decide +kernel
theorem dX10_isOrder_0 : decode cX10_isOrder 0 = .ok (.iload_n 0, 1) := by decide +kernel
theorem dX10_isOrder_1 : decode cX10_isOrder 1 = .ok (.bipush 13, 2) := by decide +kernel
theorem dX10_isOrder_3 : decode cX10_isOrder 3 = .ok (.if_icmp .ne 28, 3) := by decide +kernel
theorem dX10_isOrder_6 : decode cX10_isOrder 6 = .ok (.iload_n 1, 1) := by decide +kernel
theorem dX10_isOrder_7 : decode cX10_isOrder 7 = .ok (.iconst 0, 1) := by decide +kernel
theorem dX10_isOrder_8 : decode cX10_isOrder 8 = .ok (.iconst 5, 1) := by decide +kernel
theorem dX10_isOrder_9 : decode cX10_isOrder 9 = .ok (.invokestatic 66, 3) := by decide +kernel
theorem dX10_isOrder_12 : decode cX10_isOrder 12 = .ok (.ifCond .eq 17, 3) := by decide +kernel
theorem dX10_isOrder_15 : decode cX10_isOrder 15 = .ok (.iload_n 3, 1) := by decide +kernel
theorem dX10_isOrder_16 : decode cX10_isOrder 16 = .ok (.iconst 0, 1) := by decide +kernel
theorem dX10_isOrder_17 : decode cX10_isOrder 17 = .ok (.bipush 60, 2) := by decide +kernel
theorem dX10_isOrder_19 : decode cX10_isOrder 19 = .ok (.invokestatic 66, 3) := by decide +kernel
theorem dX10_isOrder_22 : decode cX10_isOrder 22 = .ok (.ifCond .eq 7, 3) := by decide +kernel
theorem dX10_isOrder_25 : decode cX10_isOrder 25 = .ok (.iconst 1, 1) := by decide +kernel
theorem dX10_isOrder_26 : decode cX10_isOrder 26 = .ok (.goto 4, 3) := by decide +kernel
theorem dX10_isOrder_29 : decode cX10_isOrder 29 = .ok (.iconst 0, 1) := by decide +kernel
theorem dX10_isOrder_30 : decode cX10_isOrder 30 = .ok (.ireturn, 1) := by decide +kernel
theorem dX10_isOrder_31 : decode cX10_isOrder 31 = .ok (.iload_n 0, 1) := by decide +kernel
theorem dX10_isOrder_32 : decode cX10_isOrder 32 = .ok (.bipush 14, 2) := by decide +kernel
theorem dX10_isOrder_34 : decode cX10_isOrder 34 = .ok (.if_icmp .ne 29, 3) := by decide +kernel
theorem dX10_isOrder_37 : decode cX10_isOrder 37 = .ok (.iload_n 2, 1) := by decide +kernel
theorem dX10_isOrder_38 : decode cX10_isOrder 38 = .ok (.iconst 1, 1) := by decide +kernel
theorem dX10_isOrder_39 : decode cX10_isOrder 39 = .ok (.bipush 60, 2) := by decide +kernel
theorem dX10_isOrder_41 : decode cX10_isOrder 41 = .ok (.invokestatic 66, 3) := by decide +kernel
theorem dX10_isOrder_44 : decode cX10_isOrder 44 = .ok (.ifCond .eq 17, 3) := by decide +kernel
theorem dX10_isOrder_47 : decode cX10_isOrder 47 = .ok (.iload_n 3, 1) := by decide +kernel
theorem dX10_isOrder_48 : decode cX10_isOrder 48 = .ok (.iconst 0, 1) := by decide +kernel
theorem dX10_isOrder_49 : decode cX10_isOrder 49 = .ok (.bipush 20, 2) := by decide +kernel
theorem dX10_isOrder_51 : decode cX10_isOrder 51 = .ok (.invokestatic 66, 3) := by decide +kernel
theorem dX10_isOrder_54 : decode cX10_isOrder 54 = .ok (.ifCond .eq 7, 3) := by decide +kernel
theorem dX10_isOrder_57 : decode cX10_isOrder 57 = .ok (.iconst 1, 1) := by decide +kernel
theorem dX10_isOrder_58 : decode cX10_isOrder 58 = .ok (.goto 4, 3) := by decide +kernel
theorem dX10_isOrder_61 : decode cX10_isOrder 61 = .ok (.iconst 0, 1) := by decide +kernel
theorem dX10_isOrder_62 : decode cX10_isOrder 62 = .ok (.ireturn, 1) := by decide +kernel
theorem dX10_isOrder_63 : decode cX10_isOrder 63 = .ok (.iload_n 0, 1) := by decide +kernel
theorem dX10_isOrder_64 : decode cX10_isOrder 64 = .ok (.iconst 1, 1) := by decide +kernel
theorem dX10_isOrder_65 : decode cX10_isOrder 65 = .ok (.if_icmp .eq 33, 3) := by decide +kernel
theorem dX10_isOrder_68 : decode cX10_isOrder 68 = .ok (.iload_n 0, 1) := by decide +kernel
theorem dX10_isOrder_69 : decode cX10_isOrder 69 = .ok (.bipush 6, 2) := by decide +kernel
theorem dX10_isOrder_71 : decode cX10_isOrder 71 = .ok (.if_icmp .eq 27, 3) := by decide +kernel
theorem dX10_isOrder_74 : decode cX10_isOrder 74 = .ok (.iload_n 0, 1) := by decide +kernel
theorem dX10_isOrder_75 : decode cX10_isOrder 75 = .ok (.bipush 7, 2) := by decide +kernel
theorem dX10_isOrder_77 : decode cX10_isOrder 77 = .ok (.if_icmp .eq 21, 3) := by decide +kernel
theorem dX10_isOrder_80 : decode cX10_isOrder 80 = .ok (.iload_n 0, 1) := by decide +kernel
theorem dX10_isOrder_81 : decode cX10_isOrder 81 = .ok (.bipush 8, 2) := by decide +kernel
theorem dX10_isOrder_83 : decode cX10_isOrder 83 = .ok (.if_icmp .eq 15, 3) := by decide +kernel
theorem dX10_isOrder_86 : decode cX10_isOrder 86 = .ok (.iload_n 0, 1) := by decide +kernel
theorem dX10_isOrder_87 : decode cX10_isOrder 87 = .ok (.bipush 11, 2) := by decide +kernel
theorem dX10_isOrder_89 : decode cX10_isOrder 89 = .ok (.if_icmp .eq 9, 3) := by decide +kernel
theorem dX10_isOrder_92 : decode cX10_isOrder 92 = .ok (.iload_n 0, 1) := by decide +kernel
theorem dX10_isOrder_93 : decode cX10_isOrder 93 = .ok (.bipush 12, 2) := by decide +kernel
theorem dX10_isOrder_95 : decode cX10_isOrder 95 = .ok (.if_icmp .ne 7, 3) := by decide +kernel
theorem dX10_isOrder_98 : decode cX10_isOrder 98 = .ok (.iconst 1, 1) := by decide +kernel
theorem dX10_isOrder_99 : decode cX10_isOrder 99 = .ok (.goto 4, 3) := by decide +kernel
theorem dX10_isOrder_102 : decode cX10_isOrder 102 = .ok (.iconst 0, 1) := by decide +kernel
theorem dX10_isOrder_103 : decode cX10_isOrder 103 = .ok (.istore 4, 2) := by decide +kernel
theorem dX10_isOrder_105 : decode cX10_isOrder 105 = .ok (.iload 4, 2) := by decide +kernel
theorem dX10_isOrder_107 : decode cX10_isOrder 107 = .ok (.ifCond .eq 13, 3) := by decide +kernel
theorem dX10_isOrder_110 : decode cX10_isOrder 110 = .ok (.iload_n 2, 1) := by decide +kernel
theorem dX10_isOrder_111 : decode cX10_isOrder 111 = .ok (.iconst 0, 1) := by decide +kernel
theorem dX10_isOrder_112 : decode cX10_isOrder 112 = .ok (.bipush 9, 2) := by decide +kernel
theorem dX10_isOrder_114 : decode cX10_isOrder 114 = .ok (.invokestatic 66, 3) := by decide +kernel
theorem dX10_isOrder_117 : decode cX10_isOrder 117 = .ok (.goto 38, 3) := by decide +kernel
theorem dX10_isOrder_120 : decode cX10_isOrder 120 = .ok (.iload_n 0, 1) := by decide +kernel
theorem dX10_isOrder_121 : decode cX10_isOrder 121 = .ok (.iconst 5, 1) := by decide +kernel
theorem dX10_isOrder_122 : decode cX10_isOrder 122 = .ok (.if_icmp .ne 13, 3) := by decide +kernel
theorem dX10_isOrder_125 : decode cX10_isOrder 125 = .ok (.iload_n 2, 1) := by decide +kernel
theorem dX10_isOrder_126 : decode cX10_isOrder 126 = .ok (.iconst 0, 1) := by decide +kernel
theorem dX10_isOrder_127 : decode cX10_isOrder 127 = .ok (.bipush 11, 2) := by decide +kernel
theorem dX10_isOrder_129 : decode cX10_isOrder 129 = .ok (.invokestatic 66, 3) := by decide +kernel
theorem dX10_isOrder_132 : decode cX10_isOrder 132 = .ok (.goto 23, 3) := by decide +kernel
theorem dX10_isOrder_135 : decode cX10_isOrder 135 = .ok (.iload_n 0, 1) := by decide +kernel
theorem dX10_isOrder_136 : decode cX10_isOrder 136 = .ok (.bipush 9, 2) := by decide +kernel
theorem dX10_isOrder_138 : decode cX10_isOrder 138 = .ok (.if_icmp .ne 12, 3) := by decide +kernel
theorem dX10_isOrder_141 : decode cX10_isOrder 141 = .ok (.iload_n 2, 1) := by decide +kernel
theorem dX10_isOrder_142 : decode cX10_isOrder 142 = .ok (.iconst 0, 1) := by decide +kernel
theorem dX10_isOrder_143 : decode cX10_isOrder 143 = .ok (.iconst 5, 1) := by decide +kernel
theorem dX10_isOrder_144 : decode cX10_isOrder 144 = .ok (.invokestatic 66, 3) := by decide +kernel
theorem dX10_isOrder_147 : decode cX10_isOrder 147 = .ok (.ifCond .eq 7, 3) := by decide +kernel
theorem dX10_isOrder_150 : decode cX10_isOrder 150 = .ok (.iconst 1, 1) := by decide +kernel
theorem dX10_isOrder_151 : decode cX10_isOrder 151 = .ok (.goto 4, 3) := by decide +kernel
theorem dX10_isOrder_154 : decode cX10_isOrder 154 = .ok (.iconst 0, 1) := by decide +kernel
theorem dX10_isOrder_155 : decode cX10_isOrder 155 = .ok (.istore 5, 2) := by decide +kernel
theorem dX10_isOrder_157 : decode cX10_isOrder 157 = .ok (.iload_n 0, 1) := by decide +kernel
theorem dX10_isOrder_158 : decode cX10_isOrder 158 = .ok (.iconst 0, 1) := by decide +kernel
theorem dX10_isOrder_159 : decode cX10_isOrder 159 = .ok (.bipush 12, 2) := by decide +kernel
theorem dX10_isOrder_161 : decode cX10_isOrder 161 = .ok (.invokestatic 66, 3) := by decide +kernel
theorem dX10_isOrder_164 : decode cX10_isOrder 164 = .ok (.ifCond .eq 22, 3) := by decide +kernel
theorem dX10_isOrder_167 : decode cX10_isOrder 167 = .ok (.iload_n 1, 1) := by decide +kernel
theorem dX10_isOrder_168 : decode cX10_isOrder 168 = .ok (.iconst 0, 1) := by decide +kernel
theorem dX10_isOrder_169 : decode cX10_isOrder 169 = .ok (.bipush 9, 2) := by decide +kernel
theorem dX10_isOrder_171 : decode cX10_isOrder 171 = .ok (.invokestatic 66, 3) := by decide +kernel
theorem dX10_isOrder_174 : decode cX10_isOrder 174 = .ok (.ifCond .eq 12, 3) := by decide +kernel
theorem dX10_isOrder_177 : decode cX10_isOrder 177 = .ok (.iload 5, 2) := by decide +kernel
theorem dX10_isOrder_179 : decode cX10_isOrder 179 = .ok (.ifCond .eq 7, 3) := by decide +kernel
theorem dX10_isOrder_182 : decode cX10_isOrder 182 = .ok (.iconst 1, 1) := by decide +kernel
theorem dX10_isOrder_183 : decode cX10_isOrder 183 = .ok (.goto 4, 3) := by decide +kernel
theorem dX10_isOrder_186 : decode cX10_isOrder 186 = .ok (.iconst 0, 1) := by decide +kernel
theorem dX10_isOrder_187 : decode cX10_isOrder 187 = .ok (.ireturn, 1) := by decide +kernel
theorem dX10_order_0 : decode cX10_order 0 = .ok (.aload_n 0, 1) := by decide +kernel
theorem dX10_order_1 : decode cX10_order 1 = .ok (.getfield 70, 3) := by decide +kernel
theorem dX10_order_4 : decode cX10_order 4 = .ok (.bipush 60, 2) := by decide +kernel
theorem dX10_order_6 : decode cX10_order 6 = .ok (.if_icmp .eq 14, 3) := by decide +kernel
theorem dX10_order_9 : decode cX10_order 9 = .ok (.iload_n 1, 1) := by decide +kernel
theorem dX10_order_10 : decode cX10_order 10 = .ok (.iload_n 2, 1) := by decide +kernel
theorem dX10_order_11 : decode cX10_order 11 = .ok (.iload_n 3, 1) := by decide +kernel
theorem dX10_order_12 : decode cX10_order 12 = .ok (.iload 4, 2) := by decide +kernel
theorem dX10_order_14 : decode cX10_order 14 = .ok (.invokestatic 73, 3) := by decide +kernel
theorem dX10_order_17 : decode cX10_order 17 = .ok (.ifCond .ne 5, 3) := by decide +kernel
theorem dX10_order_20 : decode cX10_order 20 = .ok (.iconst (-1), 1) := by decide +kernel
theorem dX10_order_21 : decode cX10_order 21 = .ok (.ireturn, 1) := by decide +kernel
theorem dX10_order_22 : decode cX10_order 22 = .ok (.aload_n 0, 1) := by decide +kernel
theorem dX10_order_23 : decode cX10_order 23 = .ok (.getfield 35, 3) := by decide +kernel
theorem dX10_order_26 : decode cX10_order 26 = .ok (.aload_n 0, 1) := by decide +kernel
theorem dX10_order_27 : decode cX10_order 27 = .ok (.getfield 70, 3) := by decide +kernel
theorem dX10_order_30 : decode cX10_order 30 = .ok (.iload_n 1, 1) := by decide +kernel
theorem dX10_order_31 : decode cX10_order 31 = .ok (.iastore, 1) := by decide +kernel
theorem dX10_order_32 : decode cX10_order 32 = .ok (.aload_n 0, 1) := by decide +kernel
theorem dX10_order_33 : decode cX10_order 33 = .ok (.getfield 38, 3) := by decide +kernel
theorem dX10_order_36 : decode cX10_order 36 = .ok (.aload_n 0, 1) := by decide +kernel
theorem dX10_order_37 : decode cX10_order 37 = .ok (.getfield 70, 3) := by decide +kernel
theorem dX10_order_40 : decode cX10_order 40 = .ok (.iload_n 2, 1) := by decide +kernel
theorem dX10_order_41 : decode cX10_order 41 = .ok (.iastore, 1) := by decide +kernel
theorem dX10_order_42 : decode cX10_order 42 = .ok (.aload_n 0, 1) := by decide +kernel
theorem dX10_order_43 : decode cX10_order 43 = .ok (.getfield 41, 3) := by decide +kernel
theorem dX10_order_46 : decode cX10_order 46 = .ok (.aload_n 0, 1) := by decide +kernel
theorem dX10_order_47 : decode cX10_order 47 = .ok (.getfield 70, 3) := by decide +kernel
theorem dX10_order_50 : decode cX10_order 50 = .ok (.iload_n 3, 1) := by decide +kernel
theorem dX10_order_51 : decode cX10_order 51 = .ok (.iastore, 1) := by decide +kernel
theorem dX10_order_52 : decode cX10_order 52 = .ok (.aload_n 0, 1) := by decide +kernel
theorem dX10_order_53 : decode cX10_order 53 = .ok (.getfield 44, 3) := by decide +kernel
theorem dX10_order_56 : decode cX10_order 56 = .ok (.aload_n 0, 1) := by decide +kernel
theorem dX10_order_57 : decode cX10_order 57 = .ok (.getfield 70, 3) := by decide +kernel
theorem dX10_order_60 : decode cX10_order 60 = .ok (.iload 4, 2) := by decide +kernel
theorem dX10_order_62 : decode cX10_order 62 = .ok (.iastore, 1) := by decide +kernel
theorem dX10_order_63 : decode cX10_order 63 = .ok (.aload_n 0, 1) := by decide +kernel
theorem dX10_order_64 : decode cX10_order 64 = .ok (.dup, 1) := by decide +kernel
theorem dX10_order_65 : decode cX10_order 65 = .ok (.getfield 70, 3) := by decide +kernel
theorem dX10_order_68 : decode cX10_order 68 = .ok (.iconst 1, 1) := by decide +kernel
theorem dX10_order_69 : decode cX10_order 69 = .ok (.iadd, 1) := by decide +kernel
theorem dX10_order_70 : decode cX10_order 70 = .ok (.putfield 70, 3) := by decide +kernel
theorem dX10_order_73 : decode cX10_order 73 = .ok (.aload_n 0, 1) := by decide +kernel
theorem dX10_order_74 : decode cX10_order 74 = .ok (.getfield 70, 3) := by decide +kernel
theorem dX10_order_77 : decode cX10_order 77 = .ok (.iconst 1, 1) := by decide +kernel
theorem dX10_order_78 : decode cX10_order 78 = .ok (.isub, 1) := by decide +kernel
theorem dX10_order_79 : decode cX10_order 79 = .ok (.ireturn, 1) := by decide +kernel
theorem dX10_cut_0 : decode cX10_cut 0 = .ok (.iload_n 1, 1) := by decide +kernel
theorem dX10_cut_1 : decode cX10_cut 1 = .ok (.iconst 0, 1) := by decide +kernel
theorem dX10_cut_2 : decode cX10_cut 2 = .ok (.aload_n 0, 1) := by decide +kernel
theorem dX10_cut_3 : decode cX10_cut 3 = .ok (.getfield 70, 3) := by decide +kernel
theorem dX10_cut_6 : decode cX10_cut 6 = .ok (.invokestatic 66, 3) := by decide +kernel
theorem dX10_cut_9 : decode cX10_cut 9 = .ok (.ifCond .ne 5, 3) := by decide +kernel
theorem dX10_cut_12 : decode cX10_cut 12 = .ok (.iconst 0, 1) := by decide +kernel
theorem dX10_cut_13 : decode cX10_cut 13 = .ok (.ireturn, 1) := by decide +kernel
theorem dX10_cut_14 : decode cX10_cut 14 = .ok (.aload_n 0, 1) := by decide +kernel
theorem dX10_cut_15 : decode cX10_cut 15 = .ok (.iload_n 1, 1) := by decide +kernel
theorem dX10_cut_16 : decode cX10_cut 16 = .ok (.putfield 70, 3) := by decide +kernel
theorem dX10_cut_19 : decode cX10_cut 19 = .ok (.iconst 1, 1) := by decide +kernel
theorem dX10_cut_20 : decode cX10_cut 20 = .ok (.ireturn, 1) := by decide +kernel
theorem dX10_rowOn_0 : decode cX10_rowOn 0 = .ok (.aload_n 0, 1) := by decide +kernel
theorem dX10_rowOn_1 : decode cX10_rowOn 1 = .ok (.getfield 26, 3) := by decide +kernel
theorem dX10_rowOn_4 : decode cX10_rowOn 4 = .ok (.iload_n 1, 1) := by decide +kernel
theorem dX10_rowOn_5 : decode cX10_rowOn 5 = .ok (.iaload, 1) := by decide +kernel
theorem dX10_rowOn_6 : decode cX10_rowOn 6 = .ok (.iconst 1, 1) := by decide +kernel
theorem dX10_rowOn_7 : decode cX10_rowOn 7 = .ok (.if_icmp .ne 12, 3) := by decide +kernel
theorem dX10_rowOn_10 : decode cX10_rowOn 10 = .ok (.aload_n 0, 1) := by decide +kernel
theorem dX10_rowOn_11 : decode cX10_rowOn 11 = .ok (.getfield 29, 3) := by decide +kernel
theorem dX10_rowOn_14 : decode cX10_rowOn 14 = .ok (.iload_n 1, 1) := by decide +kernel
theorem dX10_rowOn_15 : decode cX10_rowOn 15 = .ok (.iaload, 1) := by decide +kernel
theorem dX10_rowOn_16 : decode cX10_rowOn 16 = .ok (.goto 4, 3) := by decide +kernel
theorem dX10_rowOn_19 : decode cX10_rowOn 19 = .ok (.iconst (-1), 1) := by decide +kernel
theorem dX10_rowOn_20 : decode cX10_rowOn 20 = .ok (.ireturn, 1) := by decide +kernel
theorem dX10_roomFor_0 : decode cX10_roomFor 0 = .ok (.aload_n 0, 1) := by decide +kernel
theorem dX10_roomFor_1 : decode cX10_roomFor 1 = .ok (.getfield 77, 3) := by decide +kernel
theorem dX10_roomFor_4 : decode cX10_roomFor 4 = .ok (.bipush 120, 2) := by decide +kernel
theorem dX10_roomFor_6 : decode cX10_roomFor 6 = .ok (.if_icmp .ge 25, 3) := by decide +kernel
theorem dX10_roomFor_9 : decode cX10_roomFor 9 = .ok (.iload_n 1, 1) := by decide +kernel
theorem dX10_roomFor_10 : decode cX10_roomFor 10 = .ok (.bipush 64, 2) := by decide +kernel
theorem dX10_roomFor_12 : decode cX10_roomFor 12 = .ok (.if_icmp .gt 19, 3) := by decide +kernel
theorem dX10_roomFor_15 : decode cX10_roomFor 15 = .ok (.aload_n 0, 1) := by decide +kernel
theorem dX10_roomFor_16 : decode cX10_roomFor 16 = .ok (.getfield 80, 3) := by decide +kernel
theorem dX10_roomFor_19 : decode cX10_roomFor 19 = .ok (.iload_n 1, 1) := by decide +kernel
theorem dX10_roomFor_20 : decode cX10_roomFor 20 = .ok (.iadd, 1) := by decide +kernel
theorem dX10_roomFor_21 : decode cX10_roomFor 21 = .ok (.sipush 3000, 3) := by decide +kernel
theorem dX10_roomFor_24 : decode cX10_roomFor 24 = .ok (.if_icmp .gt 7, 3) := by decide +kernel
theorem dX10_roomFor_27 : decode cX10_roomFor 27 = .ok (.iconst 1, 1) := by decide +kernel
theorem dX10_roomFor_28 : decode cX10_roomFor 28 = .ok (.goto 4, 3) := by decide +kernel
theorem dX10_roomFor_31 : decode cX10_roomFor 31 = .ok (.iconst 0, 1) := by decide +kernel
theorem dX10_roomFor_32 : decode cX10_roomFor 32 = .ok (.ireturn, 1) := by decide +kernel
theorem dX10_make_0 : decode cX10_make 0 = .ok (.aload_n 0, 1) := by decide +kernel
theorem dX10_make_1 : decode cX10_make 1 = .ok (.getfield 7, 3) := by decide +kernel
theorem dX10_make_4 : decode cX10_make 4 = .ok (.aload_n 0, 1) := by decide +kernel
theorem dX10_make_5 : decode cX10_make 5 = .ok (.getfield 77, 3) := by decide +kernel
theorem dX10_make_8 : decode cX10_make 8 = .ok (.iload_n 1, 1) := by decide +kernel
theorem dX10_make_9 : decode cX10_make 9 = .ok (.iastore, 1) := by decide +kernel
theorem dX10_make_10 : decode cX10_make 10 = .ok (.aload_n 0, 1) := by decide +kernel
theorem dX10_make_11 : decode cX10_make 11 = .ok (.getfield 13, 3) := by decide +kernel
theorem dX10_make_14 : decode cX10_make 14 = .ok (.aload_n 0, 1) := by decide +kernel
theorem dX10_make_15 : decode cX10_make 15 = .ok (.getfield 77, 3) := by decide +kernel
theorem dX10_make_18 : decode cX10_make 18 = .ok (.iload_n 2, 1) := by decide +kernel
theorem dX10_make_19 : decode cX10_make 19 = .ok (.iastore, 1) := by decide +kernel
theorem dX10_make_20 : decode cX10_make 20 = .ok (.aload_n 0, 1) := by decide +kernel
theorem dX10_make_21 : decode cX10_make 21 = .ok (.getfield 16, 3) := by decide +kernel
theorem dX10_make_24 : decode cX10_make 24 = .ok (.aload_n 0, 1) := by decide +kernel
theorem dX10_make_25 : decode cX10_make 25 = .ok (.getfield 77, 3) := by decide +kernel
theorem dX10_make_28 : decode cX10_make 28 = .ok (.aload_n 0, 1) := by decide +kernel
theorem dX10_make_29 : decode cX10_make 29 = .ok (.getfield 80, 3) := by decide +kernel
theorem dX10_make_32 : decode cX10_make 32 = .ok (.iastore, 1) := by decide +kernel
theorem dX10_make_33 : decode cX10_make 33 = .ok (.aload_n 0, 1) := by decide +kernel
theorem dX10_make_34 : decode cX10_make 34 = .ok (.dup, 1) := by decide +kernel
theorem dX10_make_35 : decode cX10_make 35 = .ok (.getfield 80, 3) := by decide +kernel
theorem dX10_make_38 : decode cX10_make 38 = .ok (.iload_n 2, 1) := by decide +kernel
theorem dX10_make_39 : decode cX10_make 39 = .ok (.iadd, 1) := by decide +kernel
theorem dX10_make_40 : decode cX10_make 40 = .ok (.putfield 80, 3) := by decide +kernel
theorem dX10_make_43 : decode cX10_make 43 = .ok (.aload_n 0, 1) := by decide +kernel
theorem dX10_make_44 : decode cX10_make 44 = .ok (.dup, 1) := by decide +kernel
theorem dX10_make_45 : decode cX10_make 45 = .ok (.getfield 77, 3) := by decide +kernel
theorem dX10_make_48 : decode cX10_make 48 = .ok (.iconst 1, 1) := by decide +kernel
theorem dX10_make_49 : decode cX10_make 49 = .ok (.iadd, 1) := by decide +kernel
theorem dX10_make_50 : decode cX10_make 50 = .ok (.putfield 77, 3) := by decide +kernel
theorem dX10_make_53 : decode cX10_make 53 = .ok (.aload_n 0, 1) := by decide +kernel
theorem dX10_make_54 : decode cX10_make 54 = .ok (.getfield 77, 3) := by decide +kernel
theorem dX10_make_57 : decode cX10_make 57 = .ok (.iconst 1, 1) := by decide +kernel
theorem dX10_make_58 : decode cX10_make 58 = .ok (.isub, 1) := by decide +kernel
theorem dX10_make_59 : decode cX10_make 59 = .ok (.ireturn, 1) := by decide +kernel
theorem dX10_hold_0 : decode cX10_hold 0 = .ok (.aload_n 0, 1) := by decide +kernel
theorem dX10_hold_1 : decode cX10_hold 1 = .ok (.getfield 26, 3) := by decide +kernel
theorem dX10_hold_4 : decode cX10_hold 4 = .ok (.iload_n 1, 1) := by decide +kernel
theorem dX10_hold_5 : decode cX10_hold 5 = .ok (.iload_n 2, 1) := by decide +kernel
theorem dX10_hold_6 : decode cX10_hold 6 = .ok (.iastore, 1) := by decide +kernel
theorem dX10_hold_7 : decode cX10_hold 7 = .ok (.aload_n 0, 1) := by decide +kernel
theorem dX10_hold_8 : decode cX10_hold 8 = .ok (.getfield 29, 3) := by decide +kernel
theorem dX10_hold_11 : decode cX10_hold 11 = .ok (.iload_n 1, 1) := by decide +kernel
theorem dX10_hold_12 : decode cX10_hold 12 = .ok (.iload_n 3, 1) := by decide +kernel
theorem dX10_hold_13 : decode cX10_hold 13 = .ok (.iastore, 1) := by decide +kernel
theorem dX10_hold_14 : decode cX10_hold 14 = .ok (.return_, 1) := by decide +kernel
theorem dX10_canHave_0 : decode cX10_canHave 0 = .ok (.iload_n 2, 1) := by decide +kernel
theorem dX10_canHave_1 : decode cX10_canHave 1 = .ok (.ifCond .eq 9, 3) := by decide +kernel
theorem dX10_canHave_4 : decode cX10_canHave 4 = .ok (.iload_n 1, 1) := by decide +kernel
theorem dX10_canHave_5 : decode cX10_canHave 5 = .ok (.bipush 8, 2) := by decide +kernel
theorem dX10_canHave_7 : decode cX10_canHave 7 = .ok (.if_icmp .ne 5, 3) := by decide +kernel
theorem dX10_canHave_10 : decode cX10_canHave 10 = .ok (.iconst 1, 1) := by decide +kernel
theorem dX10_canHave_11 : decode cX10_canHave 11 = .ok (.ireturn, 1) := by decide +kernel
theorem dX10_canHave_12 : decode cX10_canHave 12 = .ok (.aload_n 0, 1) := by decide +kernel
theorem dX10_canHave_13 : decode cX10_canHave 13 = .ok (.getfield 23, 3) := by decide +kernel
theorem dX10_canHave_16 : decode cX10_canHave 16 = .ok (.iload_n 2, 1) := by decide +kernel
theorem dX10_canHave_17 : decode cX10_canHave 17 = .ok (.iaload, 1) := by decide +kernel
theorem dX10_canHave_18 : decode cX10_canHave 18 = .ok (.istore_n 3, 1) := by decide +kernel
theorem dX10_canHave_19 : decode cX10_canHave 19 = .ok (.iload_n 1, 1) := by decide +kernel
theorem dX10_canHave_20 : decode cX10_canHave 20 = .ok (.bipush 9, 2) := by decide +kernel
theorem dX10_canHave_22 : decode cX10_canHave 22 = .ok (.if_icmp .ne 21, 3) := by decide +kernel
theorem dX10_canHave_25 : decode cX10_canHave 25 = .ok (.iload_n 3, 1) := by decide +kernel
theorem dX10_canHave_26 : decode cX10_canHave 26 = .ok (.iconst 2, 1) := by decide +kernel
theorem dX10_canHave_27 : decode cX10_canHave 27 = .ok (.if_icmp .eq 8, 3) := by decide +kernel
theorem dX10_canHave_30 : decode cX10_canHave 30 = .ok (.iload_n 3, 1) := by decide +kernel
theorem dX10_canHave_31 : decode cX10_canHave 31 = .ok (.iconst 3, 1) := by decide +kernel
theorem dX10_canHave_32 : decode cX10_canHave 32 = .ok (.if_icmp .ne 7, 3) := by decide +kernel
theorem dX10_canHave_35 : decode cX10_canHave 35 = .ok (.iconst 1, 1) := by decide +kernel
theorem dX10_canHave_36 : decode cX10_canHave 36 = .ok (.goto 36, 3) := by decide +kernel
theorem dX10_canHave_39 : decode cX10_canHave 39 = .ok (.iconst 0, 1) := by decide +kernel
theorem dX10_canHave_40 : decode cX10_canHave 40 = .ok (.goto 32, 3) := by decide +kernel
theorem dX10_canHave_43 : decode cX10_canHave 43 = .ok (.iload_n 1, 1) := by decide +kernel
theorem dX10_canHave_44 : decode cX10_canHave 44 = .ok (.bipush 10, 2) := by decide +kernel
theorem dX10_canHave_46 : decode cX10_canHave 46 = .ok (.if_icmp .ne 16, 3) := by decide +kernel
theorem dX10_canHave_49 : decode cX10_canHave 49 = .ok (.iload_n 3, 1) := by decide +kernel
theorem dX10_canHave_50 : decode cX10_canHave 50 = .ok (.iconst 3, 1) := by decide +kernel
theorem dX10_canHave_51 : decode cX10_canHave 51 = .ok (.if_icmp .ne 7, 3) := by decide +kernel
theorem dX10_canHave_54 : decode cX10_canHave 54 = .ok (.iconst 1, 1) := by decide +kernel
theorem dX10_canHave_55 : decode cX10_canHave 55 = .ok (.goto 17, 3) := by decide +kernel
theorem dX10_canHave_58 : decode cX10_canHave 58 = .ok (.iconst 0, 1) := by decide +kernel
theorem dX10_canHave_59 : decode cX10_canHave 59 = .ok (.goto 13, 3) := by decide +kernel
theorem dX10_canHave_62 : decode cX10_canHave 62 = .ok (.iload_n 3, 1) := by decide +kernel
theorem dX10_canHave_63 : decode cX10_canHave 63 = .ok (.iconst 4, 1) := by decide +kernel
theorem dX10_canHave_64 : decode cX10_canHave 64 = .ok (.if_icmp .ne 7, 3) := by decide +kernel
theorem dX10_canHave_67 : decode cX10_canHave 67 = .ok (.iconst 1, 1) := by decide +kernel
theorem dX10_canHave_68 : decode cX10_canHave 68 = .ok (.goto 4, 3) := by decide +kernel
theorem dX10_canHave_71 : decode cX10_canHave 71 = .ok (.iconst 0, 1) := by decide +kernel
theorem dX10_canHave_72 : decode cX10_canHave 72 = .ok (.ireturn, 1) := by decide +kernel
theorem dX10_cutTo_0 : decode cX10_cutTo 0 = .ok (.iload_n 0, 1) := by decide +kernel
theorem dX10_cutTo_1 : decode cX10_cutTo 1 = .ok (.tableswitch 77 0 6 #[43, 53, 57, 63, 67, 67, 70], 43) := by decide +kernel
theorem dX10_cutTo_44 : decode cX10_cutTo 44 = .ok (.iload_n 1, 1) := by decide +kernel
theorem dX10_cutTo_45 : decode cX10_cutTo 45 = .ok (.ifCond .eq 7, 3) := by decide +kernel
theorem dX10_cutTo_48 : decode cX10_cutTo 48 = .ok (.lconst 1, 1) := by decide +kernel
theorem dX10_cutTo_49 : decode cX10_cutTo 49 = .ok (.goto 4, 3) := by decide +kernel
theorem dX10_cutTo_52 : decode cX10_cutTo 52 = .ok (.lconst 0, 1) := by decide +kernel
theorem dX10_cutTo_53 : decode cX10_cutTo 53 = .ok (.lreturn, 1) := by decide +kernel
theorem dX10_cutTo_54 : decode cX10_cutTo 54 = .ok (.iload_n 1, 1) := by decide +kernel
theorem dX10_cutTo_55 : decode cX10_cutTo 55 = .ok (.i2b, 1) := by decide +kernel
theorem dX10_cutTo_56 : decode cX10_cutTo 56 = .ok (.i2l, 1) := by decide +kernel
theorem dX10_cutTo_57 : decode cX10_cutTo 57 = .ok (.lreturn, 1) := by decide +kernel
theorem dX10_cutTo_58 : decode cX10_cutTo 58 = .ok (.iload_n 1, 1) := by decide +kernel
theorem dX10_cutTo_59 : decode cX10_cutTo 59 = .ok (.ldc 83, 2) := by decide +kernel
theorem dX10_cutTo_61 : decode cX10_cutTo 61 = .ok (.iand, 1) := by decide +kernel
theorem dX10_cutTo_62 : decode cX10_cutTo 62 = .ok (.i2l, 1) := by decide +kernel
theorem dX10_cutTo_63 : decode cX10_cutTo 63 = .ok (.lreturn, 1) := by decide +kernel
theorem dX10_cutTo_64 : decode cX10_cutTo 64 = .ok (.iload_n 1, 1) := by decide +kernel
theorem dX10_cutTo_65 : decode cX10_cutTo 65 = .ok (.i2s, 1) := by decide +kernel
theorem dX10_cutTo_66 : decode cX10_cutTo 66 = .ok (.i2l, 1) := by decide +kernel
theorem dX10_cutTo_67 : decode cX10_cutTo 67 = .ok (.lreturn, 1) := by decide +kernel
theorem dX10_cutTo_68 : decode cX10_cutTo 68 = .ok (.iload_n 1, 1) := by decide +kernel
theorem dX10_cutTo_69 : decode cX10_cutTo 69 = .ok (.i2l, 1) := by decide +kernel
theorem dX10_cutTo_70 : decode cX10_cutTo 70 = .ok (.lreturn, 1) := by decide +kernel
theorem dX10_cutTo_71 : decode cX10_cutTo 71 = .ok (.iload_n 1, 1) := by decide +kernel
theorem dX10_cutTo_72 : decode cX10_cutTo 72 = .ok (.i2f, 1) := by decide +kernel
theorem dX10_cutTo_73 : decode cX10_cutTo 73 = .ok (.invokestatic 84, 3) := by decide +kernel
theorem dX10_cutTo_76 : decode cX10_cutTo 76 = .ok (.i2l, 1) := by decide +kernel
theorem dX10_cutTo_77 : decode cX10_cutTo 77 = .ok (.lreturn, 1) := by decide +kernel
theorem dX10_cutTo_78 : decode cX10_cutTo 78 = .ok (.iload_n 1, 1) := by decide +kernel
theorem dX10_cutTo_79 : decode cX10_cutTo 79 = .ok (.i2d, 1) := by decide +kernel
theorem dX10_cutTo_80 : decode cX10_cutTo 80 = .ok (.invokestatic 90, 3) := by decide +kernel
theorem dX10_cutTo_83 : decode cX10_cutTo 83 = .ok (.lreturn, 1) := by decide +kernel
theorem dX10_splice_0 : decode cX10_splice 0 = .ok (.aload_n 0, 1) := by decide +kernel
theorem dX10_splice_1 : decode cX10_splice 1 = .ok (.getfield 26, 3) := by decide +kernel
theorem dX10_splice_4 : decode cX10_splice 4 = .ok (.iload_n 1, 1) := by decide +kernel
theorem dX10_splice_5 : decode cX10_splice 5 = .ok (.iaload, 1) := by decide +kernel
theorem dX10_splice_6 : decode cX10_splice 6 = .ok (.ifCond .eq 12, 3) := by decide +kernel
theorem dX10_splice_9 : decode cX10_splice 9 = .ok (.aload_n 0, 1) := by decide +kernel
theorem dX10_splice_10 : decode cX10_splice 10 = .ok (.getfield 26, 3) := by decide +kernel
theorem dX10_splice_13 : decode cX10_splice 13 = .ok (.iload_n 2, 1) := by decide +kernel
theorem dX10_splice_14 : decode cX10_splice 14 = .ok (.iaload, 1) := by decide +kernel
theorem dX10_splice_15 : decode cX10_splice 15 = .ok (.ifCond .ne 5, 3) := by decide +kernel
theorem dX10_splice_18 : decode cX10_splice 18 = .ok (.iconst 1, 1) := by decide +kernel
theorem dX10_splice_19 : decode cX10_splice 19 = .ok (.ireturn, 1) := by decide +kernel
theorem dX10_splice_20 : decode cX10_splice 20 = .ok (.aload_n 0, 1) := by decide +kernel
theorem dX10_splice_21 : decode cX10_splice 21 = .ok (.iload_n 1, 1) := by decide +kernel
theorem dX10_splice_22 : decode cX10_splice 22 = .ok (.invokevirtual 96, 3) := by decide +kernel
theorem dX10_splice_25 : decode cX10_splice 25 = .ok (.istore 4, 2) := by decide +kernel
theorem dX10_splice_27 : decode cX10_splice 27 = .ok (.aload_n 0, 1) := by decide +kernel
theorem dX10_splice_28 : decode cX10_splice 28 = .ok (.iload_n 2, 1) := by decide +kernel
theorem dX10_splice_29 : decode cX10_splice 29 = .ok (.invokevirtual 96, 3) := by decide +kernel
theorem dX10_splice_32 : decode cX10_splice 32 = .ok (.istore 5, 2) := by decide +kernel
theorem dX10_splice_34 : decode cX10_splice 34 = .ok (.iload 4, 2) := by decide +kernel
theorem dX10_splice_36 : decode cX10_splice 36 = .ok (.ifCond .lt 8, 3) := by decide +kernel
theorem dX10_splice_39 : decode cX10_splice 39 = .ok (.iload 5, 2) := by decide +kernel
theorem dX10_splice_41 : decode cX10_splice 41 = .ok (.ifCond .ge 5, 3) := by decide +kernel
theorem dX10_splice_44 : decode cX10_splice 44 = .ok (.iconst 2, 1) := by decide +kernel
theorem dX10_splice_45 : decode cX10_splice 45 = .ok (.ireturn, 1) := by decide +kernel
theorem dX10_splice_46 : decode cX10_splice 46 = .ok (.aload_n 0, 1) := by decide +kernel
theorem dX10_splice_47 : decode cX10_splice 47 = .ok (.getfield 7, 3) := by decide +kernel
theorem dX10_splice_50 : decode cX10_splice 50 = .ok (.iload 4, 2) := by decide +kernel
theorem dX10_splice_52 : decode cX10_splice 52 = .ok (.iaload, 1) := by decide +kernel
theorem dX10_splice_53 : decode cX10_splice 53 = .ok (.bipush 8, 2) := by decide +kernel
theorem dX10_splice_55 : decode cX10_splice 55 = .ok (.if_icmp .lt 7, 3) := by decide +kernel
theorem dX10_splice_58 : decode cX10_splice 58 = .ok (.iconst 1, 1) := by decide +kernel
theorem dX10_splice_59 : decode cX10_splice 59 = .ok (.goto 4, 3) := by decide +kernel
theorem dX10_splice_62 : decode cX10_splice 62 = .ok (.iconst 0, 1) := by decide +kernel
theorem dX10_splice_63 : decode cX10_splice 63 = .ok (.istore 6, 2) := by decide +kernel
theorem dX10_splice_65 : decode cX10_splice 65 = .ok (.iload 6, 2) := by decide +kernel
theorem dX10_splice_67 : decode cX10_splice 67 = .ok (.aload_n 0, 1) := by decide +kernel
theorem dX10_splice_68 : decode cX10_splice 68 = .ok (.getfield 7, 3) := by decide +kernel
theorem dX10_splice_71 : decode cX10_splice 71 = .ok (.iload 5, 2) := by decide +kernel
theorem dX10_splice_73 : decode cX10_splice 73 = .ok (.iaload, 1) := by decide +kernel
theorem dX10_splice_74 : decode cX10_splice 74 = .ok (.bipush 8, 2) := by decide +kernel
theorem dX10_splice_76 : decode cX10_splice 76 = .ok (.if_icmp .lt 7, 3) := by decide +kernel
theorem dX10_splice_79 : decode cX10_splice 79 = .ok (.iconst 1, 1) := by decide +kernel
theorem dX10_splice_80 : decode cX10_splice 80 = .ok (.goto 4, 3) := by decide +kernel
theorem dX10_splice_83 : decode cX10_splice 83 = .ok (.iconst 0, 1) := by decide +kernel
theorem dX10_splice_84 : decode cX10_splice 84 = .ok (.if_icmp .ne 25, 3) := by decide +kernel
theorem dX10_splice_87 : decode cX10_splice 87 = .ok (.iload 6, 2) := by decide +kernel
theorem dX10_splice_89 : decode cX10_splice 89 = .ok (.ifCond .ne 22, 3) := by decide +kernel
theorem dX10_splice_92 : decode cX10_splice 92 = .ok (.aload_n 0, 1) := by decide +kernel
theorem dX10_splice_93 : decode cX10_splice 93 = .ok (.getfield 7, 3) := by decide +kernel
theorem dX10_splice_96 : decode cX10_splice 96 = .ok (.iload 4, 2) := by decide +kernel
theorem dX10_splice_98 : decode cX10_splice 98 = .ok (.iaload, 1) := by decide +kernel
theorem dX10_splice_99 : decode cX10_splice 99 = .ok (.aload_n 0, 1) := by decide +kernel
theorem dX10_splice_100 : decode cX10_splice 100 = .ok (.getfield 7, 3) := by decide +kernel
theorem dX10_splice_103 : decode cX10_splice 103 = .ok (.iload 5, 2) := by decide +kernel
theorem dX10_splice_105 : decode cX10_splice 105 = .ok (.iaload, 1) := by decide +kernel
theorem dX10_splice_106 : decode cX10_splice 106 = .ok (.if_icmp .eq 5, 3) := by decide +kernel
theorem dX10_splice_109 : decode cX10_splice 109 = .ok (.iconst 2, 1) := by decide +kernel
theorem dX10_splice_110 : decode cX10_splice 110 = .ok (.ireturn, 1) := by decide +kernel
theorem dX10_splice_111 : decode cX10_splice 111 = .ok (.aload_n 0, 1) := by decide +kernel
theorem dX10_splice_112 : decode cX10_splice 112 = .ok (.getfield 32, 3) := by decide +kernel
theorem dX10_splice_115 : decode cX10_splice 115 = .ok (.iload_n 1, 1) := by decide +kernel
theorem dX10_splice_116 : decode cX10_splice 116 = .ok (.iaload, 1) := by decide +kernel
theorem dX10_splice_117 : decode cX10_splice 117 = .ok (.i2l, 1) := by decide +kernel
theorem dX10_splice_118 : decode cX10_splice 118 = .ok (.iload_n 3, 1) := by decide +kernel
theorem dX10_splice_119 : decode cX10_splice 119 = .ok (.i2l, 1) := by decide +kernel
theorem dX10_splice_120 : decode cX10_splice 120 = .ok (.ladd, 1) := by decide +kernel
theorem dX10_splice_121 : decode cX10_splice 121 = .ok (.lstore 7, 2) := by decide +kernel
theorem dX10_splice_123 : decode cX10_splice 123 = .ok (.aload_n 0, 1) := by decide +kernel
theorem dX10_splice_124 : decode cX10_splice 124 = .ok (.getfield 32, 3) := by decide +kernel
theorem dX10_splice_127 : decode cX10_splice 127 = .ok (.iload_n 2, 1) := by decide +kernel
theorem dX10_splice_128 : decode cX10_splice 128 = .ok (.iaload, 1) := by decide +kernel
theorem dX10_splice_129 : decode cX10_splice 129 = .ok (.i2l, 1) := by decide +kernel
theorem dX10_splice_130 : decode cX10_splice 130 = .ok (.iload_n 3, 1) := by decide +kernel
theorem dX10_splice_131 : decode cX10_splice 131 = .ok (.i2l, 1) := by decide +kernel
theorem dX10_splice_132 : decode cX10_splice 132 = .ok (.ladd, 1) := by decide +kernel
theorem dX10_splice_133 : decode cX10_splice 133 = .ok (.lstore 9, 2) := by decide +kernel
theorem dX10_splice_135 : decode cX10_splice 135 = .ok (.aload_n 0, 1) := by decide +kernel
theorem dX10_splice_136 : decode cX10_splice 136 = .ok (.getfield 32, 3) := by decide +kernel
theorem dX10_splice_139 : decode cX10_splice 139 = .ok (.iload_n 1, 1) := by decide +kernel
theorem dX10_splice_140 : decode cX10_splice 140 = .ok (.iaload, 1) := by decide +kernel
theorem dX10_splice_141 : decode cX10_splice 141 = .ok (.ifCond .lt 44, 3) := by decide +kernel
theorem dX10_splice_144 : decode cX10_splice 144 = .ok (.aload_n 0, 1) := by decide +kernel
theorem dX10_splice_145 : decode cX10_splice 145 = .ok (.getfield 32, 3) := by decide +kernel
theorem dX10_splice_148 : decode cX10_splice 148 = .ok (.iload_n 2, 1) := by decide +kernel
theorem dX10_splice_149 : decode cX10_splice 149 = .ok (.iaload, 1) := by decide +kernel
theorem dX10_splice_150 : decode cX10_splice 150 = .ok (.ifCond .lt 35, 3) := by decide +kernel
theorem dX10_splice_153 : decode cX10_splice 153 = .ok (.iload_n 3, 1) := by decide +kernel
theorem dX10_splice_154 : decode cX10_splice 154 = .ok (.ifCond .lt 31, 3) := by decide +kernel
theorem dX10_splice_157 : decode cX10_splice 157 = .ok (.lload 7, 2) := by decide +kernel
theorem dX10_splice_159 : decode cX10_splice 159 = .ok (.aload_n 0, 1) := by decide +kernel
theorem dX10_splice_160 : decode cX10_splice 160 = .ok (.getfield 13, 3) := by decide +kernel
theorem dX10_splice_163 : decode cX10_splice 163 = .ok (.iload 4, 2) := by decide +kernel
theorem dX10_splice_165 : decode cX10_splice 165 = .ok (.iaload, 1) := by decide +kernel
theorem dX10_splice_166 : decode cX10_splice 166 = .ok (.i2l, 1) := by decide +kernel
theorem dX10_splice_167 : decode cX10_splice 167 = .ok (.lcmp, 1) := by decide +kernel
theorem dX10_splice_168 : decode cX10_splice 168 = .ok (.ifCond .gt 17, 3) := by decide +kernel
theorem dX10_splice_171 : decode cX10_splice 171 = .ok (.lload 9, 2) := by decide +kernel
theorem dX10_splice_173 : decode cX10_splice 173 = .ok (.aload_n 0, 1) := by decide +kernel
theorem dX10_splice_174 : decode cX10_splice 174 = .ok (.getfield 13, 3) := by decide +kernel
theorem dX10_splice_177 : decode cX10_splice 177 = .ok (.iload 5, 2) := by decide +kernel
theorem dX10_splice_179 : decode cX10_splice 179 = .ok (.iaload, 1) := by decide +kernel
theorem dX10_splice_180 : decode cX10_splice 180 = .ok (.i2l, 1) := by decide +kernel
theorem dX10_splice_181 : decode cX10_splice 181 = .ok (.lcmp, 1) := by decide +kernel
theorem dX10_splice_182 : decode cX10_splice 182 = .ok (.ifCond .le 5, 3) := by decide +kernel
theorem dX10_splice_185 : decode cX10_splice 185 = .ok (.iconst 3, 1) := by decide +kernel
theorem dX10_splice_186 : decode cX10_splice 186 = .ok (.ireturn, 1) := by decide +kernel
theorem dX10_splice_187 : decode cX10_splice 187 = .ok (.iconst 0, 1) := by decide +kernel
theorem dX10_splice_188 : decode cX10_splice 188 = .ok (.istore 11, 2) := by decide +kernel
theorem dX10_splice_190 : decode cX10_splice 190 = .ok (.iload 11, 2) := by decide +kernel
theorem dX10_splice_192 : decode cX10_splice 192 = .ok (.iload_n 3, 1) := by decide +kernel
theorem dX10_splice_193 : decode cX10_splice 193 = .ok (.if_icmp .ge 38, 3) := by decide +kernel
theorem dX10_splice_196 : decode cX10_splice 196 = .ok (.aload_n 0, 1) := by decide +kernel
theorem dX10_splice_197 : decode cX10_splice 197 = .ok (.getfield 59, 3) := by decide +kernel
theorem dX10_splice_200 : decode cX10_splice 200 = .ok (.iload 11, 2) := by decide +kernel
theorem dX10_splice_202 : decode cX10_splice 202 = .ok (.aload_n 0, 1) := by decide +kernel
theorem dX10_splice_203 : decode cX10_splice 203 = .ok (.getfield 19, 3) := by decide +kernel
theorem dX10_splice_206 : decode cX10_splice 206 = .ok (.aload_n 0, 1) := by decide +kernel
theorem dX10_splice_207 : decode cX10_splice 207 = .ok (.getfield 16, 3) := by decide +kernel
theorem dX10_splice_210 : decode cX10_splice 210 = .ok (.iload 4, 2) := by decide +kernel
theorem dX10_splice_212 : decode cX10_splice 212 = .ok (.iaload, 1) := by decide +kernel
theorem dX10_splice_213 : decode cX10_splice 213 = .ok (.aload_n 0, 1) := by decide +kernel
theorem dX10_splice_214 : decode cX10_splice 214 = .ok (.getfield 32, 3) := by decide +kernel
theorem dX10_splice_217 : decode cX10_splice 217 = .ok (.iload_n 1, 1) := by decide +kernel
theorem dX10_splice_218 : decode cX10_splice 218 = .ok (.iaload, 1) := by decide +kernel
theorem dX10_splice_219 : decode cX10_splice 219 = .ok (.iadd, 1) := by decide +kernel
theorem dX10_splice_220 : decode cX10_splice 220 = .ok (.iload 11, 2) := by decide +kernel
theorem dX10_splice_222 : decode cX10_splice 222 = .ok (.iadd, 1) := by decide +kernel
theorem dX10_splice_223 : decode cX10_splice 223 = .ok (.laload, 1) := by decide +kernel
theorem dX10_splice_224 : decode cX10_splice 224 = .ok (.lastore, 1) := by decide +kernel
theorem dX10_splice_225 : decode cX10_splice 225 = .ok (.iinc 11 1, 3) := by decide +kernel
theorem dX10_splice_228 : decode cX10_splice 228 = .ok (.goto (-38), 3) := by decide +kernel
theorem dX10_splice_231 : decode cX10_splice 231 = .ok (.iconst 0, 1) := by decide +kernel
theorem dX10_splice_232 : decode cX10_splice 232 = .ok (.istore 11, 2) := by decide +kernel
theorem dX10_splice_234 : decode cX10_splice 234 = .ok (.iload 11, 2) := by decide +kernel
theorem dX10_splice_236 : decode cX10_splice 236 = .ok (.iload_n 3, 1) := by decide +kernel
theorem dX10_splice_237 : decode cX10_splice 237 = .ok (.if_icmp .ge 67, 3) := by decide +kernel
theorem dX10_splice_240 : decode cX10_splice 240 = .ok (.iload 6, 2) := by decide +kernel
theorem dX10_splice_242 : decode cX10_splice 242 = .ok (.ifCond .eq 27, 3) := by decide +kernel
theorem dX10_splice_245 : decode cX10_splice 245 = .ok (.aload_n 0, 1) := by decide +kernel
theorem dX10_splice_246 : decode cX10_splice 246 = .ok (.aload_n 0, 1) := by decide +kernel
theorem dX10_splice_247 : decode cX10_splice 247 = .ok (.getfield 7, 3) := by decide +kernel
theorem dX10_splice_250 : decode cX10_splice 250 = .ok (.iload 5, 2) := by decide +kernel
theorem dX10_splice_252 : decode cX10_splice 252 = .ok (.iaload, 1) := by decide +kernel
theorem dX10_splice_253 : decode cX10_splice 253 = .ok (.aload_n 0, 1) := by decide +kernel
theorem dX10_splice_254 : decode cX10_splice 254 = .ok (.getfield 59, 3) := by decide +kernel
theorem dX10_splice_257 : decode cX10_splice 257 = .ok (.iload 11, 2) := by decide +kernel
theorem dX10_splice_259 : decode cX10_splice 259 = .ok (.laload, 1) := by decide +kernel
theorem dX10_splice_260 : decode cX10_splice 260 = .ok (.l2i, 1) := by decide +kernel
theorem dX10_splice_261 : decode cX10_splice 261 = .ok (.invokevirtual 100, 3) := by decide +kernel
theorem dX10_splice_264 : decode cX10_splice 264 = .ok (.ifCond .ne 5, 3) := by decide +kernel
theorem dX10_splice_267 : decode cX10_splice 267 = .ok (.iconst 2, 1) := by decide +kernel
theorem dX10_splice_268 : decode cX10_splice 268 = .ok (.ireturn, 1) := by decide +kernel
theorem dX10_splice_269 : decode cX10_splice 269 = .ok (.aload_n 0, 1) := by decide +kernel
theorem dX10_splice_270 : decode cX10_splice 270 = .ok (.getfield 19, 3) := by decide +kernel
theorem dX10_splice_273 : decode cX10_splice 273 = .ok (.aload_n 0, 1) := by decide +kernel
theorem dX10_splice_274 : decode cX10_splice 274 = .ok (.getfield 16, 3) := by decide +kernel
theorem dX10_splice_277 : decode cX10_splice 277 = .ok (.iload 5, 2) := by decide +kernel
theorem dX10_splice_279 : decode cX10_splice 279 = .ok (.iaload, 1) := by decide +kernel
theorem dX10_splice_280 : decode cX10_splice 280 = .ok (.aload_n 0, 1) := by decide +kernel
theorem dX10_splice_281 : decode cX10_splice 281 = .ok (.getfield 32, 3) := by decide +kernel
theorem dX10_splice_284 : decode cX10_splice 284 = .ok (.iload_n 2, 1) := by decide +kernel
theorem dX10_splice_285 : decode cX10_splice 285 = .ok (.iaload, 1) := by decide +kernel
theorem dX10_splice_286 : decode cX10_splice 286 = .ok (.iadd, 1) := by decide +kernel
theorem dX10_splice_287 : decode cX10_splice 287 = .ok (.iload 11, 2) := by decide +kernel
theorem dX10_splice_289 : decode cX10_splice 289 = .ok (.iadd, 1) := by decide +kernel
theorem dX10_splice_290 : decode cX10_splice 290 = .ok (.aload_n 0, 1) := by decide +kernel
theorem dX10_splice_291 : decode cX10_splice 291 = .ok (.getfield 59, 3) := by decide +kernel
theorem dX10_splice_294 : decode cX10_splice 294 = .ok (.iload 11, 2) := by decide +kernel
theorem dX10_splice_296 : decode cX10_splice 296 = .ok (.laload, 1) := by decide +kernel
theorem dX10_splice_297 : decode cX10_splice 297 = .ok (.lastore, 1) := by decide +kernel
theorem dX10_splice_298 : decode cX10_splice 298 = .ok (.iinc 11 1, 3) := by decide +kernel
theorem dX10_splice_301 : decode cX10_splice 301 = .ok (.goto (-67), 3) := by decide +kernel
theorem dX10_splice_304 : decode cX10_splice 304 = .ok (.iconst 0, 1) := by decide +kernel
theorem dX10_splice_305 : decode cX10_splice 305 = .ok (.ireturn, 1) := by decide +kernel
theorem dX10_turn_0 : decode cX10_turn 0 = .ok (.aload_n 0, 1) := by decide +kernel
theorem dX10_turn_1 : decode cX10_turn 1 = .ok (.getfield 26, 3) := by decide +kernel
theorem dX10_turn_4 : decode cX10_turn 4 = .ok (.iload_n 1, 1) := by decide +kernel
theorem dX10_turn_5 : decode cX10_turn 5 = .ok (.iaload, 1) := by decide +kernel
theorem dX10_turn_6 : decode cX10_turn 6 = .ok (.ifCond .ne 5, 3) := by decide +kernel
theorem dX10_turn_9 : decode cX10_turn 9 = .ok (.iconst 1, 1) := by decide +kernel
theorem dX10_turn_10 : decode cX10_turn 10 = .ok (.ireturn, 1) := by decide +kernel
theorem dX10_turn_11 : decode cX10_turn 11 = .ok (.aload_n 0, 1) := by decide +kernel
theorem dX10_turn_12 : decode cX10_turn 12 = .ok (.iload_n 1, 1) := by decide +kernel
theorem dX10_turn_13 : decode cX10_turn 13 = .ok (.invokevirtual 96, 3) := by decide +kernel
theorem dX10_turn_16 : decode cX10_turn 16 = .ok (.istore_n 3, 1) := by decide +kernel
theorem dX10_turn_17 : decode cX10_turn 17 = .ok (.iload_n 3, 1) := by decide +kernel
theorem dX10_turn_18 : decode cX10_turn 18 = .ok (.ifCond .ge 5, 3) := by decide +kernel
theorem dX10_turn_21 : decode cX10_turn 21 = .ok (.iconst 2, 1) := by decide +kernel
theorem dX10_turn_22 : decode cX10_turn 22 = .ok (.ireturn, 1) := by decide +kernel
theorem dX10_turn_23 : decode cX10_turn 23 = .ok (.aload_n 0, 1) := by decide +kernel
theorem dX10_turn_24 : decode cX10_turn 24 = .ok (.getfield 13, 3) := by decide +kernel
theorem dX10_turn_27 : decode cX10_turn 27 = .ok (.iload_n 3, 1) := by decide +kernel
theorem dX10_turn_28 : decode cX10_turn 28 = .ok (.iaload, 1) := by decide +kernel
theorem dX10_turn_29 : decode cX10_turn 29 = .ok (.istore 4, 2) := by decide +kernel
theorem dX10_turn_31 : decode cX10_turn 31 = .ok (.iconst 0, 1) := by decide +kernel
theorem dX10_turn_32 : decode cX10_turn 32 = .ok (.istore 5, 2) := by decide +kernel
theorem dX10_turn_34 : decode cX10_turn 34 = .ok (.iload 5, 2) := by decide +kernel
theorem dX10_turn_36 : decode cX10_turn 36 = .ok (.iload 4, 2) := by decide +kernel
theorem dX10_turn_38 : decode cX10_turn 38 = .ok (.if_icmp .ge 60, 3) := by decide +kernel
theorem dX10_turn_41 : decode cX10_turn 41 = .ok (.iload 5, 2) := by decide +kernel
theorem dX10_turn_43 : decode cX10_turn 43 = .ok (.i2l, 1) := by decide +kernel
theorem dX10_turn_44 : decode cX10_turn 44 = .ok (.iload_n 2, 1) := by decide +kernel
theorem dX10_turn_45 : decode cX10_turn 45 = .ok (.i2l, 1) := by decide +kernel
theorem dX10_turn_46 : decode cX10_turn 46 = .ok (.ladd, 1) := by decide +kernel
theorem dX10_turn_47 : decode cX10_turn 47 = .ok (.iload 4, 2) := by decide +kernel
theorem dX10_turn_49 : decode cX10_turn 49 = .ok (.i2l, 1) := by decide +kernel
theorem dX10_turn_50 : decode cX10_turn 50 = .ok (.lrem, 1) := by decide +kernel
theorem dX10_turn_51 : decode cX10_turn 51 = .ok (.l2i, 1) := by decide +kernel
theorem dX10_turn_52 : decode cX10_turn 52 = .ok (.istore 6, 2) := by decide +kernel
theorem dX10_turn_54 : decode cX10_turn 54 = .ok (.iload 6, 2) := by decide +kernel
theorem dX10_turn_56 : decode cX10_turn 56 = .ok (.ifCond .ge 11, 3) := by decide +kernel
theorem dX10_turn_59 : decode cX10_turn 59 = .ok (.iload 6, 2) := by decide +kernel
theorem dX10_turn_61 : decode cX10_turn 61 = .ok (.iload 4, 2) := by decide +kernel
theorem dX10_turn_63 : decode cX10_turn 63 = .ok (.iadd, 1) := by decide +kernel
theorem dX10_turn_64 : decode cX10_turn 64 = .ok (.goto 5, 3) := by decide +kernel
theorem dX10_turn_67 : decode cX10_turn 67 = .ok (.iload 6, 2) := by decide +kernel
theorem dX10_turn_69 : decode cX10_turn 69 = .ok (.istore 6, 2) := by decide +kernel
theorem dX10_turn_71 : decode cX10_turn 71 = .ok (.aload_n 0, 1) := by decide +kernel
theorem dX10_turn_72 : decode cX10_turn 72 = .ok (.getfield 59, 3) := by decide +kernel
theorem dX10_turn_75 : decode cX10_turn 75 = .ok (.iload 5, 2) := by decide +kernel
theorem dX10_turn_77 : decode cX10_turn 77 = .ok (.aload_n 0, 1) := by decide +kernel
theorem dX10_turn_78 : decode cX10_turn 78 = .ok (.getfield 19, 3) := by decide +kernel
theorem dX10_turn_81 : decode cX10_turn 81 = .ok (.aload_n 0, 1) := by decide +kernel
theorem dX10_turn_82 : decode cX10_turn 82 = .ok (.getfield 16, 3) := by decide +kernel
theorem dX10_turn_85 : decode cX10_turn 85 = .ok (.iload_n 3, 1) := by decide +kernel
theorem dX10_turn_86 : decode cX10_turn 86 = .ok (.iaload, 1) := by decide +kernel
theorem dX10_turn_87 : decode cX10_turn 87 = .ok (.iload 6, 2) := by decide +kernel
theorem dX10_turn_89 : decode cX10_turn 89 = .ok (.iadd, 1) := by decide +kernel
theorem dX10_turn_90 : decode cX10_turn 90 = .ok (.laload, 1) := by decide +kernel
theorem dX10_turn_91 : decode cX10_turn 91 = .ok (.lastore, 1) := by decide +kernel
theorem dX10_turn_92 : decode cX10_turn 92 = .ok (.iinc 5 1, 3) := by decide +kernel
theorem dX10_turn_95 : decode cX10_turn 95 = .ok (.goto (-61), 3) := by decide +kernel
theorem dX10_turn_98 : decode cX10_turn 98 = .ok (.iconst 0, 1) := by decide +kernel
theorem dX10_turn_99 : decode cX10_turn 99 = .ok (.istore 5, 2) := by decide +kernel
theorem dX10_turn_101 : decode cX10_turn 101 = .ok (.iload 5, 2) := by decide +kernel
theorem dX10_turn_103 : decode cX10_turn 103 = .ok (.iload 4, 2) := by decide +kernel
theorem dX10_turn_105 : decode cX10_turn 105 = .ok (.if_icmp .ge 30, 3) := by decide +kernel
theorem dX10_turn_108 : decode cX10_turn 108 = .ok (.aload_n 0, 1) := by decide +kernel
theorem dX10_turn_109 : decode cX10_turn 109 = .ok (.getfield 19, 3) := by decide +kernel
theorem dX10_turn_112 : decode cX10_turn 112 = .ok (.aload_n 0, 1) := by decide +kernel
theorem dX10_turn_113 : decode cX10_turn 113 = .ok (.getfield 16, 3) := by decide +kernel
theorem dX10_turn_116 : decode cX10_turn 116 = .ok (.iload_n 3, 1) := by decide +kernel
theorem dX10_turn_117 : decode cX10_turn 117 = .ok (.iaload, 1) := by decide +kernel
theorem dX10_turn_118 : decode cX10_turn 118 = .ok (.iload 5, 2) := by decide +kernel
theorem dX10_turn_120 : decode cX10_turn 120 = .ok (.iadd, 1) := by decide +kernel
theorem dX10_turn_121 : decode cX10_turn 121 = .ok (.aload_n 0, 1) := by decide +kernel
theorem dX10_turn_122 : decode cX10_turn 122 = .ok (.getfield 59, 3) := by decide +kernel
theorem dX10_turn_125 : decode cX10_turn 125 = .ok (.iload 5, 2) := by decide +kernel
theorem dX10_turn_127 : decode cX10_turn 127 = .ok (.laload, 1) := by decide +kernel
theorem dX10_turn_128 : decode cX10_turn 128 = .ok (.lastore, 1) := by decide +kernel
theorem dX10_turn_129 : decode cX10_turn 129 = .ok (.iinc 5 1, 3) := by decide +kernel
theorem dX10_turn_132 : decode cX10_turn 132 = .ok (.goto (-31), 3) := by decide +kernel
theorem dX10_turn_135 : decode cX10_turn 135 = .ok (.iconst 0, 1) := by decide +kernel
theorem dX10_turn_136 : decode cX10_turn 136 = .ok (.ireturn, 1) := by decide +kernel
theorem dX10_open_0 : decode cX10_open 0 = .ok (.aload_n 0, 1) := by decide +kernel
theorem dX10_open_1 : decode cX10_open 1 = .ok (.getfield 26, 3) := by decide +kernel
theorem dX10_open_4 : decode cX10_open 4 = .ok (.iload_n 1, 1) := by decide +kernel
theorem dX10_open_5 : decode cX10_open 5 = .ok (.iaload, 1) := by decide +kernel
theorem dX10_open_6 : decode cX10_open 6 = .ok (.ifCond .ne 5, 3) := by decide +kernel
theorem dX10_open_9 : decode cX10_open 9 = .ok (.iconst 1, 1) := by decide +kernel
theorem dX10_open_10 : decode cX10_open 10 = .ok (.ireturn, 1) := by decide +kernel
theorem dX10_open_11 : decode cX10_open 11 = .ok (.aload_n 0, 1) := by decide +kernel
theorem dX10_open_12 : decode cX10_open 12 = .ok (.iload_n 1, 1) := by decide +kernel
theorem dX10_open_13 : decode cX10_open 13 = .ok (.invokevirtual 96, 3) := by decide +kernel
theorem dX10_open_16 : decode cX10_open 16 = .ok (.istore 4, 2) := by decide +kernel
theorem dX10_open_18 : decode cX10_open 18 = .ok (.iload 4, 2) := by decide +kernel
theorem dX10_open_20 : decode cX10_open 20 = .ok (.ifCond .ge 5, 3) := by decide +kernel
theorem dX10_open_23 : decode cX10_open 23 = .ok (.iconst 2, 1) := by decide +kernel
theorem dX10_open_24 : decode cX10_open 24 = .ok (.ireturn, 1) := by decide +kernel
theorem dX10_open_25 : decode cX10_open 25 = .ok (.aload_n 0, 1) := by decide +kernel
theorem dX10_open_26 : decode cX10_open 26 = .ok (.getfield 32, 3) := by decide +kernel
theorem dX10_open_29 : decode cX10_open 29 = .ok (.iload_n 1, 1) := by decide +kernel
theorem dX10_open_30 : decode cX10_open 30 = .ok (.iaload, 1) := by decide +kernel
theorem dX10_open_31 : decode cX10_open 31 = .ok (.istore 5, 2) := by decide +kernel
theorem dX10_open_33 : decode cX10_open 33 = .ok (.aload_n 0, 1) := by decide +kernel
theorem dX10_open_34 : decode cX10_open 34 = .ok (.getfield 13, 3) := by decide +kernel
theorem dX10_open_37 : decode cX10_open 37 = .ok (.iload 4, 2) := by decide +kernel
theorem dX10_open_39 : decode cX10_open 39 = .ok (.iaload, 1) := by decide +kernel
theorem dX10_open_40 : decode cX10_open 40 = .ok (.istore 6, 2) := by decide +kernel
theorem dX10_open_42 : decode cX10_open 42 = .ok (.iload 5, 2) := by decide +kernel
theorem dX10_open_44 : decode cX10_open 44 = .ok (.ifCond .lt 20, 3) := by decide +kernel
theorem dX10_open_47 : decode cX10_open 47 = .ok (.iload_n 2, 1) := by decide +kernel
theorem dX10_open_48 : decode cX10_open 48 = .ok (.ifCond .lt 16, 3) := by decide +kernel
theorem dX10_open_51 : decode cX10_open 51 = .ok (.iload 5, 2) := by decide +kernel
theorem dX10_open_53 : decode cX10_open 53 = .ok (.i2l, 1) := by decide +kernel
theorem dX10_open_54 : decode cX10_open 54 = .ok (.iload_n 2, 1) := by decide +kernel
theorem dX10_open_55 : decode cX10_open 55 = .ok (.i2l, 1) := by decide +kernel
theorem dX10_open_56 : decode cX10_open 56 = .ok (.ladd, 1) := by decide +kernel
theorem dX10_open_57 : decode cX10_open 57 = .ok (.iload 6, 2) := by decide +kernel
theorem dX10_open_59 : decode cX10_open 59 = .ok (.i2l, 1) := by decide +kernel
theorem dX10_open_60 : decode cX10_open 60 = .ok (.lcmp, 1) := by decide +kernel
theorem dX10_open_61 : decode cX10_open 61 = .ok (.ifCond .le 5, 3) := by decide +kernel
theorem dX10_open_64 : decode cX10_open 64 = .ok (.iconst 3, 1) := by decide +kernel
theorem dX10_open_65 : decode cX10_open 65 = .ok (.ireturn, 1) := by decide +kernel
theorem dX10_open_66 : decode cX10_open 66 = .ok (.iconst 0, 1) := by decide +kernel
theorem dX10_open_67 : decode cX10_open 67 = .ok (.istore 7, 2) := by decide +kernel
theorem dX10_open_69 : decode cX10_open 69 = .ok (.iload 7, 2) := by decide +kernel
theorem dX10_open_71 : decode cX10_open 71 = .ok (.iload 6, 2) := by decide +kernel
theorem dX10_open_73 : decode cX10_open 73 = .ok (.if_icmp .ge 31, 3) := by decide +kernel
theorem dX10_open_76 : decode cX10_open 76 = .ok (.aload_n 0, 1) := by decide +kernel
theorem dX10_open_77 : decode cX10_open 77 = .ok (.getfield 59, 3) := by decide +kernel
theorem dX10_open_80 : decode cX10_open 80 = .ok (.iload 7, 2) := by decide +kernel
theorem dX10_open_82 : decode cX10_open 82 = .ok (.aload_n 0, 1) := by decide +kernel
theorem dX10_open_83 : decode cX10_open 83 = .ok (.getfield 19, 3) := by decide +kernel
theorem dX10_open_86 : decode cX10_open 86 = .ok (.aload_n 0, 1) := by decide +kernel
theorem dX10_open_87 : decode cX10_open 87 = .ok (.getfield 16, 3) := by decide +kernel
theorem dX10_open_90 : decode cX10_open 90 = .ok (.iload 4, 2) := by decide +kernel
theorem dX10_open_92 : decode cX10_open 92 = .ok (.iaload, 1) := by decide +kernel
theorem dX10_open_93 : decode cX10_open 93 = .ok (.iload 7, 2) := by decide +kernel
theorem dX10_open_95 : decode cX10_open 95 = .ok (.iadd, 1) := by decide +kernel
theorem dX10_open_96 : decode cX10_open 96 = .ok (.laload, 1) := by decide +kernel
theorem dX10_open_97 : decode cX10_open 97 = .ok (.lastore, 1) := by decide +kernel
theorem dX10_open_98 : decode cX10_open 98 = .ok (.iinc 7 1, 3) := by decide +kernel
theorem dX10_open_101 : decode cX10_open 101 = .ok (.goto (-32), 3) := by decide +kernel
theorem dX10_open_104 : decode cX10_open 104 = .ok (.iload 5, 2) := by decide +kernel
theorem dX10_open_106 : decode cX10_open 106 = .ok (.istore 7, 2) := by decide +kernel
theorem dX10_open_108 : decode cX10_open 108 = .ok (.iload 7, 2) := by decide +kernel
theorem dX10_open_110 : decode cX10_open 110 = .ok (.iload 6, 2) := by decide +kernel
theorem dX10_open_112 : decode cX10_open 112 = .ok (.if_icmp .ge 90, 3) := by decide +kernel
theorem dX10_open_115 : decode cX10_open 115 = .ok (.iload_n 3, 1) := by decide +kernel
theorem dX10_open_116 : decode cX10_open 116 = .ok (.ifCond .eq 10, 3) := by decide +kernel
theorem dX10_open_119 : decode cX10_open 119 = .ok (.iload 7, 2) := by decide +kernel
theorem dX10_open_121 : decode cX10_open 121 = .ok (.iload_n 2, 1) := by decide +kernel
theorem dX10_open_122 : decode cX10_open 122 = .ok (.iadd, 1) := by decide +kernel
theorem dX10_open_123 : decode cX10_open 123 = .ok (.goto 7, 3) := by decide +kernel
theorem dX10_open_126 : decode cX10_open 126 = .ok (.iload 7, 2) := by decide +kernel
theorem dX10_open_128 : decode cX10_open 128 = .ok (.iload_n 2, 1) := by decide +kernel
theorem dX10_open_129 : decode cX10_open 129 = .ok (.isub, 1) := by decide +kernel
theorem dX10_open_130 : decode cX10_open 130 = .ok (.istore 8, 2) := by decide +kernel
theorem dX10_open_132 : decode cX10_open 132 = .ok (.iload_n 3, 1) := by decide +kernel
theorem dX10_open_133 : decode cX10_open 133 = .ok (.ifCond .eq 18, 3) := by decide +kernel
theorem dX10_open_136 : decode cX10_open 136 = .ok (.iload 8, 2) := by decide +kernel
theorem dX10_open_138 : decode cX10_open 138 = .ok (.iload 6, 2) := by decide +kernel
theorem dX10_open_140 : decode cX10_open 140 = .ok (.if_icmp .ge 7, 3) := by decide +kernel
theorem dX10_open_143 : decode cX10_open 143 = .ok (.iconst 1, 1) := by decide +kernel
theorem dX10_open_144 : decode cX10_open 144 = .ok (.goto 19, 3) := by decide +kernel
theorem dX10_open_147 : decode cX10_open 147 = .ok (.iconst 0, 1) := by decide +kernel
theorem dX10_open_148 : decode cX10_open 148 = .ok (.goto 15, 3) := by decide +kernel
theorem dX10_open_151 : decode cX10_open 151 = .ok (.iload 8, 2) := by decide +kernel
theorem dX10_open_153 : decode cX10_open 153 = .ok (.iload 5, 2) := by decide +kernel
theorem dX10_open_155 : decode cX10_open 155 = .ok (.if_icmp .lt 7, 3) := by decide +kernel
theorem dX10_open_158 : decode cX10_open 158 = .ok (.iconst 1, 1) := by decide +kernel
theorem dX10_open_159 : decode cX10_open 159 = .ok (.goto 4, 3) := by decide +kernel
theorem dX10_open_162 : decode cX10_open 162 = .ok (.iconst 0, 1) := by decide +kernel
theorem dX10_open_163 : decode cX10_open 163 = .ok (.istore 9, 2) := by decide +kernel
theorem dX10_open_165 : decode cX10_open 165 = .ok (.aload_n 0, 1) := by decide +kernel
theorem dX10_open_166 : decode cX10_open 166 = .ok (.getfield 19, 3) := by decide +kernel
theorem dX10_open_169 : decode cX10_open 169 = .ok (.aload_n 0, 1) := by decide +kernel
theorem dX10_open_170 : decode cX10_open 170 = .ok (.getfield 16, 3) := by decide +kernel
theorem dX10_open_173 : decode cX10_open 173 = .ok (.iload 4, 2) := by decide +kernel
theorem dX10_open_175 : decode cX10_open 175 = .ok (.iaload, 1) := by decide +kernel
theorem dX10_open_176 : decode cX10_open 176 = .ok (.iload 7, 2) := by decide +kernel
theorem dX10_open_178 : decode cX10_open 178 = .ok (.iadd, 1) := by decide +kernel
theorem dX10_open_179 : decode cX10_open 179 = .ok (.iload 9, 2) := by decide +kernel
theorem dX10_open_181 : decode cX10_open 181 = .ok (.ifCond .eq 13, 3) := by decide +kernel
theorem dX10_open_184 : decode cX10_open 184 = .ok (.aload_n 0, 1) := by decide +kernel
theorem dX10_open_185 : decode cX10_open 185 = .ok (.getfield 59, 3) := by decide +kernel
theorem dX10_open_188 : decode cX10_open 188 = .ok (.iload 8, 2) := by decide +kernel
theorem dX10_open_190 : decode cX10_open 190 = .ok (.laload, 1) := by decide +kernel
theorem dX10_open_191 : decode cX10_open 191 = .ok (.goto 4, 3) := by decide +kernel
theorem dX10_open_194 : decode cX10_open 194 = .ok (.lconst 0, 1) := by decide +kernel
theorem dX10_open_195 : decode cX10_open 195 = .ok (.lastore, 1) := by decide +kernel
theorem dX10_open_196 : decode cX10_open 196 = .ok (.iinc 7 1, 3) := by decide +kernel
theorem dX10_open_199 : decode cX10_open 199 = .ok (.goto (-91), 3) := by decide +kernel
theorem dX10_open_202 : decode cX10_open 202 = .ok (.iconst 0, 1) := by decide +kernel
theorem dX10_open_203 : decode cX10_open 203 = .ok (.ireturn, 1) := by decide +kernel
theorem dX10_makeOn_0 : decode cX10_makeOn 0 = .ok (.iload_n 3, 1) := by decide +kernel
theorem dX10_makeOn_1 : decode cX10_makeOn 1 = .ok (.ifCond .ge 5, 3) := by decide +kernel
theorem dX10_makeOn_4 : decode cX10_makeOn 4 = .ok (.iconst 5, 1) := by decide +kernel
theorem dX10_makeOn_5 : decode cX10_makeOn 5 = .ok (.ireturn, 1) := by decide +kernel
theorem dX10_makeOn_6 : decode cX10_makeOn 6 = .ok (.aload_n 0, 1) := by decide +kernel
theorem dX10_makeOn_7 : decode cX10_makeOn 7 = .ok (.iload_n 3, 1) := by decide +kernel
theorem dX10_makeOn_8 : decode cX10_makeOn 8 = .ok (.invokevirtual 104, 3) := by decide +kernel
theorem dX10_makeOn_11 : decode cX10_makeOn 11 = .ok (.ifCond .ne 5, 3) := by decide +kernel
theorem dX10_makeOn_14 : decode cX10_makeOn 14 = .ok (.iconst 4, 1) := by decide +kernel
theorem dX10_makeOn_15 : decode cX10_makeOn 15 = .ok (.ireturn, 1) := by decide +kernel
theorem dX10_makeOn_16 : decode cX10_makeOn 16 = .ok (.aload_n 0, 1) := by decide +kernel
theorem dX10_makeOn_17 : decode cX10_makeOn 17 = .ok (.iload_n 1, 1) := by decide +kernel
theorem dX10_makeOn_18 : decode cX10_makeOn 18 = .ok (.iconst 1, 1) := by decide +kernel
theorem dX10_makeOn_19 : decode cX10_makeOn 19 = .ok (.aload_n 0, 1) := by decide +kernel
theorem dX10_makeOn_20 : decode cX10_makeOn 20 = .ok (.iload_n 2, 1) := by decide +kernel
theorem dX10_makeOn_21 : decode cX10_makeOn 21 = .ok (.iload_n 3, 1) := by decide +kernel
theorem dX10_makeOn_22 : decode cX10_makeOn 22 = .ok (.invokevirtual 108, 3) := by decide +kernel
theorem dX10_makeOn_25 : decode cX10_makeOn 25 = .ok (.invokevirtual 112, 3) := by decide +kernel
theorem dX10_makeOn_28 : decode cX10_makeOn 28 = .ok (.iconst 0, 1) := by decide +kernel
theorem dX10_makeOn_29 : decode cX10_makeOn 29 = .ok (.ireturn, 1) := by decide +kernel
theorem dX10_twin_0 : decode cX10_twin 0 = .ok (.aload_n 0, 1) := by decide +kernel
theorem dX10_twin_1 : decode cX10_twin 1 = .ok (.getfield 26, 3) := by decide +kernel
theorem dX10_twin_4 : decode cX10_twin 4 = .ok (.iload_n 2, 1) := by decide +kernel
theorem dX10_twin_5 : decode cX10_twin 5 = .ok (.iaload, 1) := by decide +kernel
theorem dX10_twin_6 : decode cX10_twin 6 = .ok (.ifCond .ne 5, 3) := by decide +kernel
theorem dX10_twin_9 : decode cX10_twin 9 = .ok (.iconst 1, 1) := by decide +kernel
theorem dX10_twin_10 : decode cX10_twin 10 = .ok (.ireturn, 1) := by decide +kernel
theorem dX10_twin_11 : decode cX10_twin 11 = .ok (.aload_n 0, 1) := by decide +kernel
theorem dX10_twin_12 : decode cX10_twin 12 = .ok (.iload_n 2, 1) := by decide +kernel
theorem dX10_twin_13 : decode cX10_twin 13 = .ok (.invokevirtual 96, 3) := by decide +kernel
theorem dX10_twin_16 : decode cX10_twin 16 = .ok (.istore_n 3, 1) := by decide +kernel
theorem dX10_twin_17 : decode cX10_twin 17 = .ok (.iload_n 3, 1) := by decide +kernel
theorem dX10_twin_18 : decode cX10_twin 18 = .ok (.ifCond .ge 5, 3) := by decide +kernel
theorem dX10_twin_21 : decode cX10_twin 21 = .ok (.iconst 2, 1) := by decide +kernel
theorem dX10_twin_22 : decode cX10_twin 22 = .ok (.ireturn, 1) := by decide +kernel
theorem dX10_twin_23 : decode cX10_twin 23 = .ok (.aload_n 0, 1) := by decide +kernel
theorem dX10_twin_24 : decode cX10_twin 24 = .ok (.aload_n 0, 1) := by decide +kernel
theorem dX10_twin_25 : decode cX10_twin 25 = .ok (.getfield 13, 3) := by decide +kernel
theorem dX10_twin_28 : decode cX10_twin 28 = .ok (.iload_n 3, 1) := by decide +kernel
theorem dX10_twin_29 : decode cX10_twin 29 = .ok (.iaload, 1) := by decide +kernel
theorem dX10_twin_30 : decode cX10_twin 30 = .ok (.invokevirtual 104, 3) := by decide +kernel
theorem dX10_twin_33 : decode cX10_twin 33 = .ok (.ifCond .ne 5, 3) := by decide +kernel
theorem dX10_twin_36 : decode cX10_twin 36 = .ok (.iconst 4, 1) := by decide +kernel
theorem dX10_twin_37 : decode cX10_twin 37 = .ok (.ireturn, 1) := by decide +kernel
theorem dX10_twin_38 : decode cX10_twin 38 = .ok (.aload_n 0, 1) := by decide +kernel
theorem dX10_twin_39 : decode cX10_twin 39 = .ok (.aload_n 0, 1) := by decide +kernel
theorem dX10_twin_40 : decode cX10_twin 40 = .ok (.getfield 7, 3) := by decide +kernel
theorem dX10_twin_43 : decode cX10_twin 43 = .ok (.iload_n 3, 1) := by decide +kernel
theorem dX10_twin_44 : decode cX10_twin 44 = .ok (.iaload, 1) := by decide +kernel
theorem dX10_twin_45 : decode cX10_twin 45 = .ok (.aload_n 0, 1) := by decide +kernel
theorem dX10_twin_46 : decode cX10_twin 46 = .ok (.getfield 13, 3) := by decide +kernel
theorem dX10_twin_49 : decode cX10_twin 49 = .ok (.iload_n 3, 1) := by decide +kernel
theorem dX10_twin_50 : decode cX10_twin 50 = .ok (.iaload, 1) := by decide +kernel
theorem dX10_twin_51 : decode cX10_twin 51 = .ok (.invokevirtual 108, 3) := by decide +kernel
theorem dX10_twin_54 : decode cX10_twin 54 = .ok (.istore 4, 2) := by decide +kernel
theorem dX10_twin_56 : decode cX10_twin 56 = .ok (.iconst 0, 1) := by decide +kernel
theorem dX10_twin_57 : decode cX10_twin 57 = .ok (.istore 5, 2) := by decide +kernel
theorem dX10_twin_59 : decode cX10_twin 59 = .ok (.iload 5, 2) := by decide +kernel
theorem dX10_twin_61 : decode cX10_twin 61 = .ok (.aload_n 0, 1) := by decide +kernel
theorem dX10_twin_62 : decode cX10_twin 62 = .ok (.getfield 13, 3) := by decide +kernel
theorem dX10_twin_65 : decode cX10_twin 65 = .ok (.iload_n 3, 1) := by decide +kernel
theorem dX10_twin_66 : decode cX10_twin 66 = .ok (.iaload, 1) := by decide +kernel
theorem dX10_twin_67 : decode cX10_twin 67 = .ok (.if_icmp .ge 38, 3) := by decide +kernel
theorem dX10_twin_70 : decode cX10_twin 70 = .ok (.aload_n 0, 1) := by decide +kernel
theorem dX10_twin_71 : decode cX10_twin 71 = .ok (.getfield 19, 3) := by decide +kernel
theorem dX10_twin_74 : decode cX10_twin 74 = .ok (.aload_n 0, 1) := by decide +kernel
theorem dX10_twin_75 : decode cX10_twin 75 = .ok (.getfield 16, 3) := by decide +kernel
theorem dX10_twin_78 : decode cX10_twin 78 = .ok (.iload 4, 2) := by decide +kernel
theorem dX10_twin_80 : decode cX10_twin 80 = .ok (.iaload, 1) := by decide +kernel
theorem dX10_twin_81 : decode cX10_twin 81 = .ok (.iload 5, 2) := by decide +kernel
theorem dX10_twin_83 : decode cX10_twin 83 = .ok (.iadd, 1) := by decide +kernel
theorem dX10_twin_84 : decode cX10_twin 84 = .ok (.aload_n 0, 1) := by decide +kernel
theorem dX10_twin_85 : decode cX10_twin 85 = .ok (.getfield 19, 3) := by decide +kernel
theorem dX10_twin_88 : decode cX10_twin 88 = .ok (.aload_n 0, 1) := by decide +kernel
theorem dX10_twin_89 : decode cX10_twin 89 = .ok (.getfield 16, 3) := by decide +kernel
theorem dX10_twin_92 : decode cX10_twin 92 = .ok (.iload_n 3, 1) := by decide +kernel
theorem dX10_twin_93 : decode cX10_twin 93 = .ok (.iaload, 1) := by decide +kernel
theorem dX10_twin_94 : decode cX10_twin 94 = .ok (.iload 5, 2) := by decide +kernel
theorem dX10_twin_96 : decode cX10_twin 96 = .ok (.iadd, 1) := by decide +kernel
theorem dX10_twin_97 : decode cX10_twin 97 = .ok (.laload, 1) := by decide +kernel
theorem dX10_twin_98 : decode cX10_twin 98 = .ok (.lastore, 1) := by decide +kernel
theorem dX10_twin_99 : decode cX10_twin 99 = .ok (.iinc 5 1, 3) := by decide +kernel
theorem dX10_twin_102 : decode cX10_twin 102 = .ok (.goto (-43), 3) := by decide +kernel
theorem dX10_twin_105 : decode cX10_twin 105 = .ok (.aload_n 0, 1) := by decide +kernel
theorem dX10_twin_106 : decode cX10_twin 106 = .ok (.iload_n 1, 1) := by decide +kernel
theorem dX10_twin_107 : decode cX10_twin 107 = .ok (.iconst 1, 1) := by decide +kernel
theorem dX10_twin_108 : decode cX10_twin 108 = .ok (.iload 4, 2) := by decide +kernel
theorem dX10_twin_110 : decode cX10_twin 110 = .ok (.invokevirtual 112, 3) := by decide +kernel
theorem dX10_twin_113 : decode cX10_twin 113 = .ok (.iconst 0, 1) := by decide +kernel
theorem dX10_twin_114 : decode cX10_twin 114 = .ok (.ireturn, 1) := by decide +kernel
theorem dX10_swap_0 : decode cX10_swap 0 = .ok (.aload_n 0, 1) := by decide +kernel
theorem dX10_swap_1 : decode cX10_swap 1 = .ok (.getfield 26, 3) := by decide +kernel
theorem dX10_swap_4 : decode cX10_swap 4 = .ok (.iload_n 1, 1) := by decide +kernel
theorem dX10_swap_5 : decode cX10_swap 5 = .ok (.iaload, 1) := by decide +kernel
theorem dX10_swap_6 : decode cX10_swap 6 = .ok (.istore_n 3, 1) := by decide +kernel
theorem dX10_swap_7 : decode cX10_swap 7 = .ok (.aload_n 0, 1) := by decide +kernel
theorem dX10_swap_8 : decode cX10_swap 8 = .ok (.getfield 29, 3) := by decide +kernel
theorem dX10_swap_11 : decode cX10_swap 11 = .ok (.iload_n 1, 1) := by decide +kernel
theorem dX10_swap_12 : decode cX10_swap 12 = .ok (.iaload, 1) := by decide +kernel
theorem dX10_swap_13 : decode cX10_swap 13 = .ok (.istore 4, 2) := by decide +kernel
theorem dX10_swap_15 : decode cX10_swap 15 = .ok (.aload_n 0, 1) := by decide +kernel
theorem dX10_swap_16 : decode cX10_swap 16 = .ok (.iload_n 1, 1) := by decide +kernel
theorem dX10_swap_17 : decode cX10_swap 17 = .ok (.aload_n 0, 1) := by decide +kernel
theorem dX10_swap_18 : decode cX10_swap 18 = .ok (.getfield 26, 3) := by decide +kernel
theorem dX10_swap_21 : decode cX10_swap 21 = .ok (.iload_n 2, 1) := by decide +kernel
theorem dX10_swap_22 : decode cX10_swap 22 = .ok (.iaload, 1) := by decide +kernel
theorem dX10_swap_23 : decode cX10_swap 23 = .ok (.aload_n 0, 1) := by decide +kernel
theorem dX10_swap_24 : decode cX10_swap 24 = .ok (.getfield 29, 3) := by decide +kernel
theorem dX10_swap_27 : decode cX10_swap 27 = .ok (.iload_n 2, 1) := by decide +kernel
theorem dX10_swap_28 : decode cX10_swap 28 = .ok (.iaload, 1) := by decide +kernel
theorem dX10_swap_29 : decode cX10_swap 29 = .ok (.invokevirtual 112, 3) := by decide +kernel
theorem dX10_swap_32 : decode cX10_swap 32 = .ok (.aload_n 0, 1) := by decide +kernel
theorem dX10_swap_33 : decode cX10_swap 33 = .ok (.iload_n 2, 1) := by decide +kernel
theorem dX10_swap_34 : decode cX10_swap 34 = .ok (.iload_n 3, 1) := by decide +kernel
theorem dX10_swap_35 : decode cX10_swap 35 = .ok (.iload 4, 2) := by decide +kernel
theorem dX10_swap_37 : decode cX10_swap 37 = .ok (.invokevirtual 112, 3) := by decide +kernel
theorem dX10_swap_40 : decode cX10_swap 40 = .ok (.return_, 1) := by decide +kernel
theorem dX10_hang_0 : decode cX10_hang 0 = .ok (.iload_n 2, 1) := by decide +kernel
theorem dX10_hang_1 : decode cX10_hang 1 = .ok (.iconst 1, 1) := by decide +kernel
theorem dX10_hang_2 : decode cX10_hang 2 = .ok (.if_icmp .le 15, 3) := by decide +kernel
theorem dX10_hang_5 : decode cX10_hang 5 = .ok (.aload_n 0, 1) := by decide +kernel
theorem dX10_hang_6 : decode cX10_hang 6 = .ok (.getfield 116, 3) := by decide +kernel
theorem dX10_hang_9 : decode cX10_hang 9 = .ok (.sipush 400, 3) := by decide +kernel
theorem dX10_hang_12 : decode cX10_hang 12 = .ok (.if_icmp .ne 5, 3) := by decide +kernel
theorem dX10_hang_15 : decode cX10_hang 15 = .ok (.iconst 4, 1) := by decide +kernel
theorem dX10_hang_16 : decode cX10_hang 16 = .ok (.ireturn, 1) := by decide +kernel
theorem dX10_hang_17 : decode cX10_hang 17 = .ok (.iload_n 2, 1) := by decide +kernel
theorem dX10_hang_18 : decode cX10_hang 18 = .ok (.ifCond .ne 13, 3) := by decide +kernel
theorem dX10_hang_21 : decode cX10_hang 21 = .ok (.aload_n 0, 1) := by decide +kernel
theorem dX10_hang_22 : decode cX10_hang 22 = .ok (.iload_n 1, 1) := by decide +kernel
theorem dX10_hang_23 : decode cX10_hang 23 = .ok (.iconst 0, 1) := by decide +kernel
theorem dX10_hang_24 : decode cX10_hang 24 = .ok (.iconst 0, 1) := by decide +kernel
theorem dX10_hang_25 : decode cX10_hang 25 = .ok (.invokevirtual 112, 3) := by decide +kernel
theorem dX10_hang_28 : decode cX10_hang 28 = .ok (.goto 63, 3) := by decide +kernel
theorem dX10_hang_31 : decode cX10_hang 31 = .ok (.iload_n 2, 1) := by decide +kernel
theorem dX10_hang_32 : decode cX10_hang 32 = .ok (.iconst 1, 1) := by decide +kernel
theorem dX10_hang_33 : decode cX10_hang 33 = .ok (.if_icmp .ne 26, 3) := by decide +kernel
theorem dX10_hang_36 : decode cX10_hang 36 = .ok (.aload_n 0, 1) := by decide +kernel
theorem dX10_hang_37 : decode cX10_hang 37 = .ok (.dup, 1) := by decide +kernel
theorem dX10_hang_38 : decode cX10_hang 38 = .ok (.getfield 119, 3) := by decide +kernel
theorem dX10_hang_41 : decode cX10_hang 41 = .ok (.iconst 1, 1) := by decide +kernel
theorem dX10_hang_42 : decode cX10_hang 42 = .ok (.iadd, 1) := by decide +kernel
theorem dX10_hang_43 : decode cX10_hang 43 = .ok (.putfield 119, 3) := by decide +kernel
theorem dX10_hang_46 : decode cX10_hang 46 = .ok (.aload_n 0, 1) := by decide +kernel
theorem dX10_hang_47 : decode cX10_hang 47 = .ok (.iload_n 1, 1) := by decide +kernel
theorem dX10_hang_48 : decode cX10_hang 48 = .ok (.iconst 2, 1) := by decide +kernel
theorem dX10_hang_49 : decode cX10_hang 49 = .ok (.aload_n 0, 1) := by decide +kernel
theorem dX10_hang_50 : decode cX10_hang 50 = .ok (.getfield 119, 3) := by decide +kernel
theorem dX10_hang_53 : decode cX10_hang 53 = .ok (.invokevirtual 112, 3) := by decide +kernel
theorem dX10_hang_56 : decode cX10_hang 56 = .ok (.goto 35, 3) := by decide +kernel
theorem dX10_hang_59 : decode cX10_hang 59 = .ok (.aload_n 0, 1) := by decide +kernel
theorem dX10_hang_60 : decode cX10_hang 60 = .ok (.dup, 1) := by decide +kernel
theorem dX10_hang_61 : decode cX10_hang 61 = .ok (.getfield 116, 3) := by decide +kernel
theorem dX10_hang_64 : decode cX10_hang 64 = .ok (.iconst 1, 1) := by decide +kernel
theorem dX10_hang_65 : decode cX10_hang 65 = .ok (.iadd, 1) := by decide +kernel
theorem dX10_hang_66 : decode cX10_hang 66 = .ok (.putfield 116, 3) := by decide +kernel
theorem dX10_hang_69 : decode cX10_hang 69 = .ok (.aload_n 0, 1) := by decide +kernel
theorem dX10_hang_70 : decode cX10_hang 70 = .ok (.getfield 23, 3) := by decide +kernel
theorem dX10_hang_73 : decode cX10_hang 73 = .ok (.aload_n 0, 1) := by decide +kernel
theorem dX10_hang_74 : decode cX10_hang 74 = .ok (.getfield 116, 3) := by decide +kernel
theorem dX10_hang_77 : decode cX10_hang 77 = .ok (.iload_n 2, 1) := by decide +kernel
theorem dX10_hang_78 : decode cX10_hang 78 = .ok (.iconst 1, 1) := by decide +kernel
theorem dX10_hang_79 : decode cX10_hang 79 = .ok (.isub, 1) := by decide +kernel
theorem dX10_hang_80 : decode cX10_hang 80 = .ok (.iastore, 1) := by decide +kernel
theorem dX10_hang_81 : decode cX10_hang 81 = .ok (.aload_n 0, 1) := by decide +kernel
theorem dX10_hang_82 : decode cX10_hang 82 = .ok (.iload_n 1, 1) := by decide +kernel
theorem dX10_hang_83 : decode cX10_hang 83 = .ok (.iconst 3, 1) := by decide +kernel
theorem dX10_hang_84 : decode cX10_hang 84 = .ok (.aload_n 0, 1) := by decide +kernel
theorem dX10_hang_85 : decode cX10_hang 85 = .ok (.getfield 116, 3) := by decide +kernel
theorem dX10_hang_88 : decode cX10_hang 88 = .ok (.invokevirtual 112, 3) := by decide +kernel
theorem dX10_hang_91 : decode cX10_hang 91 = .ok (.iconst 0, 1) := by decide +kernel
theorem dX10_hang_92 : decode cX10_hang 92 = .ok (.ireturn, 1) := by decide +kernel
theorem dX10_pin_0 : decode cX10_pin 0 = .ok (.aload_n 0, 1) := by decide +kernel
theorem dX10_pin_1 : decode cX10_pin 1 = .ok (.getfield 26, 3) := by decide +kernel
theorem dX10_pin_4 : decode cX10_pin 4 = .ok (.iload_n 1, 1) := by decide +kernel
theorem dX10_pin_5 : decode cX10_pin 5 = .ok (.iaload, 1) := by decide +kernel
theorem dX10_pin_6 : decode cX10_pin 6 = .ok (.ifCond .ne 5, 3) := by decide +kernel
theorem dX10_pin_9 : decode cX10_pin 9 = .ok (.iconst 1, 1) := by decide +kernel
theorem dX10_pin_10 : decode cX10_pin 10 = .ok (.ireturn, 1) := by decide +kernel
theorem dX10_pin_11 : decode cX10_pin 11 = .ok (.aload_n 0, 1) := by decide +kernel
theorem dX10_pin_12 : decode cX10_pin 12 = .ok (.iload_n 1, 1) := by decide +kernel
theorem dX10_pin_13 : decode cX10_pin 13 = .ok (.invokevirtual 96, 3) := by decide +kernel
theorem dX10_pin_16 : decode cX10_pin 16 = .ok (.istore_n 3, 1) := by decide +kernel
theorem dX10_pin_17 : decode cX10_pin 17 = .ok (.iload_n 3, 1) := by decide +kernel
theorem dX10_pin_18 : decode cX10_pin 18 = .ok (.ifCond .lt 14, 3) := by decide +kernel
theorem dX10_pin_21 : decode cX10_pin 21 = .ok (.aload_n 0, 1) := by decide +kernel
theorem dX10_pin_22 : decode cX10_pin 22 = .ok (.getfield 7, 3) := by decide +kernel
theorem dX10_pin_25 : decode cX10_pin 25 = .ok (.iload_n 3, 1) := by decide +kernel
theorem dX10_pin_26 : decode cX10_pin 26 = .ok (.iaload, 1) := by decide +kernel
theorem dX10_pin_27 : decode cX10_pin 27 = .ok (.bipush 8, 2) := by decide +kernel
theorem dX10_pin_29 : decode cX10_pin 29 = .ok (.if_icmp .lt 5, 3) := by decide +kernel
theorem dX10_pin_32 : decode cX10_pin 32 = .ok (.iconst 2, 1) := by decide +kernel
theorem dX10_pin_33 : decode cX10_pin 33 = .ok (.ireturn, 1) := by decide +kernel
theorem dX10_pin_34 : decode cX10_pin 34 = .ok (.aload_n 0, 1) := by decide +kernel
theorem dX10_pin_35 : decode cX10_pin 35 = .ok (.getfield 32, 3) := by decide +kernel
theorem dX10_pin_38 : decode cX10_pin 38 = .ok (.iload_n 1, 1) := by decide +kernel
theorem dX10_pin_39 : decode cX10_pin 39 = .ok (.iaload, 1) := by decide +kernel
theorem dX10_pin_40 : decode cX10_pin 40 = .ok (.iconst 0, 1) := by decide +kernel
theorem dX10_pin_41 : decode cX10_pin 41 = .ok (.aload_n 0, 1) := by decide +kernel
theorem dX10_pin_42 : decode cX10_pin 42 = .ok (.getfield 13, 3) := by decide +kernel
theorem dX10_pin_45 : decode cX10_pin 45 = .ok (.iload_n 3, 1) := by decide +kernel
theorem dX10_pin_46 : decode cX10_pin 46 = .ok (.iaload, 1) := by decide +kernel
theorem dX10_pin_47 : decode cX10_pin 47 = .ok (.iconst 1, 1) := by decide +kernel
theorem dX10_pin_48 : decode cX10_pin 48 = .ok (.isub, 1) := by decide +kernel
theorem dX10_pin_49 : decode cX10_pin 49 = .ok (.invokestatic 66, 3) := by decide +kernel
theorem dX10_pin_52 : decode cX10_pin 52 = .ok (.ifCond .ne 5, 3) := by decide +kernel
theorem dX10_pin_55 : decode cX10_pin 55 = .ok (.iconst 3, 1) := by decide +kernel
theorem dX10_pin_56 : decode cX10_pin 56 = .ok (.ireturn, 1) := by decide +kernel
theorem dX10_pin_57 : decode cX10_pin 57 = .ok (.aload_n 0, 1) := by decide +kernel
theorem dX10_pin_58 : decode cX10_pin 58 = .ok (.getfield 19, 3) := by decide +kernel
theorem dX10_pin_61 : decode cX10_pin 61 = .ok (.aload_n 0, 1) := by decide +kernel
theorem dX10_pin_62 : decode cX10_pin 62 = .ok (.getfield 16, 3) := by decide +kernel
theorem dX10_pin_65 : decode cX10_pin 65 = .ok (.iload_n 3, 1) := by decide +kernel
theorem dX10_pin_66 : decode cX10_pin 66 = .ok (.iaload, 1) := by decide +kernel
theorem dX10_pin_67 : decode cX10_pin 67 = .ok (.aload_n 0, 1) := by decide +kernel
theorem dX10_pin_68 : decode cX10_pin 68 = .ok (.getfield 32, 3) := by decide +kernel
theorem dX10_pin_71 : decode cX10_pin 71 = .ok (.iload_n 1, 1) := by decide +kernel
theorem dX10_pin_72 : decode cX10_pin 72 = .ok (.iaload, 1) := by decide +kernel
theorem dX10_pin_73 : decode cX10_pin 73 = .ok (.iadd, 1) := by decide +kernel
theorem dX10_pin_74 : decode cX10_pin 74 = .ok (.aload_n 0, 1) := by decide +kernel
theorem dX10_pin_75 : decode cX10_pin 75 = .ok (.getfield 7, 3) := by decide +kernel
theorem dX10_pin_78 : decode cX10_pin 78 = .ok (.iload_n 3, 1) := by decide +kernel
theorem dX10_pin_79 : decode cX10_pin 79 = .ok (.iaload, 1) := by decide +kernel
theorem dX10_pin_80 : decode cX10_pin 80 = .ok (.iload_n 2, 1) := by decide +kernel
theorem dX10_pin_81 : decode cX10_pin 81 = .ok (.invokestatic 122, 3) := by decide +kernel
theorem dX10_pin_84 : decode cX10_pin 84 = .ok (.lastore, 1) := by decide +kernel
theorem dX10_pin_85 : decode cX10_pin 85 = .ok (.iconst 0, 1) := by decide +kernel
theorem dX10_pin_86 : decode cX10_pin 86 = .ok (.ireturn, 1) := by decide +kernel
theorem dX10_seat_0 : decode cX10_seat 0 = .ok (.aload_n 0, 1) := by decide +kernel
theorem dX10_seat_1 : decode cX10_seat 1 = .ok (.getfield 26, 3) := by decide +kernel
theorem dX10_seat_4 : decode cX10_seat 4 = .ok (.iload_n 1, 1) := by decide +kernel
theorem dX10_seat_5 : decode cX10_seat 5 = .ok (.iaload, 1) := by decide +kernel
theorem dX10_seat_6 : decode cX10_seat 6 = .ok (.ifCond .ne 5, 3) := by decide +kernel
theorem dX10_seat_9 : decode cX10_seat 9 = .ok (.iconst 1, 1) := by decide +kernel
theorem dX10_seat_10 : decode cX10_seat 10 = .ok (.ireturn, 1) := by decide +kernel
theorem dX10_seat_11 : decode cX10_seat 11 = .ok (.aload_n 0, 1) := by decide +kernel
theorem dX10_seat_12 : decode cX10_seat 12 = .ok (.iload_n 1, 1) := by decide +kernel
theorem dX10_seat_13 : decode cX10_seat 13 = .ok (.invokevirtual 96, 3) := by decide +kernel
theorem dX10_seat_16 : decode cX10_seat 16 = .ok (.istore_n 3, 1) := by decide +kernel
theorem dX10_seat_17 : decode cX10_seat 17 = .ok (.iload_n 3, 1) := by decide +kernel
theorem dX10_seat_18 : decode cX10_seat 18 = .ok (.ifCond .lt 34, 3) := by decide +kernel
theorem dX10_seat_21 : decode cX10_seat 21 = .ok (.aload_n 0, 1) := by decide +kernel
theorem dX10_seat_22 : decode cX10_seat 22 = .ok (.getfield 7, 3) := by decide +kernel
theorem dX10_seat_25 : decode cX10_seat 25 = .ok (.iload_n 3, 1) := by decide +kernel
theorem dX10_seat_26 : decode cX10_seat 26 = .ok (.iaload, 1) := by decide +kernel
theorem dX10_seat_27 : decode cX10_seat 27 = .ok (.bipush 8, 2) := by decide +kernel
theorem dX10_seat_29 : decode cX10_seat 29 = .ok (.if_icmp .lt 23, 3) := by decide +kernel
theorem dX10_seat_32 : decode cX10_seat 32 = .ok (.aload_n 0, 1) := by decide +kernel
theorem dX10_seat_33 : decode cX10_seat 33 = .ok (.getfield 26, 3) := by decide +kernel
theorem dX10_seat_36 : decode cX10_seat 36 = .ok (.iload_n 2, 1) := by decide +kernel
theorem dX10_seat_37 : decode cX10_seat 37 = .ok (.iaload, 1) := by decide +kernel
theorem dX10_seat_38 : decode cX10_seat 38 = .ok (.iconst 1, 1) := by decide +kernel
theorem dX10_seat_39 : decode cX10_seat 39 = .ok (.if_icmp .eq 13, 3) := by decide +kernel
theorem dX10_seat_42 : decode cX10_seat 42 = .ok (.aload_n 0, 1) := by decide +kernel
theorem dX10_seat_43 : decode cX10_seat 43 = .ok (.getfield 26, 3) := by decide +kernel
theorem dX10_seat_46 : decode cX10_seat 46 = .ok (.iload_n 2, 1) := by decide +kernel
theorem dX10_seat_47 : decode cX10_seat 47 = .ok (.iaload, 1) := by decide +kernel
theorem dX10_seat_48 : decode cX10_seat 48 = .ok (.iconst 2, 1) := by decide +kernel
theorem dX10_seat_49 : decode cX10_seat 49 = .ok (.if_icmp .ne 5, 3) := by decide +kernel
theorem dX10_seat_52 : decode cX10_seat 52 = .ok (.iconst 2, 1) := by decide +kernel
theorem dX10_seat_53 : decode cX10_seat 53 = .ok (.ireturn, 1) := by decide +kernel
theorem dX10_seat_54 : decode cX10_seat 54 = .ok (.aload_n 0, 1) := by decide +kernel
theorem dX10_seat_55 : decode cX10_seat 55 = .ok (.getfield 32, 3) := by decide +kernel
theorem dX10_seat_58 : decode cX10_seat 58 = .ok (.iload_n 1, 1) := by decide +kernel
theorem dX10_seat_59 : decode cX10_seat 59 = .ok (.iaload, 1) := by decide +kernel
theorem dX10_seat_60 : decode cX10_seat 60 = .ok (.iconst 0, 1) := by decide +kernel
theorem dX10_seat_61 : decode cX10_seat 61 = .ok (.aload_n 0, 1) := by decide +kernel
theorem dX10_seat_62 : decode cX10_seat 62 = .ok (.getfield 13, 3) := by decide +kernel
theorem dX10_seat_65 : decode cX10_seat 65 = .ok (.iload_n 3, 1) := by decide +kernel
theorem dX10_seat_66 : decode cX10_seat 66 = .ok (.iaload, 1) := by decide +kernel
theorem dX10_seat_67 : decode cX10_seat 67 = .ok (.iconst 1, 1) := by decide +kernel
theorem dX10_seat_68 : decode cX10_seat 68 = .ok (.isub, 1) := by decide +kernel
theorem dX10_seat_69 : decode cX10_seat 69 = .ok (.invokestatic 66, 3) := by decide +kernel
theorem dX10_seat_72 : decode cX10_seat 72 = .ok (.ifCond .ne 5, 3) := by decide +kernel
theorem dX10_seat_75 : decode cX10_seat 75 = .ok (.iconst 3, 1) := by decide +kernel
theorem dX10_seat_76 : decode cX10_seat 76 = .ok (.ireturn, 1) := by decide +kernel
theorem dX10_seat_77 : decode cX10_seat 77 = .ok (.aload_n 0, 1) := by decide +kernel
theorem dX10_seat_78 : decode cX10_seat 78 = .ok (.getfield 26, 3) := by decide +kernel
theorem dX10_seat_81 : decode cX10_seat 81 = .ok (.iload_n 2, 1) := by decide +kernel
theorem dX10_seat_82 : decode cX10_seat 82 = .ok (.iaload, 1) := by decide +kernel
theorem dX10_seat_83 : decode cX10_seat 83 = .ok (.iconst 3, 1) := by decide +kernel
theorem dX10_seat_84 : decode cX10_seat 84 = .ok (.if_icmp .ne 12, 3) := by decide +kernel
theorem dX10_seat_87 : decode cX10_seat 87 = .ok (.aload_n 0, 1) := by decide +kernel
theorem dX10_seat_88 : decode cX10_seat 88 = .ok (.getfield 29, 3) := by decide +kernel
theorem dX10_seat_91 : decode cX10_seat 91 = .ok (.iload_n 2, 1) := by decide +kernel
theorem dX10_seat_92 : decode cX10_seat 92 = .ok (.iaload, 1) := by decide +kernel
theorem dX10_seat_93 : decode cX10_seat 93 = .ok (.goto 4, 3) := by decide +kernel
theorem dX10_seat_96 : decode cX10_seat 96 = .ok (.iconst 0, 1) := by decide +kernel
theorem dX10_seat_97 : decode cX10_seat 97 = .ok (.istore 4, 2) := by decide +kernel
theorem dX10_seat_99 : decode cX10_seat 99 = .ok (.aload_n 0, 1) := by decide +kernel
theorem dX10_seat_100 : decode cX10_seat 100 = .ok (.aload_n 0, 1) := by decide +kernel
theorem dX10_seat_101 : decode cX10_seat 101 = .ok (.getfield 7, 3) := by decide +kernel
theorem dX10_seat_104 : decode cX10_seat 104 = .ok (.iload_n 3, 1) := by decide +kernel
theorem dX10_seat_105 : decode cX10_seat 105 = .ok (.iaload, 1) := by decide +kernel
theorem dX10_seat_106 : decode cX10_seat 106 = .ok (.iload 4, 2) := by decide +kernel
end
section
theorem dX10_seat_108 : decode cX10_seat 108 = .ok (.invokevirtual 100, 3) := by decide +kernel
theorem dX10_seat_111 : decode cX10_seat 111 = .ok (.ifCond .ne 5, 3) := by decide +kernel
theorem dX10_seat_114 : decode cX10_seat 114 = .ok (.iconst 2, 1) := by decide +kernel
theorem dX10_seat_115 : decode cX10_seat 115 = .ok (.ireturn, 1) := by decide +kernel
theorem dX10_seat_116 : decode cX10_seat 116 = .ok (.aload_n 0, 1) := by decide +kernel
theorem dX10_seat_117 : decode cX10_seat 117 = .ok (.getfield 19, 3) := by decide +kernel
theorem dX10_seat_120 : decode cX10_seat 120 = .ok (.aload_n 0, 1) := by decide +kernel
theorem dX10_seat_121 : decode cX10_seat 121 = .ok (.getfield 16, 3) := by decide +kernel
theorem dX10_seat_124 : decode cX10_seat 124 = .ok (.iload_n 3, 1) := by decide +kernel
theorem dX10_seat_125 : decode cX10_seat 125 = .ok (.iaload, 1) := by decide +kernel
theorem dX10_seat_126 : decode cX10_seat 126 = .ok (.aload_n 0, 1) := by decide +kernel
theorem dX10_seat_127 : decode cX10_seat 127 = .ok (.getfield 32, 3) := by decide +kernel
theorem dX10_seat_130 : decode cX10_seat 130 = .ok (.iload_n 1, 1) := by decide +kernel
theorem dX10_seat_131 : decode cX10_seat 131 = .ok (.iaload, 1) := by decide +kernel
theorem dX10_seat_132 : decode cX10_seat 132 = .ok (.iadd, 1) := by decide +kernel
theorem dX10_seat_133 : decode cX10_seat 133 = .ok (.iload 4, 2) := by decide +kernel
theorem dX10_seat_135 : decode cX10_seat 135 = .ok (.i2l, 1) := by decide +kernel
theorem dX10_seat_136 : decode cX10_seat 136 = .ok (.lastore, 1) := by decide +kernel
theorem dX10_seat_137 : decode cX10_seat 137 = .ok (.iconst 0, 1) := by decide +kernel
theorem dX10_seat_138 : decode cX10_seat 138 = .ok (.ireturn, 1) := by decide +kernel
theorem dX10_lift_0 : decode cX10_lift 0 = .ok (.aload_n 0, 1) := by decide +kernel
theorem dX10_lift_1 : decode cX10_lift 1 = .ok (.getfield 26, 3) := by decide +kernel
theorem dX10_lift_4 : decode cX10_lift 4 = .ok (.iload_n 1, 1) := by decide +kernel
theorem dX10_lift_5 : decode cX10_lift 5 = .ok (.iaload, 1) := by decide +kernel
theorem dX10_lift_6 : decode cX10_lift 6 = .ok (.ifCond .ne 5, 3) := by decide +kernel
theorem dX10_lift_9 : decode cX10_lift 9 = .ok (.iconst 1, 1) := by decide +kernel
theorem dX10_lift_10 : decode cX10_lift 10 = .ok (.ireturn, 1) := by decide +kernel
theorem dX10_lift_11 : decode cX10_lift 11 = .ok (.aload_n 0, 1) := by decide +kernel
theorem dX10_lift_12 : decode cX10_lift 12 = .ok (.iload_n 1, 1) := by decide +kernel
theorem dX10_lift_13 : decode cX10_lift 13 = .ok (.invokevirtual 96, 3) := by decide +kernel
theorem dX10_lift_16 : decode cX10_lift 16 = .ok (.istore_n 3, 1) := by decide +kernel
theorem dX10_lift_17 : decode cX10_lift 17 = .ok (.iload_n 3, 1) := by decide +kernel
theorem dX10_lift_18 : decode cX10_lift 18 = .ok (.ifCond .lt 14, 3) := by decide +kernel
theorem dX10_lift_21 : decode cX10_lift 21 = .ok (.aload_n 0, 1) := by decide +kernel
theorem dX10_lift_22 : decode cX10_lift 22 = .ok (.getfield 7, 3) := by decide +kernel
theorem dX10_lift_25 : decode cX10_lift 25 = .ok (.iload_n 3, 1) := by decide +kernel
theorem dX10_lift_26 : decode cX10_lift 26 = .ok (.iaload, 1) := by decide +kernel
theorem dX10_lift_27 : decode cX10_lift 27 = .ok (.bipush 8, 2) := by decide +kernel
theorem dX10_lift_29 : decode cX10_lift 29 = .ok (.if_icmp .ge 5, 3) := by decide +kernel
theorem dX10_lift_32 : decode cX10_lift 32 = .ok (.iconst 2, 1) := by decide +kernel
theorem dX10_lift_33 : decode cX10_lift 33 = .ok (.ireturn, 1) := by decide +kernel
theorem dX10_lift_34 : decode cX10_lift 34 = .ok (.aload_n 0, 1) := by decide +kernel
theorem dX10_lift_35 : decode cX10_lift 35 = .ok (.getfield 32, 3) := by decide +kernel
theorem dX10_lift_38 : decode cX10_lift 38 = .ok (.iload_n 1, 1) := by decide +kernel
theorem dX10_lift_39 : decode cX10_lift 39 = .ok (.iaload, 1) := by decide +kernel
theorem dX10_lift_40 : decode cX10_lift 40 = .ok (.iconst 0, 1) := by decide +kernel
theorem dX10_lift_41 : decode cX10_lift 41 = .ok (.aload_n 0, 1) := by decide +kernel
theorem dX10_lift_42 : decode cX10_lift 42 = .ok (.getfield 13, 3) := by decide +kernel
theorem dX10_lift_45 : decode cX10_lift 45 = .ok (.iload_n 3, 1) := by decide +kernel
theorem dX10_lift_46 : decode cX10_lift 46 = .ok (.iaload, 1) := by decide +kernel
theorem dX10_lift_47 : decode cX10_lift 47 = .ok (.iconst 1, 1) := by decide +kernel
theorem dX10_lift_48 : decode cX10_lift 48 = .ok (.isub, 1) := by decide +kernel
theorem dX10_lift_49 : decode cX10_lift 49 = .ok (.invokestatic 66, 3) := by decide +kernel
theorem dX10_lift_52 : decode cX10_lift 52 = .ok (.ifCond .ne 5, 3) := by decide +kernel
theorem dX10_lift_55 : decode cX10_lift 55 = .ok (.iconst 3, 1) := by decide +kernel
theorem dX10_lift_56 : decode cX10_lift 56 = .ok (.ireturn, 1) := by decide +kernel
theorem dX10_lift_57 : decode cX10_lift 57 = .ok (.aload_n 0, 1) := by decide +kernel
theorem dX10_lift_58 : decode cX10_lift 58 = .ok (.getfield 19, 3) := by decide +kernel
theorem dX10_lift_61 : decode cX10_lift 61 = .ok (.aload_n 0, 1) := by decide +kernel
theorem dX10_lift_62 : decode cX10_lift 62 = .ok (.getfield 16, 3) := by decide +kernel
theorem dX10_lift_65 : decode cX10_lift 65 = .ok (.iload_n 3, 1) := by decide +kernel
theorem dX10_lift_66 : decode cX10_lift 66 = .ok (.iaload, 1) := by decide +kernel
theorem dX10_lift_67 : decode cX10_lift 67 = .ok (.aload_n 0, 1) := by decide +kernel
theorem dX10_lift_68 : decode cX10_lift 68 = .ok (.getfield 32, 3) := by decide +kernel
theorem dX10_lift_71 : decode cX10_lift 71 = .ok (.iload_n 1, 1) := by decide +kernel
theorem dX10_lift_72 : decode cX10_lift 72 = .ok (.iaload, 1) := by decide +kernel
theorem dX10_lift_73 : decode cX10_lift 73 = .ok (.iadd, 1) := by decide +kernel
theorem dX10_lift_74 : decode cX10_lift 74 = .ok (.laload, 1) := by decide +kernel
theorem dX10_lift_75 : decode cX10_lift 75 = .ok (.l2i, 1) := by decide +kernel
theorem dX10_lift_76 : decode cX10_lift 76 = .ok (.istore 4, 2) := by decide +kernel
theorem dX10_lift_78 : decode cX10_lift 78 = .ok (.aload_n 0, 1) := by decide +kernel
theorem dX10_lift_79 : decode cX10_lift 79 = .ok (.iload_n 2, 1) := by decide +kernel
theorem dX10_lift_80 : decode cX10_lift 80 = .ok (.iload 4, 2) := by decide +kernel
theorem dX10_lift_82 : decode cX10_lift 82 = .ok (.ifCond .ne 7, 3) := by decide +kernel
theorem dX10_lift_85 : decode cX10_lift 85 = .ok (.iconst 0, 1) := by decide +kernel
theorem dX10_lift_86 : decode cX10_lift 86 = .ok (.goto 4, 3) := by decide +kernel
theorem dX10_lift_89 : decode cX10_lift 89 = .ok (.iconst 3, 1) := by decide +kernel
theorem dX10_lift_90 : decode cX10_lift 90 = .ok (.iload 4, 2) := by decide +kernel
theorem dX10_lift_92 : decode cX10_lift 92 = .ok (.invokevirtual 112, 3) := by decide +kernel
theorem dX10_lift_95 : decode cX10_lift 95 = .ok (.iconst 0, 1) := by decide +kernel
theorem dX10_lift_96 : decode cX10_lift 96 = .ok (.ireturn, 1) := by decide +kernel
theorem dX10_does_0 : decode cX10_does 0 = .ok (.iload_n 1, 1) := by decide +kernel
theorem dX10_does_1 : decode cX10_does 1 = .ok (.tableswitch 173 0 11 #[63, 73, 82, 90, 99, 108, 117, 124, 143, 151, 158, 166], 63) := by decide +kernel
theorem dX10_does_64 : decode cX10_does 64 = .ok (.aload_n 0, 1) := by decide +kernel
theorem dX10_does_65 : decode cX10_does 65 = .ok (.getfield 32, 3) := by decide +kernel
theorem dX10_does_68 : decode cX10_does 68 = .ok (.iload_n 2, 1) := by decide +kernel
theorem dX10_does_69 : decode cX10_does 69 = .ok (.iload 4, 2) := by decide +kernel
theorem dX10_does_71 : decode cX10_does 71 = .ok (.iastore, 1) := by decide +kernel
theorem dX10_does_72 : decode cX10_does 72 = .ok (.iconst 0, 1) := by decide +kernel
theorem dX10_does_73 : decode cX10_does 73 = .ok (.ireturn, 1) := by decide +kernel
theorem dX10_does_74 : decode cX10_does 74 = .ok (.aload_n 0, 1) := by decide +kernel
theorem dX10_does_75 : decode cX10_does 75 = .ok (.iload_n 2, 1) := by decide +kernel
theorem dX10_does_76 : decode cX10_does 76 = .ok (.iload_n 3, 1) := by decide +kernel
theorem dX10_does_77 : decode cX10_does 77 = .ok (.iload 4, 2) := by decide +kernel
theorem dX10_does_79 : decode cX10_does 79 = .ok (.invokevirtual 126, 3) := by decide +kernel
theorem dX10_does_82 : decode cX10_does 82 = .ok (.ireturn, 1) := by decide +kernel
theorem dX10_does_83 : decode cX10_does 83 = .ok (.aload_n 0, 1) := by decide +kernel
theorem dX10_does_84 : decode cX10_does 84 = .ok (.iload_n 2, 1) := by decide +kernel
theorem dX10_does_85 : decode cX10_does 85 = .ok (.iload 4, 2) := by decide +kernel
theorem dX10_does_87 : decode cX10_does 87 = .ok (.invokevirtual 130, 3) := by decide +kernel
theorem dX10_does_90 : decode cX10_does 90 = .ok (.ireturn, 1) := by decide +kernel
theorem dX10_does_91 : decode cX10_does 91 = .ok (.aload_n 0, 1) := by decide +kernel
theorem dX10_does_92 : decode cX10_does 92 = .ok (.iload_n 2, 1) := by decide +kernel
theorem dX10_does_93 : decode cX10_does 93 = .ok (.iload 4, 2) := by decide +kernel
theorem dX10_does_95 : decode cX10_does 95 = .ok (.iconst 0, 1) := by decide +kernel
theorem dX10_does_96 : decode cX10_does 96 = .ok (.invokevirtual 133, 3) := by decide +kernel
theorem dX10_does_99 : decode cX10_does 99 = .ok (.ireturn, 1) := by decide +kernel
theorem dX10_does_100 : decode cX10_does 100 = .ok (.aload_n 0, 1) := by decide +kernel
theorem dX10_does_101 : decode cX10_does 101 = .ok (.iload_n 2, 1) := by decide +kernel
theorem dX10_does_102 : decode cX10_does 102 = .ok (.iload 4, 2) := by decide +kernel
theorem dX10_does_104 : decode cX10_does 104 = .ok (.iconst 1, 1) := by decide +kernel
theorem dX10_does_105 : decode cX10_does 105 = .ok (.invokevirtual 133, 3) := by decide +kernel
theorem dX10_does_108 : decode cX10_does 108 = .ok (.ireturn, 1) := by decide +kernel
theorem dX10_does_109 : decode cX10_does 109 = .ok (.aload_n 0, 1) := by decide +kernel
theorem dX10_does_110 : decode cX10_does 110 = .ok (.iload_n 2, 1) := by decide +kernel
theorem dX10_does_111 : decode cX10_does 111 = .ok (.iload_n 3, 1) := by decide +kernel
theorem dX10_does_112 : decode cX10_does 112 = .ok (.iload 4, 2) := by decide +kernel
theorem dX10_does_114 : decode cX10_does 114 = .ok (.invokevirtual 137, 3) := by decide +kernel
theorem dX10_does_117 : decode cX10_does 117 = .ok (.ireturn, 1) := by decide +kernel
theorem dX10_does_118 : decode cX10_does 118 = .ok (.aload_n 0, 1) := by decide +kernel
theorem dX10_does_119 : decode cX10_does 119 = .ok (.iload_n 2, 1) := by decide +kernel
theorem dX10_does_120 : decode cX10_does 120 = .ok (.iload_n 3, 1) := by decide +kernel
theorem dX10_does_121 : decode cX10_does 121 = .ok (.invokevirtual 140, 3) := by decide +kernel
theorem dX10_does_124 : decode cX10_does 124 = .ok (.ireturn, 1) := by decide +kernel
theorem dX10_does_125 : decode cX10_does 125 = .ok (.aload_n 0, 1) := by decide +kernel
theorem dX10_does_126 : decode cX10_does 126 = .ok (.iload_n 2, 1) := by decide +kernel
theorem dX10_does_127 : decode cX10_does 127 = .ok (.aload_n 0, 1) := by decide +kernel
theorem dX10_does_128 : decode cX10_does 128 = .ok (.getfield 26, 3) := by decide +kernel
theorem dX10_does_131 : decode cX10_does 131 = .ok (.iload_n 3, 1) := by decide +kernel
theorem dX10_does_132 : decode cX10_does 132 = .ok (.iaload, 1) := by decide +kernel
theorem dX10_does_133 : decode cX10_does 133 = .ok (.aload_n 0, 1) := by decide +kernel
theorem dX10_does_134 : decode cX10_does 134 = .ok (.getfield 29, 3) := by decide +kernel
theorem dX10_does_137 : decode cX10_does 137 = .ok (.iload_n 3, 1) := by decide +kernel
theorem dX10_does_138 : decode cX10_does 138 = .ok (.iaload, 1) := by decide +kernel
theorem dX10_does_139 : decode cX10_does 139 = .ok (.invokevirtual 112, 3) := by decide +kernel
theorem dX10_does_142 : decode cX10_does 142 = .ok (.iconst 0, 1) := by decide +kernel
theorem dX10_does_143 : decode cX10_does 143 = .ok (.ireturn, 1) := by decide +kernel
theorem dX10_does_144 : decode cX10_does 144 = .ok (.aload_n 0, 1) := by decide +kernel
theorem dX10_does_145 : decode cX10_does 145 = .ok (.iload_n 2, 1) := by decide +kernel
theorem dX10_does_146 : decode cX10_does 146 = .ok (.iload_n 3, 1) := by decide +kernel
theorem dX10_does_147 : decode cX10_does 147 = .ok (.invokevirtual 143, 3) := by decide +kernel
theorem dX10_does_150 : decode cX10_does 150 = .ok (.iconst 0, 1) := by decide +kernel
theorem dX10_does_151 : decode cX10_does 151 = .ok (.ireturn, 1) := by decide +kernel
theorem dX10_does_152 : decode cX10_does 152 = .ok (.aload_n 0, 1) := by decide +kernel
theorem dX10_does_153 : decode cX10_does 153 = .ok (.iload_n 2, 1) := by decide +kernel
theorem dX10_does_154 : decode cX10_does 154 = .ok (.iload_n 3, 1) := by decide +kernel
theorem dX10_does_155 : decode cX10_does 155 = .ok (.invokevirtual 147, 3) := by decide +kernel
theorem dX10_does_158 : decode cX10_does 158 = .ok (.ireturn, 1) := by decide +kernel
theorem dX10_does_159 : decode cX10_does 159 = .ok (.aload_n 0, 1) := by decide +kernel
theorem dX10_does_160 : decode cX10_does 160 = .ok (.iload_n 2, 1) := by decide +kernel
theorem dX10_does_161 : decode cX10_does 161 = .ok (.iload 4, 2) := by decide +kernel
theorem dX10_does_163 : decode cX10_does 163 = .ok (.invokevirtual 150, 3) := by decide +kernel
theorem dX10_does_166 : decode cX10_does 166 = .ok (.ireturn, 1) := by decide +kernel
theorem dX10_does_167 : decode cX10_does 167 = .ok (.aload_n 0, 1) := by decide +kernel
theorem dX10_does_168 : decode cX10_does 168 = .ok (.iload_n 2, 1) := by decide +kernel
theorem dX10_does_169 : decode cX10_does 169 = .ok (.iload_n 3, 1) := by decide +kernel
theorem dX10_does_170 : decode cX10_does 170 = .ok (.invokevirtual 153, 3) := by decide +kernel
theorem dX10_does_173 : decode cX10_does 173 = .ok (.ireturn, 1) := by decide +kernel
theorem dX10_does_174 : decode cX10_does 174 = .ok (.aload_n 0, 1) := by decide +kernel
theorem dX10_does_175 : decode cX10_does 175 = .ok (.iload_n 2, 1) := by decide +kernel
theorem dX10_does_176 : decode cX10_does 176 = .ok (.iload_n 3, 1) := by decide +kernel
theorem dX10_does_177 : decode cX10_does 177 = .ok (.invokevirtual 156, 3) := by decide +kernel
theorem dX10_does_180 : decode cX10_does 180 = .ok (.ireturn, 1) := by decide +kernel
theorem dX10_begin_0 : decode cX10_begin 0 = .ok (.aload_n 0, 1) := by decide +kernel
theorem dX10_begin_1 : decode cX10_begin 1 = .ok (.dup, 1) := by decide +kernel
theorem dX10_begin_2 : decode cX10_begin 2 = .ok (.getfield 159, 3) := by decide +kernel
theorem dX10_begin_5 : decode cX10_begin 5 = .ok (.iconst 1, 1) := by decide +kernel
theorem dX10_begin_6 : decode cX10_begin 6 = .ok (.iadd, 1) := by decide +kernel
theorem dX10_begin_7 : decode cX10_begin 7 = .ok (.putfield 159, 3) := by decide +kernel
theorem dX10_begin_10 : decode cX10_begin 10 = .ok (.iload_n 1, 1) := by decide +kernel
theorem dX10_begin_11 : decode cX10_begin 11 = .ok (.iconst 1, 1) := by decide +kernel
theorem dX10_begin_12 : decode cX10_begin 12 = .ok (.if_icmp .ne 11, 3) := by decide +kernel
theorem dX10_begin_15 : decode cX10_begin 15 = .ok (.aload_n 0, 1) := by decide +kernel
theorem dX10_begin_16 : decode cX10_begin 16 = .ok (.iload_n 3, 1) := by decide +kernel
theorem dX10_begin_17 : decode cX10_begin 17 = .ok (.invokevirtual 96, 3) := by decide +kernel
theorem dX10_begin_20 : decode cX10_begin 20 = .ok (.goto 39, 3) := by decide +kernel
theorem dX10_begin_23 : decode cX10_begin 23 = .ok (.iload_n 1, 1) := by decide +kernel
theorem dX10_begin_24 : decode cX10_begin 24 = .ok (.iconst 2, 1) := by decide +kernel
theorem dX10_begin_25 : decode cX10_begin 25 = .ok (.if_icmp .eq 25, 3) := by decide +kernel
theorem dX10_begin_28 : decode cX10_begin 28 = .ok (.iload_n 1, 1) := by decide +kernel
theorem dX10_begin_29 : decode cX10_begin 29 = .ok (.iconst 3, 1) := by decide +kernel
theorem dX10_begin_30 : decode cX10_begin 30 = .ok (.if_icmp .eq 20, 3) := by decide +kernel
theorem dX10_begin_33 : decode cX10_begin 33 = .ok (.iload_n 1, 1) := by decide +kernel
theorem dX10_begin_34 : decode cX10_begin 34 = .ok (.iconst 4, 1) := by decide +kernel
theorem dX10_begin_35 : decode cX10_begin 35 = .ok (.if_icmp .eq 15, 3) := by decide +kernel
theorem dX10_begin_38 : decode cX10_begin 38 = .ok (.iload_n 1, 1) := by decide +kernel
theorem dX10_begin_39 : decode cX10_begin 39 = .ok (.bipush 10, 2) := by decide +kernel
theorem dX10_begin_41 : decode cX10_begin 41 = .ok (.if_icmp .eq 9, 3) := by decide +kernel
theorem dX10_begin_44 : decode cX10_begin 44 = .ok (.iload_n 1, 1) := by decide +kernel
theorem dX10_begin_45 : decode cX10_begin 45 = .ok (.bipush 11, 2) := by decide +kernel
theorem dX10_begin_47 : decode cX10_begin 47 = .ok (.if_icmp .ne 11, 3) := by decide +kernel
theorem dX10_begin_50 : decode cX10_begin 50 = .ok (.aload_n 0, 1) := by decide +kernel
theorem dX10_begin_51 : decode cX10_begin 51 = .ok (.iload_n 2, 1) := by decide +kernel
theorem dX10_begin_52 : decode cX10_begin 52 = .ok (.invokevirtual 96, 3) := by decide +kernel
theorem dX10_begin_55 : decode cX10_begin 55 = .ok (.goto 4, 3) := by decide +kernel
theorem dX10_begin_58 : decode cX10_begin 58 = .ok (.iconst (-1), 1) := by decide +kernel
theorem dX10_begin_59 : decode cX10_begin 59 = .ok (.istore 5, 2) := by decide +kernel
theorem dX10_begin_61 : decode cX10_begin 61 = .ok (.iconst 0, 1) := by decide +kernel
theorem dX10_begin_62 : decode cX10_begin 62 = .ok (.istore 6, 2) := by decide +kernel
theorem dX10_begin_64 : decode cX10_begin 64 = .ok (.iload 5, 2) := by decide +kernel
theorem dX10_begin_66 : decode cX10_begin 66 = .ok (.ifCond .lt 43, 3) := by decide +kernel
theorem dX10_begin_69 : decode cX10_begin 69 = .ok (.iload 6, 2) := by decide +kernel
theorem dX10_begin_71 : decode cX10_begin 71 = .ok (.aload_n 0, 1) := by decide +kernel
theorem dX10_begin_72 : decode cX10_begin 72 = .ok (.getfield 13, 3) := by decide +kernel
theorem dX10_begin_75 : decode cX10_begin 75 = .ok (.iload 5, 2) := by decide +kernel
theorem dX10_begin_77 : decode cX10_begin 77 = .ok (.iaload, 1) := by decide +kernel
theorem dX10_begin_78 : decode cX10_begin 78 = .ok (.if_icmp .ge 31, 3) := by decide +kernel
theorem dX10_begin_81 : decode cX10_begin 81 = .ok (.aload_n 0, 1) := by decide +kernel
theorem dX10_begin_82 : decode cX10_begin 82 = .ok (.getfield 56, 3) := by decide +kernel
theorem dX10_begin_85 : decode cX10_begin 85 = .ok (.iload 6, 2) := by decide +kernel
theorem dX10_begin_87 : decode cX10_begin 87 = .ok (.aload_n 0, 1) := by decide +kernel
theorem dX10_begin_88 : decode cX10_begin 88 = .ok (.getfield 19, 3) := by decide +kernel
theorem dX10_begin_91 : decode cX10_begin 91 = .ok (.aload_n 0, 1) := by decide +kernel
theorem dX10_begin_92 : decode cX10_begin 92 = .ok (.getfield 16, 3) := by decide +kernel
theorem dX10_begin_95 : decode cX10_begin 95 = .ok (.iload 5, 2) := by decide +kernel
theorem dX10_begin_97 : decode cX10_begin 97 = .ok (.iaload, 1) := by decide +kernel
theorem dX10_begin_98 : decode cX10_begin 98 = .ok (.iload 6, 2) := by decide +kernel
theorem dX10_begin_100 : decode cX10_begin 100 = .ok (.iadd, 1) := by decide +kernel
theorem dX10_begin_101 : decode cX10_begin 101 = .ok (.laload, 1) := by decide +kernel
theorem dX10_begin_102 : decode cX10_begin 102 = .ok (.lastore, 1) := by decide +kernel
theorem dX10_begin_103 : decode cX10_begin 103 = .ok (.iinc 6 1, 3) := by decide +kernel
theorem dX10_begin_106 : decode cX10_begin 106 = .ok (.goto (-42), 3) := by decide +kernel
theorem dX10_begin_109 : decode cX10_begin 109 = .ok (.aload_n 0, 1) := by decide +kernel
theorem dX10_begin_110 : decode cX10_begin 110 = .ok (.iload_n 1, 1) := by decide +kernel
theorem dX10_begin_111 : decode cX10_begin 111 = .ok (.iload_n 2, 1) := by decide +kernel
theorem dX10_begin_112 : decode cX10_begin 112 = .ok (.iload_n 3, 1) := by decide +kernel
theorem dX10_begin_113 : decode cX10_begin 113 = .ok (.iload 4, 2) := by decide +kernel
theorem dX10_begin_115 : decode cX10_begin 115 = .ok (.invokevirtual 162, 3) := by decide +kernel
theorem dX10_begin_118 : decode cX10_begin 118 = .ok (.istore 6, 2) := by decide +kernel
theorem dX10_begin_120 : decode cX10_begin 120 = .ok (.iconst 0, 1) := by decide +kernel
theorem dX10_begin_121 : decode cX10_begin 121 = .ok (.istore 7, 2) := by decide +kernel
theorem dX10_begin_123 : decode cX10_begin 123 = .ok (.iconst 0, 1) := by decide +kernel
theorem dX10_begin_124 : decode cX10_begin 124 = .ok (.istore 8, 2) := by decide +kernel
theorem dX10_begin_126 : decode cX10_begin 126 = .ok (.iload 5, 2) := by decide +kernel
theorem dX10_begin_128 : decode cX10_begin 128 = .ok (.ifCond .lt 59, 3) := by decide +kernel
theorem dX10_begin_131 : decode cX10_begin 131 = .ok (.iload 8, 2) := by decide +kernel
theorem dX10_begin_133 : decode cX10_begin 133 = .ok (.aload_n 0, 1) := by decide +kernel
theorem dX10_begin_134 : decode cX10_begin 134 = .ok (.getfield 13, 3) := by decide +kernel
theorem dX10_begin_137 : decode cX10_begin 137 = .ok (.iload 5, 2) := by decide +kernel
theorem dX10_begin_139 : decode cX10_begin 139 = .ok (.iaload, 1) := by decide +kernel
theorem dX10_begin_140 : decode cX10_begin 140 = .ok (.if_icmp .ge 47, 3) := by decide +kernel
theorem dX10_begin_143 : decode cX10_begin 143 = .ok (.iload 7, 2) := by decide +kernel
theorem dX10_begin_145 : decode cX10_begin 145 = .ok (.ifCond .ne 29, 3) := by decide +kernel
theorem dX10_begin_148 : decode cX10_begin 148 = .ok (.aload_n 0, 1) := by decide +kernel
theorem dX10_begin_149 : decode cX10_begin 149 = .ok (.getfield 56, 3) := by decide +kernel
theorem dX10_begin_152 : decode cX10_begin 152 = .ok (.iload 8, 2) := by decide +kernel
theorem dX10_begin_154 : decode cX10_begin 154 = .ok (.laload, 1) := by decide +kernel
theorem dX10_begin_155 : decode cX10_begin 155 = .ok (.aload_n 0, 1) := by decide +kernel
theorem dX10_begin_156 : decode cX10_begin 156 = .ok (.getfield 19, 3) := by decide +kernel
theorem dX10_begin_159 : decode cX10_begin 159 = .ok (.aload_n 0, 1) := by decide +kernel
theorem dX10_begin_160 : decode cX10_begin 160 = .ok (.getfield 16, 3) := by decide +kernel
theorem dX10_begin_163 : decode cX10_begin 163 = .ok (.iload 5, 2) := by decide +kernel
theorem dX10_begin_165 : decode cX10_begin 165 = .ok (.iaload, 1) := by decide +kernel
theorem dX10_begin_166 : decode cX10_begin 166 = .ok (.iload 8, 2) := by decide +kernel
theorem dX10_begin_168 : decode cX10_begin 168 = .ok (.iadd, 1) := by decide +kernel
theorem dX10_begin_169 : decode cX10_begin 169 = .ok (.laload, 1) := by decide +kernel
theorem dX10_begin_170 : decode cX10_begin 170 = .ok (.lcmp, 1) := by decide +kernel
theorem dX10_begin_171 : decode cX10_begin 171 = .ok (.ifCond .eq 7, 3) := by decide +kernel
theorem dX10_begin_174 : decode cX10_begin 174 = .ok (.iconst 1, 1) := by decide +kernel
theorem dX10_begin_175 : decode cX10_begin 175 = .ok (.goto 4, 3) := by decide +kernel
theorem dX10_begin_178 : decode cX10_begin 178 = .ok (.iconst 0, 1) := by decide +kernel
theorem dX10_begin_179 : decode cX10_begin 179 = .ok (.istore 7, 2) := by decide +kernel
theorem dX10_begin_181 : decode cX10_begin 181 = .ok (.iinc 8 1, 3) := by decide +kernel
theorem dX10_begin_184 : decode cX10_begin 184 = .ok (.goto (-58), 3) := by decide +kernel
theorem dX10_begin_187 : decode cX10_begin 187 = .ok (.iload 7, 2) := by decide +kernel
theorem dX10_begin_189 : decode cX10_begin 189 = .ok (.ifCond .eq 9, 3) := by decide +kernel
theorem dX10_begin_192 : decode cX10_begin 192 = .ok (.aload_n 0, 1) := by decide +kernel
theorem dX10_begin_193 : decode cX10_begin 193 = .ok (.iload 5, 2) := by decide +kernel
theorem dX10_begin_195 : decode cX10_begin 195 = .ok (.invokevirtual 166, 3) := by decide +kernel
theorem dX10_begin_198 : decode cX10_begin 198 = .ok (.aload_n 0, 1) := by decide +kernel
theorem dX10_begin_199 : decode cX10_begin 199 = .ok (.iload 6, 2) := by decide +kernel
theorem dX10_begin_201 : decode cX10_begin 201 = .ok (.ifCond .le 12, 3) := by decide +kernel
theorem dX10_begin_204 : decode cX10_begin 204 = .ok (.aload_n 0, 1) := by decide +kernel
theorem dX10_begin_205 : decode cX10_begin 205 = .ok (.getfield 170, 3) := by decide +kernel
theorem dX10_begin_208 : decode cX10_begin 208 = .ok (.iconst 1, 1) := by decide +kernel
theorem dX10_begin_209 : decode cX10_begin 209 = .ok (.iadd, 1) := by decide +kernel
theorem dX10_begin_210 : decode cX10_begin 210 = .ok (.goto 7, 3) := by decide +kernel
theorem dX10_begin_213 : decode cX10_begin 213 = .ok (.aload_n 0, 1) := by decide +kernel
theorem dX10_begin_214 : decode cX10_begin 214 = .ok (.getfield 170, 3) := by decide +kernel
theorem dX10_begin_217 : decode cX10_begin 217 = .ok (.putfield 170, 3) := by decide +kernel
theorem dX10_begin_220 : decode cX10_begin 220 = .ok (.iload 6, 2) := by decide +kernel
theorem dX10_begin_222 : decode cX10_begin 222 = .ok (.ireturn, 1) := by decide +kernel
theorem dX10_write_0 : decode cX10_write 0 = .ok (.aload_n 0, 1) := by decide +kernel
theorem dX10_write_1 : decode cX10_write 1 = .ok (.getfield 173, 3) := by decide +kernel
theorem dX10_write_4 : decode cX10_write 4 = .ok (.bipush 20, 2) := by decide +kernel
theorem dX10_write_6 : decode cX10_write 6 = .ok (.if_icmp .ne 72, 3) := by decide +kernel
theorem dX10_write_9 : decode cX10_write 9 = .ok (.iconst 1, 1) := by decide +kernel
theorem dX10_write_10 : decode cX10_write 10 = .ok (.istore_n 2, 1) := by decide +kernel
theorem dX10_write_11 : decode cX10_write 11 = .ok (.iload_n 2, 1) := by decide +kernel
theorem dX10_write_12 : decode cX10_write 12 = .ok (.bipush 20, 2) := by decide +kernel
theorem dX10_write_14 : decode cX10_write 14 = .ok (.if_icmp .ge 23, 3) := by decide +kernel
theorem dX10_write_17 : decode cX10_write 17 = .ok (.aload_n 0, 1) := by decide +kernel
theorem dX10_write_18 : decode cX10_write 18 = .ok (.getfield 50, 3) := by decide +kernel
theorem dX10_write_21 : decode cX10_write 21 = .ok (.iload_n 2, 1) := by decide +kernel
theorem dX10_write_22 : decode cX10_write 22 = .ok (.iconst 1, 1) := by decide +kernel
theorem dX10_write_23 : decode cX10_write 23 = .ok (.isub, 1) := by decide +kernel
theorem dX10_write_24 : decode cX10_write 24 = .ok (.aload_n 0, 1) := by decide +kernel
theorem dX10_write_25 : decode cX10_write 25 = .ok (.getfield 50, 3) := by decide +kernel
theorem dX10_write_28 : decode cX10_write 28 = .ok (.iload_n 2, 1) := by decide +kernel
theorem dX10_write_29 : decode cX10_write 29 = .ok (.iaload, 1) := by decide +kernel
theorem dX10_write_30 : decode cX10_write 30 = .ok (.iastore, 1) := by decide +kernel
theorem dX10_write_31 : decode cX10_write 31 = .ok (.iinc 2 1, 3) := by decide +kernel
theorem dX10_write_34 : decode cX10_write 34 = .ok (.goto (-23), 3) := by decide +kernel
theorem dX10_write_37 : decode cX10_write 37 = .ok (.bipush 64, 2) := by decide +kernel
theorem dX10_write_39 : decode cX10_write 39 = .ok (.istore_n 2, 1) := by decide +kernel
theorem dX10_write_40 : decode cX10_write 40 = .ok (.iload_n 2, 1) := by decide +kernel
theorem dX10_write_41 : decode cX10_write 41 = .ok (.sipush 1280, 3) := by decide +kernel
theorem dX10_write_44 : decode cX10_write 44 = .ok (.if_icmp .ge 24, 3) := by decide +kernel
theorem dX10_write_47 : decode cX10_write 47 = .ok (.aload_n 0, 1) := by decide +kernel
theorem dX10_write_48 : decode cX10_write 48 = .ok (.getfield 53, 3) := by decide +kernel
theorem dX10_write_51 : decode cX10_write 51 = .ok (.iload_n 2, 1) := by decide +kernel
theorem dX10_write_52 : decode cX10_write 52 = .ok (.bipush 64, 2) := by decide +kernel
theorem dX10_write_54 : decode cX10_write 54 = .ok (.isub, 1) := by decide +kernel
theorem dX10_write_55 : decode cX10_write 55 = .ok (.aload_n 0, 1) := by decide +kernel
theorem dX10_write_56 : decode cX10_write 56 = .ok (.getfield 53, 3) := by decide +kernel
theorem dX10_write_59 : decode cX10_write 59 = .ok (.iload_n 2, 1) := by decide +kernel
theorem dX10_write_60 : decode cX10_write 60 = .ok (.laload, 1) := by decide +kernel
theorem dX10_write_61 : decode cX10_write 61 = .ok (.lastore, 1) := by decide +kernel
theorem dX10_write_62 : decode cX10_write 62 = .ok (.iinc 2 1, 3) := by decide +kernel
theorem dX10_write_65 : decode cX10_write 65 = .ok (.goto (-25), 3) := by decide +kernel
theorem dX10_write_68 : decode cX10_write 68 = .ok (.aload_n 0, 1) := by decide +kernel
theorem dX10_write_69 : decode cX10_write 69 = .ok (.dup, 1) := by decide +kernel
theorem dX10_write_70 : decode cX10_write 70 = .ok (.getfield 173, 3) := by decide +kernel
theorem dX10_write_73 : decode cX10_write 73 = .ok (.iconst 1, 1) := by decide +kernel
theorem dX10_write_74 : decode cX10_write 74 = .ok (.isub, 1) := by decide +kernel
theorem dX10_write_75 : decode cX10_write 75 = .ok (.putfield 173, 3) := by decide +kernel
theorem dX10_write_78 : decode cX10_write 78 = .ok (.aload_n 0, 1) := by decide +kernel
theorem dX10_write_79 : decode cX10_write 79 = .ok (.getfield 50, 3) := by decide +kernel
theorem dX10_write_82 : decode cX10_write 82 = .ok (.aload_n 0, 1) := by decide +kernel
theorem dX10_write_83 : decode cX10_write 83 = .ok (.getfield 173, 3) := by decide +kernel
theorem dX10_write_86 : decode cX10_write 86 = .ok (.iload_n 1, 1) := by decide +kernel
theorem dX10_write_87 : decode cX10_write 87 = .ok (.iastore, 1) := by decide +kernel
theorem dX10_write_88 : decode cX10_write 88 = .ok (.iconst 0, 1) := by decide +kernel
theorem dX10_write_89 : decode cX10_write 89 = .ok (.istore_n 2, 1) := by decide +kernel
theorem dX10_write_90 : decode cX10_write 90 = .ok (.iload_n 2, 1) := by decide +kernel
theorem dX10_write_91 : decode cX10_write 91 = .ok (.aload_n 0, 1) := by decide +kernel
theorem dX10_write_92 : decode cX10_write 92 = .ok (.getfield 13, 3) := by decide +kernel
theorem dX10_write_95 : decode cX10_write 95 = .ok (.iload_n 1, 1) := by decide +kernel
theorem dX10_write_96 : decode cX10_write 96 = .ok (.iaload, 1) := by decide +kernel
theorem dX10_write_97 : decode cX10_write 97 = .ok (.if_icmp .ge 29, 3) := by decide +kernel
theorem dX10_write_100 : decode cX10_write 100 = .ok (.aload_n 0, 1) := by decide +kernel
theorem dX10_write_101 : decode cX10_write 101 = .ok (.getfield 53, 3) := by decide +kernel
theorem dX10_write_104 : decode cX10_write 104 = .ok (.bipush 64, 2) := by decide +kernel
theorem dX10_write_106 : decode cX10_write 106 = .ok (.aload_n 0, 1) := by decide +kernel
theorem dX10_write_107 : decode cX10_write 107 = .ok (.getfield 173, 3) := by decide +kernel
theorem dX10_write_110 : decode cX10_write 110 = .ok (.imul, 1) := by decide +kernel
theorem dX10_write_111 : decode cX10_write 111 = .ok (.iload_n 2, 1) := by decide +kernel
theorem dX10_write_112 : decode cX10_write 112 = .ok (.iadd, 1) := by decide +kernel
theorem dX10_write_113 : decode cX10_write 113 = .ok (.aload_n 0, 1) := by decide +kernel
theorem dX10_write_114 : decode cX10_write 114 = .ok (.getfield 56, 3) := by decide +kernel
theorem dX10_write_117 : decode cX10_write 117 = .ok (.iload_n 2, 1) := by decide +kernel
theorem dX10_write_118 : decode cX10_write 118 = .ok (.laload, 1) := by decide +kernel
theorem dX10_write_119 : decode cX10_write 119 = .ok (.lastore, 1) := by decide +kernel
theorem dX10_write_120 : decode cX10_write 120 = .ok (.iinc 2 1, 3) := by decide +kernel
theorem dX10_write_123 : decode cX10_write 123 = .ok (.goto (-33), 3) := by decide +kernel
theorem dX10_write_126 : decode cX10_write 126 = .ok (.aload_n 0, 1) := by decide +kernel
theorem dX10_write_127 : decode cX10_write 127 = .ok (.dup, 1) := by decide +kernel
theorem dX10_write_128 : decode cX10_write 128 = .ok (.getfield 173, 3) := by decide +kernel
theorem dX10_write_131 : decode cX10_write 131 = .ok (.iconst 1, 1) := by decide +kernel
theorem dX10_write_132 : decode cX10_write 132 = .ok (.iadd, 1) := by decide +kernel
theorem dX10_write_133 : decode cX10_write 133 = .ok (.putfield 173, 3) := by decide +kernel
theorem dX10_write_136 : decode cX10_write 136 = .ok (.return_, 1) := by decide +kernel
theorem dX10_act_0 : decode cX10_act 0 = .ok (.iload_n 1, 1) := by decide +kernel
theorem dX10_act_1 : decode cX10_act 1 = .ok (.iconst 0, 1) := by decide +kernel
theorem dX10_act_2 : decode cX10_act 2 = .ok (.bipush 12, 2) := by decide +kernel
theorem dX10_act_4 : decode cX10_act 4 = .ok (.invokestatic 66, 3) := by decide +kernel
theorem dX10_act_7 : decode cX10_act 7 = .ok (.ifCond .eq 14, 3) := by decide +kernel
theorem dX10_act_10 : decode cX10_act 10 = .ok (.iload_n 1, 1) := by decide +kernel
theorem dX10_act_11 : decode cX10_act 11 = .ok (.iload_n 2, 1) := by decide +kernel
theorem dX10_act_12 : decode cX10_act 12 = .ok (.iload_n 3, 1) := by decide +kernel
theorem dX10_act_13 : decode cX10_act 13 = .ok (.iload 4, 2) := by decide +kernel
theorem dX10_act_15 : decode cX10_act 15 = .ok (.invokestatic 73, 3) := by decide +kernel
theorem dX10_act_18 : decode cX10_act 18 = .ok (.ifCond .ne 5, 3) := by decide +kernel
theorem dX10_act_21 : decode cX10_act 21 = .ok (.iconst (-1), 1) := by decide +kernel
theorem dX10_act_22 : decode cX10_act 22 = .ok (.ireturn, 1) := by decide +kernel
theorem dX10_act_23 : decode cX10_act 23 = .ok (.aload_n 0, 1) := by decide +kernel
theorem dX10_act_24 : decode cX10_act 24 = .ok (.getfield 159, 3) := by decide +kernel
theorem dX10_act_27 : decode cX10_act 27 = .ok (.sipush 4000, 3) := by decide +kernel
theorem dX10_act_30 : decode cX10_act 30 = .ok (.if_icmp .ne 8, 3) := by decide +kernel
theorem dX10_act_33 : decode cX10_act 33 = .ok (.bipush 6, 2) := by decide +kernel
theorem dX10_act_35 : decode cX10_act 35 = .ok (.goto 12, 3) := by decide +kernel
theorem dX10_act_38 : decode cX10_act 38 = .ok (.aload_n 0, 1) := by decide +kernel
theorem dX10_act_39 : decode cX10_act 39 = .ok (.iload_n 1, 1) := by decide +kernel
theorem dX10_act_40 : decode cX10_act 40 = .ok (.iload_n 2, 1) := by decide +kernel
theorem dX10_act_41 : decode cX10_act 41 = .ok (.iload_n 3, 1) := by decide +kernel
theorem dX10_act_42 : decode cX10_act 42 = .ok (.iload 4, 2) := by decide +kernel
theorem dX10_act_44 : decode cX10_act 44 = .ok (.invokevirtual 176, 3) := by decide +kernel
theorem dX10_act_47 : decode cX10_act 47 = .ok (.ireturn, 1) := by decide +kernel
theorem dX10_behind_0 : decode cX10_behind 0 = .ok (.iload_n 1, 1) := by decide +kernel
theorem dX10_behind_1 : decode cX10_behind 1 = .ok (.iconst 1, 1) := by decide +kernel
theorem dX10_behind_2 : decode cX10_behind 2 = .ok (.iadd, 1) := by decide +kernel
theorem dX10_behind_3 : decode cX10_behind 3 = .ok (.istore_n 3, 1) := by decide +kernel
theorem dX10_behind_4 : decode cX10_behind 4 = .ok (.iload_n 3, 1) := by decide +kernel
theorem dX10_behind_5 : decode cX10_behind 5 = .ok (.aload_n 0, 1) := by decide +kernel
theorem dX10_behind_6 : decode cX10_behind 6 = .ok (.getfield 70, 3) := by decide +kernel
theorem dX10_behind_9 : decode cX10_behind 9 = .ok (.if_icmp .ge 47, 3) := by decide +kernel
theorem dX10_behind_12 : decode cX10_behind 12 = .ok (.aload_n 0, 1) := by decide +kernel
theorem dX10_behind_13 : decode cX10_behind 13 = .ok (.getfield 35, 3) := by decide +kernel
theorem dX10_behind_16 : decode cX10_behind 16 = .ok (.iload_n 3, 1) := by decide +kernel
theorem dX10_behind_17 : decode cX10_behind 17 = .ok (.iaload, 1) := by decide +kernel
theorem dX10_behind_18 : decode cX10_behind 18 = .ok (.bipush 13, 2) := by decide +kernel
theorem dX10_behind_20 : decode cX10_behind 20 = .ok (.if_icmp .ne 36, 3) := by decide +kernel
theorem dX10_behind_23 : decode cX10_behind 23 = .ok (.aload_n 0, 1) := by decide +kernel
theorem dX10_behind_24 : decode cX10_behind 24 = .ok (.getfield 38, 3) := by decide +kernel
theorem dX10_behind_27 : decode cX10_behind 27 = .ok (.iload_n 3, 1) := by decide +kernel
theorem dX10_behind_28 : decode cX10_behind 28 = .ok (.iaload, 1) := by decide +kernel
theorem dX10_behind_29 : decode cX10_behind 29 = .ok (.ifCond .eq 27, 3) := by decide +kernel
theorem dX10_behind_32 : decode cX10_behind 32 = .ok (.aload_n 0, 1) := by decide +kernel
theorem dX10_behind_33 : decode cX10_behind 33 = .ok (.getfield 38, 3) := by decide +kernel
theorem dX10_behind_36 : decode cX10_behind 36 = .ok (.iload_n 3, 1) := by decide +kernel
theorem dX10_behind_37 : decode cX10_behind 37 = .ok (.iaload, 1) := by decide +kernel
theorem dX10_behind_38 : decode cX10_behind 38 = .ok (.iload_n 2, 1) := by decide +kernel
theorem dX10_behind_39 : decode cX10_behind 39 = .ok (.if_icmp .eq 17, 3) := by decide +kernel
theorem dX10_behind_42 : decode cX10_behind 42 = .ok (.iload_n 3, 1) := by decide +kernel
theorem dX10_behind_43 : decode cX10_behind 43 = .ok (.aload_n 0, 1) := by decide +kernel
theorem dX10_behind_44 : decode cX10_behind 44 = .ok (.getfield 44, 3) := by decide +kernel
theorem dX10_behind_47 : decode cX10_behind 47 = .ok (.iload_n 3, 1) := by decide +kernel
theorem dX10_behind_48 : decode cX10_behind 48 = .ok (.iaload, 1) := by decide +kernel
theorem dX10_behind_49 : decode cX10_behind 49 = .ok (.iadd, 1) := by decide +kernel
theorem dX10_behind_50 : decode cX10_behind 50 = .ok (.iconst 1, 1) := by decide +kernel
theorem dX10_behind_51 : decode cX10_behind 51 = .ok (.iadd, 1) := by decide +kernel
theorem dX10_behind_52 : decode cX10_behind 52 = .ok (.istore_n 3, 1) := by decide +kernel
theorem dX10_behind_53 : decode cX10_behind 53 = .ok (.goto (-49), 3) := by decide +kernel
theorem dX10_behind_56 : decode cX10_behind 56 = .ok (.iload_n 3, 1) := by decide +kernel
theorem dX10_behind_57 : decode cX10_behind 57 = .ok (.aload_n 0, 1) := by decide +kernel
theorem dX10_behind_58 : decode cX10_behind 58 = .ok (.getfield 70, 3) := by decide +kernel
theorem dX10_behind_61 : decode cX10_behind 61 = .ok (.if_icmp .ge 20, 3) := by decide +kernel
theorem dX10_behind_64 : decode cX10_behind 64 = .ok (.aload_n 0, 1) := by decide +kernel
theorem dX10_behind_65 : decode cX10_behind 65 = .ok (.getfield 35, 3) := by decide +kernel
theorem dX10_behind_68 : decode cX10_behind 68 = .ok (.iload_n 3, 1) := by decide +kernel
theorem dX10_behind_69 : decode cX10_behind 69 = .ok (.iaload, 1) := by decide +kernel
theorem dX10_behind_70 : decode cX10_behind 70 = .ok (.bipush 13, 2) := by decide +kernel
theorem dX10_behind_72 : decode cX10_behind 72 = .ok (.if_icmp .ne 9, 3) := by decide +kernel
theorem dX10_behind_75 : decode cX10_behind 75 = .ok (.iload_n 3, 1) := by decide +kernel
theorem dX10_behind_76 : decode cX10_behind 76 = .ok (.iconst 1, 1) := by decide +kernel
theorem dX10_behind_77 : decode cX10_behind 77 = .ok (.iadd, 1) := by decide +kernel
theorem dX10_behind_78 : decode cX10_behind 78 = .ok (.goto 4, 3) := by decide +kernel
theorem dX10_behind_81 : decode cX10_behind 81 = .ok (.iconst (-1), 1) := by decide +kernel
theorem dX10_behind_82 : decode cX10_behind 82 = .ok (.ireturn, 1) := by decide +kernel
theorem dX10_again_0 : decode cX10_again 0 = .ok (.aload_n 0, 1) := by decide +kernel
theorem dX10_again_1 : decode cX10_again 1 = .ok (.getfield 47, 3) := by decide +kernel
theorem dX10_again_4 : decode cX10_again 4 = .ok (.iload_n 1, 1) := by decide +kernel
theorem dX10_again_5 : decode cX10_again 5 = .ok (.iaload, 1) := by decide +kernel
theorem dX10_again_6 : decode cX10_again 6 = .ok (.aload_n 0, 1) := by decide +kernel
theorem dX10_again_7 : decode cX10_again 7 = .ok (.getfield 44, 3) := by decide +kernel
theorem dX10_again_10 : decode cX10_again 10 = .ok (.iload_n 1, 1) := by decide +kernel
theorem dX10_again_11 : decode cX10_again 11 = .ok (.iaload, 1) := by decide +kernel
theorem dX10_again_12 : decode cX10_again 12 = .ok (.if_icmp .ge 36, 3) := by decide +kernel
theorem dX10_again_15 : decode cX10_again 15 = .ok (.aload_n 0, 1) := by decide +kernel
theorem dX10_again_16 : decode cX10_again 16 = .ok (.getfield 47, 3) := by decide +kernel
theorem dX10_again_19 : decode cX10_again 19 = .ok (.iload_n 1, 1) := by decide +kernel
theorem dX10_again_20 : decode cX10_again 20 = .ok (.dup2, 1) := by decide +kernel
theorem dX10_again_21 : decode cX10_again 21 = .ok (.iaload, 1) := by decide +kernel
theorem dX10_again_22 : decode cX10_again 22 = .ok (.iconst 1, 1) := by decide +kernel
theorem dX10_again_23 : decode cX10_again 23 = .ok (.iadd, 1) := by decide +kernel
theorem dX10_again_24 : decode cX10_again 24 = .ok (.iastore, 1) := by decide +kernel
theorem dX10_again_25 : decode cX10_again 25 = .ok (.iload_n 1, 1) := by decide +kernel
theorem dX10_again_26 : decode cX10_again 26 = .ok (.aload_n 0, 1) := by decide +kernel
theorem dX10_again_27 : decode cX10_again 27 = .ok (.getfield 41, 3) := by decide +kernel
theorem dX10_again_30 : decode cX10_again 30 = .ok (.iload_n 1, 1) := by decide +kernel
theorem dX10_again_31 : decode cX10_again 31 = .ok (.iaload, 1) := by decide +kernel
theorem dX10_again_32 : decode cX10_again 32 = .ok (.if_icmp .ge 7, 3) := by decide +kernel
theorem dX10_again_35 : decode cX10_again 35 = .ok (.iconst 0, 1) := by decide +kernel
theorem dX10_again_36 : decode cX10_again 36 = .ok (.goto 11, 3) := by decide +kernel
theorem dX10_again_39 : decode cX10_again 39 = .ok (.iload_n 1, 1) := by decide +kernel
theorem dX10_again_40 : decode cX10_again 40 = .ok (.aload_n 0, 1) := by decide +kernel
theorem dX10_again_41 : decode cX10_again 41 = .ok (.getfield 41, 3) := by decide +kernel
theorem dX10_again_44 : decode cX10_again 44 = .ok (.iload_n 1, 1) := by decide +kernel
theorem dX10_again_45 : decode cX10_again 45 = .ok (.iaload, 1) := by decide +kernel
theorem dX10_again_46 : decode cX10_again 46 = .ok (.isub, 1) := by decide +kernel
theorem dX10_again_47 : decode cX10_again 47 = .ok (.ireturn, 1) := by decide +kernel
theorem dX10_again_48 : decode cX10_again 48 = .ok (.aload_n 0, 1) := by decide +kernel
theorem dX10_again_49 : decode cX10_again 49 = .ok (.getfield 47, 3) := by decide +kernel
theorem dX10_again_52 : decode cX10_again 52 = .ok (.iload_n 1, 1) := by decide +kernel
theorem dX10_again_53 : decode cX10_again 53 = .ok (.iconst 0, 1) := by decide +kernel
theorem dX10_again_54 : decode cX10_again 54 = .ok (.iastore, 1) := by decide +kernel
theorem dX10_again_55 : decode cX10_again 55 = .ok (.iload_n 1, 1) := by decide +kernel
theorem dX10_again_56 : decode cX10_again 56 = .ok (.iconst 1, 1) := by decide +kernel
theorem dX10_again_57 : decode cX10_again 57 = .ok (.iadd, 1) := by decide +kernel
theorem dX10_again_58 : decode cX10_again 58 = .ok (.ireturn, 1) := by decide +kernel
theorem dX10_run_0 : decode cX10_run 0 = .ok (.iload_n 1, 1) := by decide +kernel
theorem dX10_run_1 : decode cX10_run 1 = .ok (.iconst 0, 1) := by decide +kernel
theorem dX10_run_2 : decode cX10_run 2 = .ok (.sipush 300, 3) := by decide +kernel
theorem dX10_run_5 : decode cX10_run 5 = .ok (.invokestatic 66, 3) := by decide +kernel
theorem dX10_run_8 : decode cX10_run 8 = .ok (.ifCond .ne 5, 3) := by decide +kernel
theorem dX10_run_11 : decode cX10_run 11 = .ok (.iconst (-1), 1) := by decide +kernel
theorem dX10_run_12 : decode cX10_run 12 = .ok (.ireturn, 1) := by decide +kernel
theorem dX10_run_13 : decode cX10_run 13 = .ok (.aload_n 0, 1) := by decide +kernel
theorem dX10_run_14 : decode cX10_run 14 = .ok (.iconst 0, 1) := by decide +kernel
theorem dX10_run_15 : decode cX10_run 15 = .ok (.putfield 179, 3) := by decide +kernel
theorem dX10_run_18 : decode cX10_run 18 = .ok (.aload_n 0, 1) := by decide +kernel
theorem dX10_run_19 : decode cX10_run 19 = .ok (.iconst (-1), 1) := by decide +kernel
theorem dX10_run_20 : decode cX10_run 20 = .ok (.putfield 62, 3) := by decide +kernel
theorem dX10_run_23 : decode cX10_run 23 = .ok (.iconst 0, 1) := by decide +kernel
theorem dX10_run_24 : decode cX10_run 24 = .ok (.istore_n 2, 1) := by decide +kernel
theorem dX10_run_25 : decode cX10_run 25 = .ok (.iload_n 2, 1) := by decide +kernel
theorem dX10_run_26 : decode cX10_run 26 = .ok (.bipush 60, 2) := by decide +kernel
theorem dX10_run_28 : decode cX10_run 28 = .ok (.if_icmp .ge 16, 3) := by decide +kernel
theorem dX10_run_31 : decode cX10_run 31 = .ok (.aload_n 0, 1) := by decide +kernel
theorem dX10_run_32 : decode cX10_run 32 = .ok (.getfield 47, 3) := by decide +kernel
theorem dX10_run_35 : decode cX10_run 35 = .ok (.iload_n 2, 1) := by decide +kernel
theorem dX10_run_36 : decode cX10_run 36 = .ok (.iconst 0, 1) := by decide +kernel
theorem dX10_run_37 : decode cX10_run 37 = .ok (.iastore, 1) := by decide +kernel
theorem dX10_run_38 : decode cX10_run 38 = .ok (.iinc 2 1, 3) := by decide +kernel
theorem dX10_run_41 : decode cX10_run 41 = .ok (.goto (-16), 3) := by decide +kernel
theorem dX10_run_44 : decode cX10_run 44 = .ok (.iconst 0, 1) := by decide +kernel
theorem dX10_run_45 : decode cX10_run 45 = .ok (.istore_n 2, 1) := by decide +kernel
theorem dX10_run_46 : decode cX10_run 46 = .ok (.iload_n 2, 1) := by decide +kernel
theorem dX10_run_47 : decode cX10_run 47 = .ok (.aload_n 0, 1) := by decide +kernel
theorem dX10_run_48 : decode cX10_run 48 = .ok (.getfield 70, 3) := by decide +kernel
theorem dX10_run_51 : decode cX10_run 51 = .ok (.if_icmp .ge 193, 3) := by decide +kernel
theorem dX10_run_54 : decode cX10_run 54 = .ok (.aload_n 0, 1) := by decide +kernel
theorem dX10_run_55 : decode cX10_run 55 = .ok (.getfield 159, 3) := by decide +kernel
theorem dX10_run_58 : decode cX10_run 58 = .ok (.sipush 4000, 3) := by decide +kernel
theorem dX10_run_61 : decode cX10_run 61 = .ok (.if_icmp .ne 11, 3) := by decide +kernel
theorem dX10_run_64 : decode cX10_run 64 = .ok (.aload_n 0, 1) := by decide +kernel
theorem dX10_run_65 : decode cX10_run 65 = .ok (.iload_n 2, 1) := by decide +kernel
theorem dX10_run_66 : decode cX10_run 66 = .ok (.putfield 62, 3) := by decide +kernel
theorem dX10_run_69 : decode cX10_run 69 = .ok (.bipush 6, 2) := by decide +kernel
theorem dX10_run_71 : decode cX10_run 71 = .ok (.ireturn, 1) := by decide +kernel
theorem dX10_run_72 : decode cX10_run 72 = .ok (.aload_n 0, 1) := by decide +kernel
theorem dX10_run_73 : decode cX10_run 73 = .ok (.getfield 179, 3) := by decide +kernel
theorem dX10_run_76 : decode cX10_run 76 = .ok (.iload_n 1, 1) := by decide +kernel
theorem dX10_run_77 : decode cX10_run 77 = .ok (.if_icmp .ne 6, 3) := by decide +kernel
theorem dX10_run_80 : decode cX10_run 80 = .ok (.bipush 7, 2) := by decide +kernel
theorem dX10_run_82 : decode cX10_run 82 = .ok (.ireturn, 1) := by decide +kernel
theorem dX10_run_83 : decode cX10_run 83 = .ok (.aload_n 0, 1) := by decide +kernel
theorem dX10_run_84 : decode cX10_run 84 = .ok (.dup, 1) := by decide +kernel
theorem dX10_run_85 : decode cX10_run 85 = .ok (.getfield 179, 3) := by decide +kernel
theorem dX10_run_88 : decode cX10_run 88 = .ok (.iconst 1, 1) := by decide +kernel
theorem dX10_run_89 : decode cX10_run 89 = .ok (.iadd, 1) := by decide +kernel
theorem dX10_run_90 : decode cX10_run 90 = .ok (.putfield 179, 3) := by decide +kernel
theorem dX10_run_93 : decode cX10_run 93 = .ok (.aload_n 0, 1) := by decide +kernel
theorem dX10_run_94 : decode cX10_run 94 = .ok (.getfield 35, 3) := by decide +kernel
theorem dX10_run_97 : decode cX10_run 97 = .ok (.iload_n 2, 1) := by decide +kernel
theorem dX10_run_98 : decode cX10_run 98 = .ok (.iaload, 1) := by decide +kernel
theorem dX10_run_99 : decode cX10_run 99 = .ok (.bipush 13, 2) := by decide +kernel
theorem dX10_run_101 : decode cX10_run 101 = .ok (.if_icmp .ne 27, 3) := by decide +kernel
theorem dX10_run_104 : decode cX10_run 104 = .ok (.aload_n 0, 1) := by decide +kernel
theorem dX10_run_105 : decode cX10_run 105 = .ok (.dup, 1) := by decide +kernel
theorem dX10_run_106 : decode cX10_run 106 = .ok (.getfield 159, 3) := by decide +kernel
theorem dX10_run_109 : decode cX10_run 109 = .ok (.iconst 1, 1) := by decide +kernel
theorem dX10_run_110 : decode cX10_run 110 = .ok (.iadd, 1) := by decide +kernel
theorem dX10_run_111 : decode cX10_run 111 = .ok (.putfield 159, 3) := by decide +kernel
theorem dX10_run_114 : decode cX10_run 114 = .ok (.iload_n 2, 1) := by decide +kernel
theorem dX10_run_115 : decode cX10_run 115 = .ok (.iconst 1, 1) := by decide +kernel
theorem dX10_run_116 : decode cX10_run 116 = .ok (.iadd, 1) := by decide +kernel
theorem dX10_run_117 : decode cX10_run 117 = .ok (.aload_n 0, 1) := by decide +kernel
theorem dX10_run_118 : decode cX10_run 118 = .ok (.getfield 44, 3) := by decide +kernel
theorem dX10_run_121 : decode cX10_run 121 = .ok (.iload_n 2, 1) := by decide +kernel
theorem dX10_run_122 : decode cX10_run 122 = .ok (.iaload, 1) := by decide +kernel
theorem dX10_run_123 : decode cX10_run 123 = .ok (.iadd, 1) := by decide +kernel
theorem dX10_run_124 : decode cX10_run 124 = .ok (.istore_n 2, 1) := by decide +kernel
theorem dX10_run_125 : decode cX10_run 125 = .ok (.goto (-79), 3) := by decide +kernel
theorem dX10_run_128 : decode cX10_run 128 = .ok (.aload_n 0, 1) := by decide +kernel
theorem dX10_run_129 : decode cX10_run 129 = .ok (.getfield 35, 3) := by decide +kernel
theorem dX10_run_132 : decode cX10_run 132 = .ok (.iload_n 2, 1) := by decide +kernel
theorem dX10_run_133 : decode cX10_run 133 = .ok (.iaload, 1) := by decide +kernel
theorem dX10_run_134 : decode cX10_run 134 = .ok (.bipush 14, 2) := by decide +kernel
theorem dX10_run_136 : decode cX10_run 136 = .ok (.if_icmp .ne 22, 3) := by decide +kernel
theorem dX10_run_139 : decode cX10_run 139 = .ok (.aload_n 0, 1) := by decide +kernel
theorem dX10_run_140 : decode cX10_run 140 = .ok (.dup, 1) := by decide +kernel
theorem dX10_run_141 : decode cX10_run 141 = .ok (.getfield 159, 3) := by decide +kernel
theorem dX10_run_144 : decode cX10_run 144 = .ok (.iconst 1, 1) := by decide +kernel
theorem dX10_run_145 : decode cX10_run 145 = .ok (.iadd, 1) := by decide +kernel
theorem dX10_run_146 : decode cX10_run 146 = .ok (.putfield 159, 3) := by decide +kernel
theorem dX10_run_149 : decode cX10_run 149 = .ok (.aload_n 0, 1) := by decide +kernel
theorem dX10_run_150 : decode cX10_run 150 = .ok (.iload_n 2, 1) := by decide +kernel
theorem dX10_run_151 : decode cX10_run 151 = .ok (.invokevirtual 182, 3) := by decide +kernel
theorem dX10_run_154 : decode cX10_run 154 = .ok (.istore_n 2, 1) := by decide +kernel
theorem dX10_run_155 : decode cX10_run 155 = .ok (.goto (-109), 3) := by decide +kernel
theorem dX10_run_158 : decode cX10_run 158 = .ok (.aload_n 0, 1) := by decide +kernel
theorem dX10_run_159 : decode cX10_run 159 = .ok (.aload_n 0, 1) := by decide +kernel
theorem dX10_run_160 : decode cX10_run 160 = .ok (.getfield 35, 3) := by decide +kernel
theorem dX10_run_163 : decode cX10_run 163 = .ok (.iload_n 2, 1) := by decide +kernel
theorem dX10_run_164 : decode cX10_run 164 = .ok (.iaload, 1) := by decide +kernel
theorem dX10_run_165 : decode cX10_run 165 = .ok (.aload_n 0, 1) := by decide +kernel
theorem dX10_run_166 : decode cX10_run 166 = .ok (.getfield 38, 3) := by decide +kernel
theorem dX10_run_169 : decode cX10_run 169 = .ok (.iload_n 2, 1) := by decide +kernel
theorem dX10_run_170 : decode cX10_run 170 = .ok (.iaload, 1) := by decide +kernel
theorem dX10_run_171 : decode cX10_run 171 = .ok (.aload_n 0, 1) := by decide +kernel
theorem dX10_run_172 : decode cX10_run 172 = .ok (.getfield 41, 3) := by decide +kernel
theorem dX10_run_175 : decode cX10_run 175 = .ok (.iload_n 2, 1) := by decide +kernel
theorem dX10_run_176 : decode cX10_run 176 = .ok (.iaload, 1) := by decide +kernel
theorem dX10_run_177 : decode cX10_run 177 = .ok (.aload_n 0, 1) := by decide +kernel
theorem dX10_run_178 : decode cX10_run 178 = .ok (.getfield 44, 3) := by decide +kernel
theorem dX10_run_181 : decode cX10_run 181 = .ok (.iload_n 2, 1) := by decide +kernel
theorem dX10_run_182 : decode cX10_run 182 = .ok (.iaload, 1) := by decide +kernel
theorem dX10_run_183 : decode cX10_run 183 = .ok (.invokevirtual 176, 3) := by decide +kernel
theorem dX10_run_186 : decode cX10_run 186 = .ok (.istore_n 3, 1) := by decide +kernel
theorem dX10_run_187 : decode cX10_run 187 = .ok (.iload_n 3, 1) := by decide +kernel
theorem dX10_run_188 : decode cX10_run 188 = .ok (.ifCond .ne 9, 3) := by decide +kernel
theorem dX10_run_191 : decode cX10_run 191 = .ok (.iload_n 2, 1) := by decide +kernel
theorem dX10_run_192 : decode cX10_run 192 = .ok (.iconst 1, 1) := by decide +kernel
theorem dX10_run_193 : decode cX10_run 193 = .ok (.iadd, 1) := by decide +kernel
theorem dX10_run_194 : decode cX10_run 194 = .ok (.goto 9, 3) := by decide +kernel
theorem dX10_run_197 : decode cX10_run 197 = .ok (.aload_n 0, 1) := by decide +kernel
theorem dX10_run_198 : decode cX10_run 198 = .ok (.iload_n 2, 1) := by decide +kernel
theorem dX10_run_199 : decode cX10_run 199 = .ok (.iload_n 3, 1) := by decide +kernel
theorem dX10_run_200 : decode cX10_run 200 = .ok (.invokevirtual 185, 3) := by decide +kernel
theorem dX10_run_203 : decode cX10_run 203 = .ok (.istore 4, 2) := by decide +kernel
theorem dX10_run_205 : decode cX10_run 205 = .ok (.iload 4, 2) := by decide +kernel
theorem dX10_run_207 : decode cX10_run 207 = .ok (.ifCond .ge 10, 3) := by decide +kernel
theorem dX10_run_210 : decode cX10_run 210 = .ok (.aload_n 0, 1) := by decide +kernel
theorem dX10_run_211 : decode cX10_run 211 = .ok (.iload_n 2, 1) := by decide +kernel
theorem dX10_run_212 : decode cX10_run 212 = .ok (.putfield 62, 3) := by decide +kernel
theorem dX10_run_215 : decode cX10_run 215 = .ok (.iload_n 3, 1) := by decide +kernel
theorem dX10_run_216 : decode cX10_run 216 = .ok (.ireturn, 1) := by decide +kernel
theorem dX10_run_217 : decode cX10_run 217 = .ok (.aload_n 0, 1) := by decide +kernel
theorem dX10_run_218 : decode cX10_run 218 = .ok (.iload_n 3, 1) := by decide +kernel
theorem dX10_run_219 : decode cX10_run 219 = .ok (.ifCond .le 12, 3) := by decide +kernel
theorem dX10_run_222 : decode cX10_run 222 = .ok (.aload_n 0, 1) := by decide +kernel
theorem dX10_run_223 : decode cX10_run 223 = .ok (.getfield 188, 3) := by decide +kernel
theorem dX10_run_226 : decode cX10_run 226 = .ok (.iconst 1, 1) := by decide +kernel
theorem dX10_run_227 : decode cX10_run 227 = .ok (.iadd, 1) := by decide +kernel
theorem dX10_run_228 : decode cX10_run 228 = .ok (.goto 7, 3) := by decide +kernel
theorem dX10_run_231 : decode cX10_run 231 = .ok (.aload_n 0, 1) := by decide +kernel
theorem dX10_run_232 : decode cX10_run 232 = .ok (.getfield 188, 3) := by decide +kernel
theorem dX10_run_235 : decode cX10_run 235 = .ok (.putfield 188, 3) := by decide +kernel
theorem dX10_run_238 : decode cX10_run 238 = .ok (.iload 4, 2) := by decide +kernel
theorem dX10_run_240 : decode cX10_run 240 = .ok (.istore_n 2, 1) := by decide +kernel
theorem dX10_run_241 : decode cX10_run 241 = .ok (.goto (-195), 3) := by decide +kernel
theorem dX10_run_244 : decode cX10_run 244 = .ok (.iconst 0, 1) := by decide +kernel
theorem dX10_run_245 : decode cX10_run 245 = .ok (.ireturn, 1) := by decide +kernel
theorem dX10_back_0 : decode cX10_back 0 = .ok (.aload_n 0, 1) := by decide +kernel
theorem dX10_back_1 : decode cX10_back 1 = .ok (.getfield 173, 3) := by decide +kernel
theorem dX10_back_4 : decode cX10_back 4 = .ok (.ifCond .ne 5, 3) := by decide +kernel
theorem dX10_back_7 : decode cX10_back 7 = .ok (.iconst 0, 1) := by decide +kernel
theorem dX10_back_8 : decode cX10_back 8 = .ok (.ireturn, 1) := by decide +kernel
theorem dX10_back_9 : decode cX10_back 9 = .ok (.aload_n 0, 1) := by decide +kernel
theorem dX10_back_10 : decode cX10_back 10 = .ok (.dup, 1) := by decide +kernel
theorem dX10_back_11 : decode cX10_back 11 = .ok (.getfield 173, 3) := by decide +kernel
theorem dX10_back_14 : decode cX10_back 14 = .ok (.iconst 1, 1) := by decide +kernel
theorem dX10_back_15 : decode cX10_back 15 = .ok (.isub, 1) := by decide +kernel
theorem dX10_back_16 : decode cX10_back 16 = .ok (.putfield 173, 3) := by decide +kernel
theorem dX10_back_19 : decode cX10_back 19 = .ok (.aload_n 0, 1) := by decide +kernel
theorem dX10_back_20 : decode cX10_back 20 = .ok (.getfield 50, 3) := by decide +kernel
theorem dX10_back_23 : decode cX10_back 23 = .ok (.aload_n 0, 1) := by decide +kernel
theorem dX10_back_24 : decode cX10_back 24 = .ok (.getfield 173, 3) := by decide +kernel
theorem dX10_back_27 : decode cX10_back 27 = .ok (.iaload, 1) := by decide +kernel
theorem dX10_back_28 : decode cX10_back 28 = .ok (.istore_n 1, 1) := by decide +kernel
theorem dX10_back_29 : decode cX10_back 29 = .ok (.iconst 0, 1) := by decide +kernel
theorem dX10_back_30 : decode cX10_back 30 = .ok (.istore_n 2, 1) := by decide +kernel
theorem dX10_back_31 : decode cX10_back 31 = .ok (.iload_n 2, 1) := by decide +kernel
theorem dX10_back_32 : decode cX10_back 32 = .ok (.aload_n 0, 1) := by decide +kernel
theorem dX10_back_33 : decode cX10_back 33 = .ok (.getfield 13, 3) := by decide +kernel
theorem dX10_back_36 : decode cX10_back 36 = .ok (.iload_n 1, 1) := by decide +kernel
theorem dX10_back_37 : decode cX10_back 37 = .ok (.iaload, 1) := by decide +kernel
theorem dX10_back_38 : decode cX10_back 38 = .ok (.if_icmp .ge 36, 3) := by decide +kernel
theorem dX10_back_41 : decode cX10_back 41 = .ok (.aload_n 0, 1) := by decide +kernel
theorem dX10_back_42 : decode cX10_back 42 = .ok (.getfield 19, 3) := by decide +kernel
theorem dX10_back_45 : decode cX10_back 45 = .ok (.aload_n 0, 1) := by decide +kernel
theorem dX10_back_46 : decode cX10_back 46 = .ok (.getfield 16, 3) := by decide +kernel
theorem dX10_back_49 : decode cX10_back 49 = .ok (.iload_n 1, 1) := by decide +kernel
theorem dX10_back_50 : decode cX10_back 50 = .ok (.iaload, 1) := by decide +kernel
theorem dX10_back_51 : decode cX10_back 51 = .ok (.iload_n 2, 1) := by decide +kernel
theorem dX10_back_52 : decode cX10_back 52 = .ok (.iadd, 1) := by decide +kernel
theorem dX10_back_53 : decode cX10_back 53 = .ok (.aload_n 0, 1) := by decide +kernel
theorem dX10_back_54 : decode cX10_back 54 = .ok (.getfield 53, 3) := by decide +kernel
theorem dX10_back_57 : decode cX10_back 57 = .ok (.bipush 64, 2) := by decide +kernel
theorem dX10_back_59 : decode cX10_back 59 = .ok (.aload_n 0, 1) := by decide +kernel
theorem dX10_back_60 : decode cX10_back 60 = .ok (.getfield 173, 3) := by decide +kernel
theorem dX10_back_63 : decode cX10_back 63 = .ok (.imul, 1) := by decide +kernel
theorem dX10_back_64 : decode cX10_back 64 = .ok (.iload_n 2, 1) := by decide +kernel
theorem dX10_back_65 : decode cX10_back 65 = .ok (.iadd, 1) := by decide +kernel
theorem dX10_back_66 : decode cX10_back 66 = .ok (.laload, 1) := by decide +kernel
theorem dX10_back_67 : decode cX10_back 67 = .ok (.lastore, 1) := by decide +kernel
theorem dX10_back_68 : decode cX10_back 68 = .ok (.iinc 2 1, 3) := by decide +kernel
theorem dX10_back_71 : decode cX10_back 71 = .ok (.goto (-40), 3) := by decide +kernel
theorem dX10_back_74 : decode cX10_back 74 = .ok (.iconst 1, 1) := by decide +kernel
theorem dX10_back_75 : decode cX10_back 75 = .ok (.ireturn, 1) := by decide +kernel
theorem dX10_look_0 : decode cX10_look 0 = .ok (.iload_n 1, 1) := by decide +kernel
theorem dX10_look_1 : decode cX10_look 1 = .ok (.iconst 0, 1) := by decide +kernel
theorem dX10_look_2 : decode cX10_look 2 = .ok (.bipush 9, 2) := by decide +kernel
theorem dX10_look_4 : decode cX10_look 4 = .ok (.invokestatic 66, 3) := by decide +kernel
theorem dX10_look_7 : decode cX10_look 7 = .ok (.ifCond .ne 5, 3) := by decide +kernel
theorem dX10_look_10 : decode cX10_look 10 = .ok (.iconst (-1), 1) := by decide +kernel
theorem dX10_look_11 : decode cX10_look 11 = .ok (.ireturn, 1) := by decide +kernel
theorem dX10_look_12 : decode cX10_look 12 = .ok (.iload_n 2, 1) := by decide +kernel
theorem dX10_look_13 : decode cX10_look 13 = .ok (.tableswitch 169 0 3 #[31, 98, 143, 150], 31) := by decide +kernel
theorem dX10_look_44 : decode cX10_look 44 = .ok (.aload_n 0, 1) := by decide +kernel
theorem dX10_look_45 : decode cX10_look 45 = .ok (.getfield 26, 3) := by decide +kernel
theorem dX10_look_48 : decode cX10_look 48 = .ok (.iload_n 1, 1) := by decide +kernel
theorem dX10_look_49 : decode cX10_look 49 = .ok (.iaload, 1) := by decide +kernel
theorem dX10_look_50 : decode cX10_look 50 = .ok (.ifCond .ne 7, 3) := by decide +kernel
theorem dX10_look_53 : decode cX10_look 53 = .ok (.iconst (-1), 1) := by decide +kernel
theorem dX10_look_54 : decode cX10_look 54 = .ok (.goto 56, 3) := by decide +kernel
theorem dX10_look_57 : decode cX10_look 57 = .ok (.aload_n 0, 1) := by decide +kernel
theorem dX10_look_58 : decode cX10_look 58 = .ok (.getfield 26, 3) := by decide +kernel
theorem dX10_look_61 : decode cX10_look 61 = .ok (.iload_n 1, 1) := by decide +kernel
theorem dX10_look_62 : decode cX10_look 62 = .ok (.iaload, 1) := by decide +kernel
theorem dX10_look_63 : decode cX10_look 63 = .ok (.iconst 1, 1) := by decide +kernel
theorem dX10_look_64 : decode cX10_look 64 = .ok (.if_icmp .ne 17, 3) := by decide +kernel
theorem dX10_look_67 : decode cX10_look 67 = .ok (.aload_n 0, 1) := by decide +kernel
theorem dX10_look_68 : decode cX10_look 68 = .ok (.getfield 7, 3) := by decide +kernel
theorem dX10_look_71 : decode cX10_look 71 = .ok (.aload_n 0, 1) := by decide +kernel
theorem dX10_look_72 : decode cX10_look 72 = .ok (.getfield 29, 3) := by decide +kernel
theorem dX10_look_75 : decode cX10_look 75 = .ok (.iload_n 1, 1) := by decide +kernel
theorem dX10_look_76 : decode cX10_look 76 = .ok (.iaload, 1) := by decide +kernel
theorem dX10_look_77 : decode cX10_look 77 = .ok (.iaload, 1) := by decide +kernel
theorem dX10_look_78 : decode cX10_look 78 = .ok (.goto 32, 3) := by decide +kernel
theorem dX10_look_81 : decode cX10_look 81 = .ok (.aload_n 0, 1) := by decide +kernel
theorem dX10_look_82 : decode cX10_look 82 = .ok (.getfield 26, 3) := by decide +kernel
theorem dX10_look_85 : decode cX10_look 85 = .ok (.iload_n 1, 1) := by decide +kernel
theorem dX10_look_86 : decode cX10_look 86 = .ok (.iaload, 1) := by decide +kernel
theorem dX10_look_87 : decode cX10_look 87 = .ok (.iconst 2, 1) := by decide +kernel
theorem dX10_look_88 : decode cX10_look 88 = .ok (.if_icmp .ne 8, 3) := by decide +kernel
theorem dX10_look_91 : decode cX10_look 91 = .ok (.bipush 12, 2) := by decide +kernel
theorem dX10_look_93 : decode cX10_look 93 = .ok (.goto 17, 3) := by decide +kernel
theorem dX10_look_96 : decode cX10_look 96 = .ok (.bipush 12, 2) := by decide +kernel
theorem dX10_look_98 : decode cX10_look 98 = .ok (.aload_n 0, 1) := by decide +kernel
theorem dX10_look_99 : decode cX10_look 99 = .ok (.getfield 23, 3) := by decide +kernel
theorem dX10_look_102 : decode cX10_look 102 = .ok (.aload_n 0, 1) := by decide +kernel
theorem dX10_look_103 : decode cX10_look 103 = .ok (.getfield 29, 3) := by decide +kernel
theorem dX10_look_106 : decode cX10_look 106 = .ok (.iload_n 1, 1) := by decide +kernel
theorem dX10_look_107 : decode cX10_look 107 = .ok (.iaload, 1) := by decide +kernel
theorem dX10_look_108 : decode cX10_look 108 = .ok (.iaload, 1) := by decide +kernel
theorem dX10_look_109 : decode cX10_look 109 = .ok (.iadd, 1) := by decide +kernel
theorem dX10_look_110 : decode cX10_look 110 = .ok (.ireturn, 1) := by decide +kernel
theorem dX10_look_111 : decode cX10_look 111 = .ok (.aload_n 0, 1) := by decide +kernel
theorem dX10_look_112 : decode cX10_look 112 = .ok (.getfield 26, 3) := by decide +kernel
theorem dX10_look_115 : decode cX10_look 115 = .ok (.iload_n 1, 1) := by decide +kernel
theorem dX10_look_116 : decode cX10_look 116 = .ok (.iaload, 1) := by decide +kernel
theorem dX10_look_117 : decode cX10_look 117 = .ok (.iconst 1, 1) := by decide +kernel
theorem dX10_look_118 : decode cX10_look 118 = .ok (.if_icmp .ne 17, 3) := by decide +kernel
theorem dX10_look_121 : decode cX10_look 121 = .ok (.aload_n 0, 1) := by decide +kernel
theorem dX10_look_122 : decode cX10_look 122 = .ok (.getfield 13, 3) := by decide +kernel
theorem dX10_look_125 : decode cX10_look 125 = .ok (.aload_n 0, 1) := by decide +kernel
theorem dX10_look_126 : decode cX10_look 126 = .ok (.getfield 29, 3) := by decide +kernel
theorem dX10_look_129 : decode cX10_look 129 = .ok (.iload_n 1, 1) := by decide +kernel
theorem dX10_look_130 : decode cX10_look 130 = .ok (.iaload, 1) := by decide +kernel
theorem dX10_look_131 : decode cX10_look 131 = .ok (.iaload, 1) := by decide +kernel
theorem dX10_look_132 : decode cX10_look 132 = .ok (.goto 23, 3) := by decide +kernel
theorem dX10_look_135 : decode cX10_look 135 = .ok (.aload_n 0, 1) := by decide +kernel
theorem dX10_look_136 : decode cX10_look 136 = .ok (.getfield 26, 3) := by decide +kernel
theorem dX10_look_139 : decode cX10_look 139 = .ok (.iload_n 1, 1) := by decide +kernel
theorem dX10_look_140 : decode cX10_look 140 = .ok (.iaload, 1) := by decide +kernel
theorem dX10_look_141 : decode cX10_look 141 = .ok (.iconst 3, 1) := by decide +kernel
theorem dX10_look_142 : decode cX10_look 142 = .ok (.if_icmp .ne 12, 3) := by decide +kernel
theorem dX10_look_145 : decode cX10_look 145 = .ok (.aload_n 0, 1) := by decide +kernel
theorem dX10_look_146 : decode cX10_look 146 = .ok (.getfield 29, 3) := by decide +kernel
theorem dX10_look_149 : decode cX10_look 149 = .ok (.iload_n 1, 1) := by decide +kernel
theorem dX10_look_150 : decode cX10_look 150 = .ok (.iaload, 1) := by decide +kernel
theorem dX10_look_151 : decode cX10_look 151 = .ok (.goto 4, 3) := by decide +kernel
theorem dX10_look_154 : decode cX10_look 154 = .ok (.iconst (-1), 1) := by decide +kernel
theorem dX10_look_155 : decode cX10_look 155 = .ok (.ireturn, 1) := by decide +kernel
theorem dX10_look_156 : decode cX10_look 156 = .ok (.aload_n 0, 1) := by decide +kernel
theorem dX10_look_157 : decode cX10_look 157 = .ok (.getfield 32, 3) := by decide +kernel
theorem dX10_look_160 : decode cX10_look 160 = .ok (.iload_n 1, 1) := by decide +kernel
theorem dX10_look_161 : decode cX10_look 161 = .ok (.iaload, 1) := by decide +kernel
theorem dX10_look_162 : decode cX10_look 162 = .ok (.ireturn, 1) := by decide +kernel
theorem dX10_look_163 : decode cX10_look 163 = .ok (.aload_n 0, 1) := by decide +kernel
theorem dX10_look_164 : decode cX10_look 164 = .ok (.getfield 26, 3) := by decide +kernel
theorem dX10_look_167 : decode cX10_look 167 = .ok (.iload_n 1, 1) := by decide +kernel
theorem dX10_look_168 : decode cX10_look 168 = .ok (.iaload, 1) := by decide +kernel
theorem dX10_look_169 : decode cX10_look 169 = .ok (.ifCond .ne 7, 3) := by decide +kernel
theorem dX10_look_172 : decode cX10_look 172 = .ok (.iconst (-1), 1) := by decide +kernel
theorem dX10_look_173 : decode cX10_look 173 = .ok (.goto 8, 3) := by decide +kernel
theorem dX10_look_176 : decode cX10_look 176 = .ok (.aload_n 0, 1) := by decide +kernel
theorem dX10_look_177 : decode cX10_look 177 = .ok (.iload_n 1, 1) := by decide +kernel
theorem dX10_look_178 : decode cX10_look 178 = .ok (.invokevirtual 191, 3) := by decide +kernel
theorem dX10_look_181 : decode cX10_look 181 = .ok (.ireturn, 1) := by decide +kernel
theorem dX10_look_182 : decode cX10_look 182 = .ok (.iconst (-1), 1) := by decide +kernel
theorem dX10_look_183 : decode cX10_look 183 = .ok (.ireturn, 1) := by decide +kernel
theorem dX10_first_0 : decode cX10_first 0 = .ok (.iconst 0, 1) := by decide +kernel
theorem dX10_first_1 : decode cX10_first 1 = .ok (.istore_n 2, 1) := by decide +kernel
theorem dX10_first_2 : decode cX10_first 2 = .ok (.aload_n 0, 1) := by decide +kernel
theorem dX10_first_3 : decode cX10_first 3 = .ok (.getfield 26, 3) := by decide +kernel
theorem dX10_first_6 : decode cX10_first 6 = .ok (.iload_n 2, 1) := by decide +kernel
theorem dX10_first_7 : decode cX10_first 7 = .ok (.iaload, 1) := by decide +kernel
theorem dX10_first_8 : decode cX10_first 8 = .ok (.aload_n 0, 1) := by decide +kernel
theorem dX10_first_9 : decode cX10_first 9 = .ok (.getfield 26, 3) := by decide +kernel
theorem dX10_first_12 : decode cX10_first 12 = .ok (.iload_n 1, 1) := by decide +kernel
theorem dX10_first_13 : decode cX10_first 13 = .ok (.iaload, 1) := by decide +kernel
theorem dX10_first_14 : decode cX10_first 14 = .ok (.if_icmp .ne 18, 3) := by decide +kernel
theorem dX10_first_17 : decode cX10_first 17 = .ok (.aload_n 0, 1) := by decide +kernel
theorem dX10_first_18 : decode cX10_first 18 = .ok (.getfield 29, 3) := by decide +kernel
theorem dX10_first_21 : decode cX10_first 21 = .ok (.iload_n 2, 1) := by decide +kernel
theorem dX10_first_22 : decode cX10_first 22 = .ok (.iaload, 1) := by decide +kernel
theorem dX10_first_23 : decode cX10_first 23 = .ok (.aload_n 0, 1) := by decide +kernel
theorem dX10_first_24 : decode cX10_first 24 = .ok (.getfield 29, 3) := by decide +kernel
theorem dX10_first_27 : decode cX10_first 27 = .ok (.iload_n 1, 1) := by decide +kernel
theorem dX10_first_28 : decode cX10_first 28 = .ok (.iaload, 1) := by decide +kernel
theorem dX10_first_29 : decode cX10_first 29 = .ok (.if_icmp .eq 9, 3) := by decide +kernel
theorem dX10_first_32 : decode cX10_first 32 = .ok (.iinc 2 1, 3) := by decide +kernel
theorem dX10_first_35 : decode cX10_first 35 = .ok (.goto (-33), 3) := by decide +kernel
theorem dX10_first_38 : decode cX10_first 38 = .ok (.iload_n 2, 1) := by decide +kernel
theorem dX10_first_39 : decode cX10_first 39 = .ok (.ireturn, 1) := by decide +kernel
theorem dX10_cell_0 : decode cX10_cell 0 = .ok (.iload_n 1, 1) := by decide +kernel
theorem dX10_cell_1 : decode cX10_cell 1 = .ok (.iconst 0, 1) := by decide +kernel
theorem dX10_cell_2 : decode cX10_cell 2 = .ok (.bipush 9, 2) := by decide +kernel
theorem dX10_cell_4 : decode cX10_cell 4 = .ok (.invokestatic 66, 3) := by decide +kernel
theorem dX10_cell_7 : decode cX10_cell 7 = .ok (.ifCond .eq 11, 3) := by decide +kernel
theorem dX10_cell_10 : decode cX10_cell 10 = .ok (.aload_n 0, 1) := by decide +kernel
theorem dX10_cell_11 : decode cX10_cell 11 = .ok (.iload_n 1, 1) := by decide +kernel
theorem dX10_cell_12 : decode cX10_cell 12 = .ok (.invokevirtual 96, 3) := by decide +kernel
theorem dX10_cell_15 : decode cX10_cell 15 = .ok (.goto 4, 3) := by decide +kernel
theorem dX10_cell_18 : decode cX10_cell 18 = .ok (.iconst (-1), 1) := by decide +kernel
theorem dX10_cell_19 : decode cX10_cell 19 = .ok (.istore_n 3, 1) := by decide +kernel
theorem dX10_cell_20 : decode cX10_cell 20 = .ok (.iload_n 3, 1) := by decide +kernel
theorem dX10_cell_21 : decode cX10_cell 21 = .ok (.ifCond .lt 35, 3) := by decide +kernel
theorem dX10_cell_24 : decode cX10_cell 24 = .ok (.iload_n 2, 1) := by decide +kernel
theorem dX10_cell_25 : decode cX10_cell 25 = .ok (.iconst 0, 1) := by decide +kernel
theorem dX10_cell_26 : decode cX10_cell 26 = .ok (.aload_n 0, 1) := by decide +kernel
theorem dX10_cell_27 : decode cX10_cell 27 = .ok (.getfield 13, 3) := by decide +kernel
theorem dX10_cell_30 : decode cX10_cell 30 = .ok (.iload_n 3, 1) := by decide +kernel
theorem dX10_cell_31 : decode cX10_cell 31 = .ok (.iaload, 1) := by decide +kernel
theorem dX10_cell_32 : decode cX10_cell 32 = .ok (.iconst 1, 1) := by decide +kernel
theorem dX10_cell_33 : decode cX10_cell 33 = .ok (.isub, 1) := by decide +kernel
theorem dX10_cell_34 : decode cX10_cell 34 = .ok (.invokestatic 66, 3) := by decide +kernel
theorem dX10_cell_37 : decode cX10_cell 37 = .ok (.ifCond .eq 19, 3) := by decide +kernel
theorem dX10_cell_40 : decode cX10_cell 40 = .ok (.aload_n 0, 1) := by decide +kernel
theorem dX10_cell_41 : decode cX10_cell 41 = .ok (.getfield 19, 3) := by decide +kernel
theorem dX10_cell_44 : decode cX10_cell 44 = .ok (.aload_n 0, 1) := by decide +kernel
theorem dX10_cell_45 : decode cX10_cell 45 = .ok (.getfield 16, 3) := by decide +kernel
theorem dX10_cell_48 : decode cX10_cell 48 = .ok (.iload_n 3, 1) := by decide +kernel
theorem dX10_cell_49 : decode cX10_cell 49 = .ok (.iaload, 1) := by decide +kernel
theorem dX10_cell_50 : decode cX10_cell 50 = .ok (.iload_n 2, 1) := by decide +kernel
theorem dX10_cell_51 : decode cX10_cell 51 = .ok (.iadd, 1) := by decide +kernel
theorem dX10_cell_52 : decode cX10_cell 52 = .ok (.laload, 1) := by decide +kernel
theorem dX10_cell_53 : decode cX10_cell 53 = .ok (.goto 4, 3) := by decide +kernel
theorem dX10_cell_56 : decode cX10_cell 56 = .ok (.lconst 0, 1) := by decide +kernel
theorem dX10_cell_57 : decode cX10_cell 57 = .ok (.lreturn, 1) := by decide +kernel
theorem dX10_sort_0 : decode cX10_sort 0 = .ok (.iload_n 1, 1) := by decide +kernel
theorem dX10_sort_1 : decode cX10_sort 1 = .ok (.iconst 1, 1) := by decide +kernel
theorem dX10_sort_2 : decode cX10_sort 2 = .ok (.aload_n 0, 1) := by decide +kernel
theorem dX10_sort_3 : decode cX10_sort 3 = .ok (.getfield 116, 3) := by decide +kernel
theorem dX10_sort_6 : decode cX10_sort 6 = .ok (.invokestatic 66, 3) := by decide +kernel
theorem dX10_sort_9 : decode cX10_sort 9 = .ok (.ifCond .eq 12, 3) := by decide +kernel
theorem dX10_sort_12 : decode cX10_sort 12 = .ok (.aload_n 0, 1) := by decide +kernel
theorem dX10_sort_13 : decode cX10_sort 13 = .ok (.getfield 23, 3) := by decide +kernel
theorem dX10_sort_16 : decode cX10_sort 16 = .ok (.iload_n 1, 1) := by decide +kernel
theorem dX10_sort_17 : decode cX10_sort 17 = .ok (.iaload, 1) := by decide +kernel
theorem dX10_sort_18 : decode cX10_sort 18 = .ok (.goto 4, 3) := by decide +kernel
theorem dX10_sort_21 : decode cX10_sort 21 = .ok (.iconst (-1), 1) := by decide +kernel
theorem dX10_sort_22 : decode cX10_sort 22 = .ok (.ireturn, 1) := by decide +kernel
theorem dX10_count_0 : decode cX10_count 0 = .ok (.iload_n 1, 1) := by decide +kernel
theorem dX10_count_1 : decode cX10_count 1 = .ok (.tableswitch 105 0 9 #[55, 60, 65, 70, 75, 80, 85, 90, 95, 100], 55) := by decide +kernel
theorem dX10_count_56 : decode cX10_count 56 = .ok (.aload_n 0, 1) := by decide +kernel
theorem dX10_count_57 : decode cX10_count 57 = .ok (.getfield 70, 3) := by decide +kernel
theorem dX10_count_60 : decode cX10_count 60 = .ok (.ireturn, 1) := by decide +kernel
theorem dX10_count_61 : decode cX10_count 61 = .ok (.aload_n 0, 1) := by decide +kernel
theorem dX10_count_62 : decode cX10_count 62 = .ok (.getfield 159, 3) := by decide +kernel
theorem dX10_count_65 : decode cX10_count 65 = .ok (.ireturn, 1) := by decide +kernel
theorem dX10_count_66 : decode cX10_count 66 = .ok (.aload_n 0, 1) := by decide +kernel
theorem dX10_count_67 : decode cX10_count 67 = .ok (.getfield 77, 3) := by decide +kernel
theorem dX10_count_70 : decode cX10_count 70 = .ok (.ireturn, 1) := by decide +kernel
theorem dX10_count_71 : decode cX10_count 71 = .ok (.aload_n 0, 1) := by decide +kernel
theorem dX10_count_72 : decode cX10_count 72 = .ok (.getfield 80, 3) := by decide +kernel
theorem dX10_count_75 : decode cX10_count 75 = .ok (.ireturn, 1) := by decide +kernel
theorem dX10_count_76 : decode cX10_count 76 = .ok (.aload_n 0, 1) := by decide +kernel
theorem dX10_count_77 : decode cX10_count 77 = .ok (.getfield 116, 3) := by decide +kernel
theorem dX10_count_80 : decode cX10_count 80 = .ok (.ireturn, 1) := by decide +kernel
theorem dX10_count_81 : decode cX10_count 81 = .ok (.aload_n 0, 1) := by decide +kernel
theorem dX10_count_82 : decode cX10_count 82 = .ok (.getfield 173, 3) := by decide +kernel
theorem dX10_count_85 : decode cX10_count 85 = .ok (.ireturn, 1) := by decide +kernel
theorem dX10_count_86 : decode cX10_count 86 = .ok (.aload_n 0, 1) := by decide +kernel
theorem dX10_count_87 : decode cX10_count 87 = .ok (.getfield 170, 3) := by decide +kernel
theorem dX10_count_90 : decode cX10_count 90 = .ok (.ireturn, 1) := by decide +kernel
theorem dX10_count_91 : decode cX10_count 91 = .ok (.aload_n 0, 1) := by decide +kernel
theorem dX10_count_92 : decode cX10_count 92 = .ok (.getfield 188, 3) := by decide +kernel
theorem dX10_count_95 : decode cX10_count 95 = .ok (.ireturn, 1) := by decide +kernel
theorem dX10_count_96 : decode cX10_count 96 = .ok (.aload_n 0, 1) := by decide +kernel
theorem dX10_count_97 : decode cX10_count 97 = .ok (.getfield 179, 3) := by decide +kernel
theorem dX10_count_100 : decode cX10_count 100 = .ok (.ireturn, 1) := by decide +kernel
theorem dX10_count_101 : decode cX10_count 101 = .ok (.aload_n 0, 1) := by decide +kernel
theorem dX10_count_102 : decode cX10_count 102 = .ok (.getfield 62, 3) := by decide +kernel
theorem dX10_count_105 : decode cX10_count 105 = .ok (.ireturn, 1) := by decide +kernel
theorem dX10_count_106 : decode cX10_count 106 = .ok (.iconst (-1), 1) := by decide +kernel
theorem dX10_count_107 : decode cX10_count 107 = .ok (.ireturn, 1) := by decide +kernel
theorem dJxe99ae_isNaN_b9ae7_0 : decode cJxe99ae_isNaN_b9ae7 0 = .ok (.dload_n 0, 1) := by decide +kernel
theorem dJxe99ae_isNaN_b9ae7_1 : decode cJxe99ae_isNaN_b9ae7 1 = .ok (.dload_n 0, 1) := by decide +kernel
theorem dJxe99ae_isNaN_b9ae7_2 : decode cJxe99ae_isNaN_b9ae7 2 = .ok (.dcmp .l, 1) := by decide +kernel
theorem dJxe99ae_isNaN_b9ae7_3 : decode cJxe99ae_isNaN_b9ae7 3 = .ok (.ifCond .eq 7, 3) := by decide +kernel
theorem dJxe99ae_isNaN_b9ae7_6 : decode cJxe99ae_isNaN_b9ae7 6 = .ok (.iconst 1, 1) := by decide +kernel
theorem dJxe99ae_isNaN_b9ae7_7 : decode cJxe99ae_isNaN_b9ae7 7 = .ok (.goto 4, 3) := by decide +kernel
theorem dJxe99ae_isNaN_b9ae7_10 : decode cJxe99ae_isNaN_b9ae7 10 = .ok (.iconst 0, 1) := by decide +kernel
theorem dJxe99ae_isNaN_b9ae7_11 : decode cJxe99ae_isNaN_b9ae7 11 = .ok (.ireturn, 1) := by decide +kernel
theorem dJxe99ae_doubleToLongBits_ccdee_0 : decode cJxe99ae_doubleToLongBits_ccdee 0 = .ok (.dload_n 0, 1) := by decide +kernel
theorem dJxe99ae_doubleToLongBits_ccdee_1 : decode cJxe99ae_doubleToLongBits_ccdee 1 = .ok (.invokestatic 122, 3) := by decide +kernel
theorem dJxe99ae_doubleToLongBits_ccdee_4 : decode cJxe99ae_doubleToLongBits_ccdee 4 = .ok (.ifCond .ne 8, 3) := by decide +kernel
theorem dJxe99ae_doubleToLongBits_ccdee_7 : decode cJxe99ae_doubleToLongBits_ccdee 7 = .ok (.dload_n 0, 1) := by decide +kernel
theorem dJxe99ae_doubleToLongBits_ccdee_8 : decode cJxe99ae_doubleToLongBits_ccdee 8 = .ok (.invokestatic 134, 3) := by decide +kernel
theorem dJxe99ae_doubleToLongBits_ccdee_11 : decode cJxe99ae_doubleToLongBits_ccdee 11 = .ok (.lreturn, 1) := by decide +kernel
theorem dJxe99ae_doubleToLongBits_ccdee_12 : decode cJxe99ae_doubleToLongBits_ccdee 12 = .ok (.ldc2_w 137, 3) := by decide +kernel
theorem dJxe99ae_doubleToLongBits_ccdee_15 : decode cJxe99ae_doubleToLongBits_ccdee 15 = .ok (.lreturn, 1) := by decide +kernel
theorem dJxf58ca_isNaN_12338_0 : decode cJxf58ca_isNaN_12338 0 = .ok (.fload_n 0, 1) := by decide +kernel
theorem dJxf58ca_isNaN_12338_1 : decode cJxf58ca_isNaN_12338 1 = .ok (.fload_n 0, 1) := by decide +kernel
theorem dJxf58ca_isNaN_12338_2 : decode cJxf58ca_isNaN_12338 2 = .ok (.fcmp .l, 1) := by decide +kernel
theorem dJxf58ca_isNaN_12338_3 : decode cJxf58ca_isNaN_12338 3 = .ok (.ifCond .eq 7, 3) := by decide +kernel
theorem dJxf58ca_isNaN_12338_6 : decode cJxf58ca_isNaN_12338 6 = .ok (.iconst 1, 1) := by decide +kernel
theorem dJxf58ca_isNaN_12338_7 : decode cJxf58ca_isNaN_12338 7 = .ok (.goto 4, 3) := by decide +kernel
theorem dJxf58ca_isNaN_12338_10 : decode cJxf58ca_isNaN_12338 10 = .ok (.iconst 0, 1) := by decide +kernel
theorem dJxf58ca_isNaN_12338_11 : decode cJxf58ca_isNaN_12338 11 = .ok (.ireturn, 1) := by decide +kernel
theorem dJxf58ca_floatToIntBits_5c35a_0 : decode cJxf58ca_floatToIntBits_5c35a 0 = .ok (.fload_n 0, 1) := by decide +kernel
theorem dJxf58ca_floatToIntBits_5c35a_1 : decode cJxf58ca_floatToIntBits_5c35a 1 = .ok (.invokestatic 59, 3) := by decide +kernel
theorem dJxf58ca_floatToIntBits_5c35a_4 : decode cJxf58ca_floatToIntBits_5c35a 4 = .ok (.ifCond .ne 8, 3) := by decide +kernel
theorem dJxf58ca_floatToIntBits_5c35a_7 : decode cJxf58ca_floatToIntBits_5c35a 7 = .ok (.fload_n 0, 1) := by decide +kernel
theorem dJxf58ca_floatToIntBits_5c35a_8 : decode cJxf58ca_floatToIntBits_5c35a 8 = .ok (.invokestatic 74, 3) := by decide +kernel
theorem dJxf58ca_floatToIntBits_5c35a_11 : decode cJxf58ca_floatToIntBits_5c35a 11 = .ok (.ireturn, 1) := by decide +kernel
theorem dJxf58ca_floatToIntBits_5c35a_12 : decode cJxf58ca_floatToIntBits_5c35a 12 = .ok (.ldc 77, 2) := by decide +kernel
theorem dJxf58ca_floatToIntBits_5c35a_14 : decode cJxf58ca_floatToIntBits_5c35a 14 = .ok (.ireturn, 1) := by decide +kernel
theorem dJ9_floorMod_7cf53_0 : decode cJ9_floorMod_7cf53 0 = .ok (.iload_n 0, 1) := by decide +kernel
theorem dJ9_floorMod_7cf53_1 : decode cJ9_floorMod_7cf53 1 = .ok (.iload_n 1, 1) := by decide +kernel
theorem dJ9_floorMod_7cf53_2 : decode cJ9_floorMod_7cf53 2 = .ok (.irem, 1) := by decide +kernel
theorem dJ9_floorMod_7cf53_3 : decode cJ9_floorMod_7cf53 3 = .ok (.istore_n 2, 1) := by decide +kernel
theorem dJ9_floorMod_7cf53_4 : decode cJ9_floorMod_7cf53 4 = .ok (.iload_n 0, 1) := by decide +kernel
theorem dJ9_floorMod_7cf53_5 : decode cJ9_floorMod_7cf53 5 = .ok (.iload_n 1, 1) := by decide +kernel
theorem dJ9_floorMod_7cf53_6 : decode cJ9_floorMod_7cf53 6 = .ok (.ixor, 1) := by decide +kernel
theorem dJ9_floorMod_7cf53_7 : decode cJ9_floorMod_7cf53 7 = .ok (.ifCond .ge 11, 3) := by decide +kernel
theorem dJ9_floorMod_7cf53_10 : decode cJ9_floorMod_7cf53 10 = .ok (.iload_n 2, 1) := by decide +kernel
theorem dJ9_floorMod_7cf53_11 : decode cJ9_floorMod_7cf53 11 = .ok (.ifCond .eq 7, 3) := by decide +kernel
theorem dJ9_floorMod_7cf53_14 : decode cJ9_floorMod_7cf53 14 = .ok (.iload_n 2, 1) := by decide +kernel
theorem dJ9_floorMod_7cf53_15 : decode cJ9_floorMod_7cf53 15 = .ok (.iload_n 1, 1) := by decide +kernel
theorem dJ9_floorMod_7cf53_16 : decode cJ9_floorMod_7cf53 16 = .ok (.iadd, 1) := by decide +kernel
theorem dJ9_floorMod_7cf53_17 : decode cJ9_floorMod_7cf53 17 = .ok (.ireturn, 1) := by decide +kernel
theorem dJ9_floorMod_7cf53_18 : decode cJ9_floorMod_7cf53 18 = .ok (.iload_n 2, 1) := by decide +kernel
theorem dJ9_floorMod_7cf53_19 : decode cJ9_floorMod_7cf53 19 = .ok (.ireturn, 1) := by decide +kernel
theorem dJ9_abs_067f4_0 : decode cJ9_abs_067f4 0 = .ok (.lload_n 0, 1) := by decide +kernel
theorem dJ9_abs_067f4_1 : decode cJ9_abs_067f4 1 = .ok (.lconst 0, 1) := by decide +kernel
theorem dJ9_abs_067f4_2 : decode cJ9_abs_067f4 2 = .ok (.lcmp, 1) := by decide +kernel
theorem dJ9_abs_067f4_3 : decode cJ9_abs_067f4 3 = .ok (.ifCond .ge 8, 3) := by decide +kernel
theorem dJ9_abs_067f4_6 : decode cJ9_abs_067f4 6 = .ok (.lload_n 0, 1) := by decide +kernel
theorem dJ9_abs_067f4_7 : decode cJ9_abs_067f4 7 = .ok (.lneg, 1) := by decide +kernel
theorem dJ9_abs_067f4_8 : decode cJ9_abs_067f4 8 = .ok (.goto 4, 3) := by decide +kernel
theorem dJ9_abs_067f4_11 : decode cJ9_abs_067f4 11 = .ok (.lload_n 0, 1) := by decide +kernel
theorem dJ9_abs_067f4_12 : decode cJ9_abs_067f4 12 = .ok (.lreturn, 1) := by decide +kernel
theorem dJ9_max_7cf53_0 : decode cJ9_max_7cf53 0 = .ok (.iload_n 0, 1) := by decide +kernel
theorem dJ9_max_7cf53_1 : decode cJ9_max_7cf53 1 = .ok (.iload_n 1, 1) := by decide +kernel
theorem dJ9_max_7cf53_2 : decode cJ9_max_7cf53 2 = .ok (.if_icmp .lt 7, 3) := by decide +kernel
theorem dJ9_max_7cf53_5 : decode cJ9_max_7cf53 5 = .ok (.iload_n 0, 1) := by decide +kernel
theorem dJ9_max_7cf53_6 : decode cJ9_max_7cf53 6 = .ok (.goto 4, 3) := by decide +kernel
theorem dJ9_max_7cf53_9 : decode cJ9_max_7cf53 9 = .ok (.iload_n 1, 1) := by decide +kernel
theorem dJ9_max_7cf53_10 : decode cJ9_max_7cf53 10 = .ok (.ireturn, 1) := by decide +kernel
theorem dJ9_min_7cf53_0 : decode cJ9_min_7cf53 0 = .ok (.iload_n 0, 1) := by decide +kernel
theorem dJ9_min_7cf53_1 : decode cJ9_min_7cf53 1 = .ok (.iload_n 1, 1) := by decide +kernel
theorem dJ9_min_7cf53_2 : decode cJ9_min_7cf53 2 = .ok (.if_icmp .gt 7, 3) := by decide +kernel
theorem dJ9_min_7cf53_5 : decode cJ9_min_7cf53 5 = .ok (.iload_n 0, 1) := by decide +kernel
theorem dJ9_min_7cf53_6 : decode cJ9_min_7cf53 6 = .ok (.goto 4, 3) := by decide +kernel
theorem dJ9_min_7cf53_9 : decode cJ9_min_7cf53 9 = .ok (.iload_n 1, 1) := by decide +kernel
theorem dJ9_min_7cf53_10 : decode cJ9_min_7cf53 10 = .ok (.ireturn, 1) := by decide +kernel
theorem dL_law_0 : decode cL_law 0 = .ok (.new 7, 3) := by decide +kernel
theorem dL_law_3 : decode cL_law 3 = .ok (.dup, 1) := by decide +kernel
theorem dL_law_4 : decode cL_law 4 = .ok (.invokespecial 9, 3) := by decide +kernel
theorem dL_law_7 : decode cL_law 7 = .ok (.astore_n 1, 1) := by decide +kernel
theorem dL_law_8 : decode cL_law 8 = .ok (.new 10, 3) := by decide +kernel
theorem dL_law_11 : decode cL_law 11 = .ok (.dup, 1) := by decide +kernel
theorem dL_law_12 : decode cL_law 12 = .ok (.invokespecial 12, 3) := by decide +kernel
theorem dL_law_15 : decode cL_law 15 = .ok (.astore_n 2, 1) := by decide +kernel
theorem dL_law_16 : decode cL_law 16 = .ok (.iconst 0, 1) := by decide +kernel
theorem dL_law_17 : decode cL_law 17 = .ok (.istore_n 3, 1) := by decide +kernel
theorem dL_law_18 : decode cL_law 18 = .ok (.iload_n 3, 1) := by decide +kernel
theorem dL_law_19 : decode cL_law 19 = .ok (.aload_n 0, 1) := by decide +kernel
theorem dL_law_20 : decode cL_law 20 = .ok (.arraylength, 1) := by decide +kernel
theorem dL_law_21 : decode cL_law 21 = .ok (.iconst 5, 1) := by decide +kernel
theorem dL_law_22 : decode cL_law 22 = .ok (.isub, 1) := by decide +kernel
theorem dL_law_23 : decode cL_law 23 = .ok (.if_icmp .gt 345, 3) := by decide +kernel
theorem dL_law_26 : decode cL_law 26 = .ok (.aload_n 0, 1) := by decide +kernel
theorem dL_law_27 : decode cL_law 27 = .ok (.iload_n 3, 1) := by decide +kernel
theorem dL_law_28 : decode cL_law 28 = .ok (.iaload, 1) := by decide +kernel
theorem dL_law_29 : decode cL_law 29 = .ok (.bipush 15, 2) := by decide +kernel
theorem dL_law_31 : decode cL_law 31 = .ok (.iand, 1) := by decide +kernel
theorem dL_law_32 : decode cL_law 32 = .ok (.tableswitch 330 0 8 #[52, 105, 128, 181, 204, 217, 250, 284, 307], 52) := by decide +kernel
theorem dL_law_84 : decode cL_law 84 = .ok (.aload_n 1, 1) := by decide +kernel
theorem dL_law_85 : decode cL_law 85 = .ok (.aload_n 0, 1) := by decide +kernel
theorem dL_law_86 : decode cL_law 86 = .ok (.iload_n 3, 1) := by decide +kernel
theorem dL_law_87 : decode cL_law 87 = .ok (.iconst 1, 1) := by decide +kernel
theorem dL_law_88 : decode cL_law 88 = .ok (.iadd, 1) := by decide +kernel
theorem dL_law_89 : decode cL_law 89 = .ok (.iaload, 1) := by decide +kernel
theorem dL_law_90 : decode cL_law 90 = .ok (.aload_n 0, 1) := by decide +kernel
theorem dL_law_91 : decode cL_law 91 = .ok (.iload_n 3, 1) := by decide +kernel
theorem dL_law_92 : decode cL_law 92 = .ok (.iconst 2, 1) := by decide +kernel
theorem dL_law_93 : decode cL_law 93 = .ok (.iadd, 1) := by decide +kernel
theorem dL_law_94 : decode cL_law 94 = .ok (.iaload, 1) := by decide +kernel
theorem dL_law_95 : decode cL_law 95 = .ok (.aload_n 0, 1) := by decide +kernel
theorem dL_law_96 : decode cL_law 96 = .ok (.iload_n 3, 1) := by decide +kernel
theorem dL_law_97 : decode cL_law 97 = .ok (.iconst 3, 1) := by decide +kernel
theorem dL_law_98 : decode cL_law 98 = .ok (.iadd, 1) := by decide +kernel
theorem dL_law_99 : decode cL_law 99 = .ok (.iaload, 1) := by decide +kernel
theorem dL_law_100 : decode cL_law 100 = .ok (.aload_n 0, 1) := by decide +kernel
theorem dL_law_101 : decode cL_law 101 = .ok (.iload_n 3, 1) := by decide +kernel
theorem dL_law_102 : decode cL_law 102 = .ok (.iconst 4, 1) := by decide +kernel
theorem dL_law_103 : decode cL_law 103 = .ok (.iadd, 1) := by decide +kernel
theorem dL_law_104 : decode cL_law 104 = .ok (.iaload, 1) := by decide +kernel
theorem dL_law_105 : decode cL_law 105 = .ok (.invokevirtual 13, 3) := by decide +kernel
theorem dL_law_108 : decode cL_law 108 = .ok (.aload_n 2, 1) := by decide +kernel
theorem dL_law_109 : decode cL_law 109 = .ok (.aload_n 0, 1) := by decide +kernel
theorem dL_law_110 : decode cL_law 110 = .ok (.iload_n 3, 1) := by decide +kernel
theorem dL_law_111 : decode cL_law 111 = .ok (.iconst 1, 1) := by decide +kernel
theorem dL_law_112 : decode cL_law 112 = .ok (.iadd, 1) := by decide +kernel
theorem dL_law_113 : decode cL_law 113 = .ok (.iaload, 1) := by decide +kernel
theorem dL_law_114 : decode cL_law 114 = .ok (.aload_n 0, 1) := by decide +kernel
theorem dL_law_115 : decode cL_law 115 = .ok (.iload_n 3, 1) := by decide +kernel
theorem dL_law_116 : decode cL_law 116 = .ok (.iconst 2, 1) := by decide +kernel
theorem dL_law_117 : decode cL_law 117 = .ok (.iadd, 1) := by decide +kernel
theorem dL_law_118 : decode cL_law 118 = .ok (.iaload, 1) := by decide +kernel
theorem dL_law_119 : decode cL_law 119 = .ok (.aload_n 0, 1) := by decide +kernel
theorem dL_law_120 : decode cL_law 120 = .ok (.iload_n 3, 1) := by decide +kernel
theorem dL_law_121 : decode cL_law 121 = .ok (.iconst 3, 1) := by decide +kernel
theorem dL_law_122 : decode cL_law 122 = .ok (.iadd, 1) := by decide +kernel
theorem dL_law_123 : decode cL_law 123 = .ok (.iaload, 1) := by decide +kernel
theorem dL_law_124 : decode cL_law 124 = .ok (.aload_n 0, 1) := by decide +kernel
theorem dL_law_125 : decode cL_law 125 = .ok (.iload_n 3, 1) := by decide +kernel
theorem dL_law_126 : decode cL_law 126 = .ok (.iconst 4, 1) := by decide +kernel
theorem dL_law_127 : decode cL_law 127 = .ok (.iadd, 1) := by decide +kernel
theorem dL_law_128 : decode cL_law 128 = .ok (.iaload, 1) := by decide +kernel
theorem dL_law_129 : decode cL_law 129 = .ok (.invokevirtual 17, 3) := by decide +kernel
theorem dL_law_132 : decode cL_law 132 = .ok (.if_icmp .eq 230, 3) := by decide +kernel
theorem dL_law_135 : decode cL_law 135 = .ok (.iconst 0, 1) := by decide +kernel
theorem dL_law_136 : decode cL_law 136 = .ok (.ireturn, 1) := by decide +kernel
theorem dL_law_137 : decode cL_law 137 = .ok (.aload_n 1, 1) := by decide +kernel
theorem dL_law_138 : decode cL_law 138 = .ok (.aload_n 0, 1) := by decide +kernel
theorem dL_law_139 : decode cL_law 139 = .ok (.iload_n 3, 1) := by decide +kernel
theorem dL_law_140 : decode cL_law 140 = .ok (.iconst 1, 1) := by decide +kernel
theorem dL_law_141 : decode cL_law 141 = .ok (.iadd, 1) := by decide +kernel
theorem dL_law_142 : decode cL_law 142 = .ok (.iaload, 1) := by decide +kernel
theorem dL_law_143 : decode cL_law 143 = .ok (.invokevirtual 18, 3) := by decide +kernel
theorem dL_law_146 : decode cL_law 146 = .ok (.aload_n 2, 1) := by decide +kernel
theorem dL_law_147 : decode cL_law 147 = .ok (.aload_n 0, 1) := by decide +kernel
theorem dL_law_148 : decode cL_law 148 = .ok (.iload_n 3, 1) := by decide +kernel
theorem dL_law_149 : decode cL_law 149 = .ok (.iconst 1, 1) := by decide +kernel
theorem dL_law_150 : decode cL_law 150 = .ok (.iadd, 1) := by decide +kernel
theorem dL_law_151 : decode cL_law 151 = .ok (.iaload, 1) := by decide +kernel
theorem dL_law_152 : decode cL_law 152 = .ok (.invokevirtual 22, 3) := by decide +kernel
theorem dL_law_155 : decode cL_law 155 = .ok (.if_icmp .eq 207, 3) := by decide +kernel
theorem dL_law_158 : decode cL_law 158 = .ok (.iconst 0, 1) := by decide +kernel
theorem dL_law_159 : decode cL_law 159 = .ok (.ireturn, 1) := by decide +kernel
theorem dL_law_160 : decode cL_law 160 = .ok (.aload_n 1, 1) := by decide +kernel
theorem dL_law_161 : decode cL_law 161 = .ok (.aload_n 0, 1) := by decide +kernel
theorem dL_law_162 : decode cL_law 162 = .ok (.iload_n 3, 1) := by decide +kernel
theorem dL_law_163 : decode cL_law 163 = .ok (.iconst 1, 1) := by decide +kernel
theorem dL_law_164 : decode cL_law 164 = .ok (.iadd, 1) := by decide +kernel
theorem dL_law_165 : decode cL_law 165 = .ok (.iaload, 1) := by decide +kernel
theorem dL_law_166 : decode cL_law 166 = .ok (.aload_n 0, 1) := by decide +kernel
theorem dL_law_167 : decode cL_law 167 = .ok (.iload_n 3, 1) := by decide +kernel
theorem dL_law_168 : decode cL_law 168 = .ok (.iconst 2, 1) := by decide +kernel
theorem dL_law_169 : decode cL_law 169 = .ok (.iadd, 1) := by decide +kernel
theorem dL_law_170 : decode cL_law 170 = .ok (.iaload, 1) := by decide +kernel
theorem dL_law_171 : decode cL_law 171 = .ok (.aload_n 0, 1) := by decide +kernel
theorem dL_law_172 : decode cL_law 172 = .ok (.iload_n 3, 1) := by decide +kernel
theorem dL_law_173 : decode cL_law 173 = .ok (.iconst 3, 1) := by decide +kernel
theorem dL_law_174 : decode cL_law 174 = .ok (.iadd, 1) := by decide +kernel
theorem dL_law_175 : decode cL_law 175 = .ok (.iaload, 1) := by decide +kernel
theorem dL_law_176 : decode cL_law 176 = .ok (.aload_n 0, 1) := by decide +kernel
theorem dL_law_177 : decode cL_law 177 = .ok (.iload_n 3, 1) := by decide +kernel
theorem dL_law_178 : decode cL_law 178 = .ok (.iconst 4, 1) := by decide +kernel
theorem dL_law_179 : decode cL_law 179 = .ok (.iadd, 1) := by decide +kernel
theorem dL_law_180 : decode cL_law 180 = .ok (.iaload, 1) := by decide +kernel
theorem dL_law_181 : decode cL_law 181 = .ok (.invokevirtual 23, 3) := by decide +kernel
theorem dL_law_184 : decode cL_law 184 = .ok (.aload_n 2, 1) := by decide +kernel
theorem dL_law_185 : decode cL_law 185 = .ok (.aload_n 0, 1) := by decide +kernel
theorem dL_law_186 : decode cL_law 186 = .ok (.iload_n 3, 1) := by decide +kernel
theorem dL_law_187 : decode cL_law 187 = .ok (.iconst 1, 1) := by decide +kernel
theorem dL_law_188 : decode cL_law 188 = .ok (.iadd, 1) := by decide +kernel
theorem dL_law_189 : decode cL_law 189 = .ok (.iaload, 1) := by decide +kernel
theorem dL_law_190 : decode cL_law 190 = .ok (.aload_n 0, 1) := by decide +kernel
theorem dL_law_191 : decode cL_law 191 = .ok (.iload_n 3, 1) := by decide +kernel
theorem dL_law_192 : decode cL_law 192 = .ok (.iconst 2, 1) := by decide +kernel
theorem dL_law_193 : decode cL_law 193 = .ok (.iadd, 1) := by decide +kernel
theorem dL_law_194 : decode cL_law 194 = .ok (.iaload, 1) := by decide +kernel
theorem dL_law_195 : decode cL_law 195 = .ok (.aload_n 0, 1) := by decide +kernel
theorem dL_law_196 : decode cL_law 196 = .ok (.iload_n 3, 1) := by decide +kernel
theorem dL_law_197 : decode cL_law 197 = .ok (.iconst 3, 1) := by decide +kernel
theorem dL_law_198 : decode cL_law 198 = .ok (.iadd, 1) := by decide +kernel
theorem dL_law_199 : decode cL_law 199 = .ok (.iaload, 1) := by decide +kernel
theorem dL_law_200 : decode cL_law 200 = .ok (.aload_n 0, 1) := by decide +kernel
theorem dL_law_201 : decode cL_law 201 = .ok (.iload_n 3, 1) := by decide +kernel
theorem dL_law_202 : decode cL_law 202 = .ok (.iconst 4, 1) := by decide +kernel
theorem dL_law_203 : decode cL_law 203 = .ok (.iadd, 1) := by decide +kernel
theorem dL_law_204 : decode cL_law 204 = .ok (.iaload, 1) := by decide +kernel
theorem dL_law_205 : decode cL_law 205 = .ok (.invokevirtual 26, 3) := by decide +kernel
theorem dL_law_208 : decode cL_law 208 = .ok (.if_icmp .eq 154, 3) := by decide +kernel
theorem dL_law_211 : decode cL_law 211 = .ok (.iconst 0, 1) := by decide +kernel
theorem dL_law_212 : decode cL_law 212 = .ok (.ireturn, 1) := by decide +kernel
theorem dL_law_213 : decode cL_law 213 = .ok (.aload_n 1, 1) := by decide +kernel
theorem dL_law_214 : decode cL_law 214 = .ok (.aload_n 0, 1) := by decide +kernel
theorem dL_law_215 : decode cL_law 215 = .ok (.iload_n 3, 1) := by decide +kernel
theorem dL_law_216 : decode cL_law 216 = .ok (.iconst 1, 1) := by decide +kernel
theorem dL_law_217 : decode cL_law 217 = .ok (.iadd, 1) := by decide +kernel
theorem dL_law_218 : decode cL_law 218 = .ok (.iaload, 1) := by decide +kernel
theorem dL_law_219 : decode cL_law 219 = .ok (.invokevirtual 27, 3) := by decide +kernel
theorem dL_law_222 : decode cL_law 222 = .ok (.aload_n 2, 1) := by decide +kernel
theorem dL_law_223 : decode cL_law 223 = .ok (.aload_n 0, 1) := by decide +kernel
theorem dL_law_224 : decode cL_law 224 = .ok (.iload_n 3, 1) := by decide +kernel
theorem dL_law_225 : decode cL_law 225 = .ok (.iconst 1, 1) := by decide +kernel
theorem dL_law_226 : decode cL_law 226 = .ok (.iadd, 1) := by decide +kernel
theorem dL_law_227 : decode cL_law 227 = .ok (.iaload, 1) := by decide +kernel
theorem dL_law_228 : decode cL_law 228 = .ok (.invokevirtual 31, 3) := by decide +kernel
theorem dL_law_231 : decode cL_law 231 = .ok (.if_icmp .eq 131, 3) := by decide +kernel
theorem dL_law_234 : decode cL_law 234 = .ok (.iconst 0, 1) := by decide +kernel
theorem dL_law_235 : decode cL_law 235 = .ok (.ireturn, 1) := by decide +kernel
theorem dL_law_236 : decode cL_law 236 = .ok (.aload_n 1, 1) := by decide +kernel
theorem dL_law_237 : decode cL_law 237 = .ok (.invokevirtual 32, 3) := by decide +kernel
theorem dL_law_240 : decode cL_law 240 = .ok (.aload_n 2, 1) := by decide +kernel
theorem dL_law_241 : decode cL_law 241 = .ok (.invokevirtual 36, 3) := by decide +kernel
theorem dL_law_244 : decode cL_law 244 = .ok (.if_icmp .eq 118, 3) := by decide +kernel
theorem dL_law_247 : decode cL_law 247 = .ok (.iconst 0, 1) := by decide +kernel
theorem dL_law_248 : decode cL_law 248 = .ok (.ireturn, 1) := by decide +kernel
theorem dL_law_249 : decode cL_law 249 = .ok (.aload_n 1, 1) := by decide +kernel
theorem dL_law_250 : decode cL_law 250 = .ok (.aload_n 0, 1) := by decide +kernel
theorem dL_law_251 : decode cL_law 251 = .ok (.iload_n 3, 1) := by decide +kernel
theorem dL_law_252 : decode cL_law 252 = .ok (.iconst 1, 1) := by decide +kernel
theorem dL_law_253 : decode cL_law 253 = .ok (.iadd, 1) := by decide +kernel
theorem dL_law_254 : decode cL_law 254 = .ok (.iaload, 1) := by decide +kernel
theorem dL_law_255 : decode cL_law 255 = .ok (.aload_n 0, 1) := by decide +kernel
theorem dL_law_256 : decode cL_law 256 = .ok (.iload_n 3, 1) := by decide +kernel
theorem dL_law_257 : decode cL_law 257 = .ok (.iconst 2, 1) := by decide +kernel
theorem dL_law_258 : decode cL_law 258 = .ok (.iadd, 1) := by decide +kernel
theorem dL_law_259 : decode cL_law 259 = .ok (.iaload, 1) := by decide +kernel
theorem dL_law_260 : decode cL_law 260 = .ok (.invokevirtual 37, 3) := by decide +kernel
theorem dL_law_263 : decode cL_law 263 = .ok (.aload_n 2, 1) := by decide +kernel
theorem dL_law_264 : decode cL_law 264 = .ok (.aload_n 0, 1) := by decide +kernel
theorem dL_law_265 : decode cL_law 265 = .ok (.iload_n 3, 1) := by decide +kernel
theorem dL_law_266 : decode cL_law 266 = .ok (.iconst 1, 1) := by decide +kernel
theorem dL_law_267 : decode cL_law 267 = .ok (.iadd, 1) := by decide +kernel
theorem dL_law_268 : decode cL_law 268 = .ok (.iaload, 1) := by decide +kernel
theorem dL_law_269 : decode cL_law 269 = .ok (.aload_n 0, 1) := by decide +kernel
theorem dL_law_270 : decode cL_law 270 = .ok (.iload_n 3, 1) := by decide +kernel
theorem dL_law_271 : decode cL_law 271 = .ok (.iconst 2, 1) := by decide +kernel
theorem dL_law_272 : decode cL_law 272 = .ok (.iadd, 1) := by decide +kernel
theorem dL_law_273 : decode cL_law 273 = .ok (.iaload, 1) := by decide +kernel
theorem dL_law_274 : decode cL_law 274 = .ok (.invokevirtual 41, 3) := by decide +kernel
theorem dL_law_277 : decode cL_law 277 = .ok (.if_icmp .eq 85, 3) := by decide +kernel
theorem dL_law_280 : decode cL_law 280 = .ok (.iconst 0, 1) := by decide +kernel
theorem dL_law_281 : decode cL_law 281 = .ok (.ireturn, 1) := by decide +kernel
theorem dL_law_282 : decode cL_law 282 = .ok (.aload_n 1, 1) := by decide +kernel
theorem dL_law_283 : decode cL_law 283 = .ok (.aload_n 0, 1) := by decide +kernel
theorem dL_law_284 : decode cL_law 284 = .ok (.iload_n 3, 1) := by decide +kernel
theorem dL_law_285 : decode cL_law 285 = .ok (.iconst 1, 1) := by decide +kernel
theorem dL_law_286 : decode cL_law 286 = .ok (.iadd, 1) := by decide +kernel
theorem dL_law_287 : decode cL_law 287 = .ok (.iaload, 1) := by decide +kernel
theorem dL_law_288 : decode cL_law 288 = .ok (.aload_n 0, 1) := by decide +kernel
theorem dL_law_289 : decode cL_law 289 = .ok (.iload_n 3, 1) := by decide +kernel
theorem dL_law_290 : decode cL_law 290 = .ok (.iconst 2, 1) := by decide +kernel
theorem dL_law_291 : decode cL_law 291 = .ok (.iadd, 1) := by decide +kernel
theorem dL_law_292 : decode cL_law 292 = .ok (.iaload, 1) := by decide +kernel
theorem dL_law_293 : decode cL_law 293 = .ok (.invokevirtual 42, 3) := by decide +kernel
theorem dL_law_296 : decode cL_law 296 = .ok (.aload_n 2, 1) := by decide +kernel
theorem dL_law_297 : decode cL_law 297 = .ok (.aload_n 0, 1) := by decide +kernel
theorem dL_law_298 : decode cL_law 298 = .ok (.iload_n 3, 1) := by decide +kernel
theorem dL_law_299 : decode cL_law 299 = .ok (.iconst 1, 1) := by decide +kernel
theorem dL_law_300 : decode cL_law 300 = .ok (.iadd, 1) := by decide +kernel
theorem dL_law_301 : decode cL_law 301 = .ok (.iaload, 1) := by decide +kernel
theorem dL_law_302 : decode cL_law 302 = .ok (.aload_n 0, 1) := by decide +kernel
theorem dL_law_303 : decode cL_law 303 = .ok (.iload_n 3, 1) := by decide +kernel
theorem dL_law_304 : decode cL_law 304 = .ok (.iconst 2, 1) := by decide +kernel
theorem dL_law_305 : decode cL_law 305 = .ok (.iadd, 1) := by decide +kernel
theorem dL_law_306 : decode cL_law 306 = .ok (.iaload, 1) := by decide +kernel
theorem dL_law_307 : decode cL_law 307 = .ok (.invokevirtual 46, 3) := by decide +kernel
theorem dL_law_310 : decode cL_law 310 = .ok (.lcmp, 1) := by decide +kernel
theorem dL_law_311 : decode cL_law 311 = .ok (.ifCond .eq 51, 3) := by decide +kernel
theorem dL_law_314 : decode cL_law 314 = .ok (.iconst 0, 1) := by decide +kernel
theorem dL_law_315 : decode cL_law 315 = .ok (.ireturn, 1) := by decide +kernel
theorem dL_law_316 : decode cL_law 316 = .ok (.aload_n 1, 1) := by decide +kernel
theorem dL_law_317 : decode cL_law 317 = .ok (.aload_n 0, 1) := by decide +kernel
theorem dL_law_318 : decode cL_law 318 = .ok (.iload_n 3, 1) := by decide +kernel
theorem dL_law_319 : decode cL_law 319 = .ok (.iconst 1, 1) := by decide +kernel
theorem dL_law_320 : decode cL_law 320 = .ok (.iadd, 1) := by decide +kernel
theorem dL_law_321 : decode cL_law 321 = .ok (.iaload, 1) := by decide +kernel
theorem dL_law_322 : decode cL_law 322 = .ok (.invokevirtual 47, 3) := by decide +kernel
theorem dL_law_325 : decode cL_law 325 = .ok (.aload_n 2, 1) := by decide +kernel
theorem dL_law_326 : decode cL_law 326 = .ok (.aload_n 0, 1) := by decide +kernel
theorem dL_law_327 : decode cL_law 327 = .ok (.iload_n 3, 1) := by decide +kernel
theorem dL_law_328 : decode cL_law 328 = .ok (.iconst 1, 1) := by decide +kernel
theorem dL_law_329 : decode cL_law 329 = .ok (.iadd, 1) := by decide +kernel
theorem dL_law_330 : decode cL_law 330 = .ok (.iaload, 1) := by decide +kernel
theorem dL_law_331 : decode cL_law 331 = .ok (.invokevirtual 50, 3) := by decide +kernel
theorem dL_law_334 : decode cL_law 334 = .ok (.if_icmp .eq 28, 3) := by decide +kernel
theorem dL_law_337 : decode cL_law 337 = .ok (.iconst 0, 1) := by decide +kernel
theorem dL_law_338 : decode cL_law 338 = .ok (.ireturn, 1) := by decide +kernel
theorem dL_law_339 : decode cL_law 339 = .ok (.aload_n 1, 1) := by decide +kernel
theorem dL_law_340 : decode cL_law 340 = .ok (.aload_n 0, 1) := by decide +kernel
theorem dL_law_341 : decode cL_law 341 = .ok (.iload_n 3, 1) := by decide +kernel
theorem dL_law_342 : decode cL_law 342 = .ok (.iconst 1, 1) := by decide +kernel
theorem dL_law_343 : decode cL_law 343 = .ok (.iadd, 1) := by decide +kernel
theorem dL_law_344 : decode cL_law 344 = .ok (.iaload, 1) := by decide +kernel
theorem dL_law_345 : decode cL_law 345 = .ok (.invokevirtual 51, 3) := by decide +kernel
theorem dL_law_348 : decode cL_law 348 = .ok (.aload_n 2, 1) := by decide +kernel
theorem dL_law_349 : decode cL_law 349 = .ok (.aload_n 0, 1) := by decide +kernel
theorem dL_law_350 : decode cL_law 350 = .ok (.iload_n 3, 1) := by decide +kernel
theorem dL_law_351 : decode cL_law 351 = .ok (.iconst 1, 1) := by decide +kernel
theorem dL_law_352 : decode cL_law 352 = .ok (.iadd, 1) := by decide +kernel
theorem dL_law_353 : decode cL_law 353 = .ok (.iaload, 1) := by decide +kernel
theorem dL_law_354 : decode cL_law 354 = .ok (.invokevirtual 54, 3) := by decide +kernel
theorem dL_law_357 : decode cL_law 357 = .ok (.if_icmp .eq 5, 3) := by decide +kernel
theorem dL_law_360 : decode cL_law 360 = .ok (.iconst 0, 1) := by decide +kernel
theorem dL_law_361 : decode cL_law 361 = .ok (.ireturn, 1) := by decide +kernel
theorem dL_law_362 : decode cL_law 362 = .ok (.iinc 3 5, 3) := by decide +kernel
theorem dL_law_365 : decode cL_law 365 = .ok (.goto (-347), 3) := by decide +kernel
theorem dL_law_368 : decode cL_law 368 = .ok (.iconst 1, 1) := by decide +kernel
theorem dL_law_369 : decode cL_law 369 = .ok (.ireturn, 1) := by decide +kernel
end
section
/-- the words that a callee keeps -/
def TB : List Cond := lw_tbl.filter goodWord
theorem tb_of {w : Cond} (i : Nat) (h : lw_tbl[i]? = some w) (g : goodWord w = true) : w ∈ TB := List.mem_filter.mpr ⟨List.mem_of_getElem? h, g⟩
theorem tb_good : GoodIn TB TB := fun _ h => ⟨h, good_of_word (List.mem_filter.mp h).2⟩
abbrev wq (y : MethodName) (c : ByteArray) (n : Nat) (r : Option FieldType) : List Cond := Cond.code y c n r :: TB
theorem tb_wq {y : MethodName} {c : ByteArray} {n : Nat} {r : Option FieldType} {c0 : Cond} (h : Cond.code y c n r ∈ TB) : GoodIn (c0 :: TB) (wq y c n r) := fun w hw => by
  rcases List.mem_cons.mp hw with e | e
  · subst e
    exact ⟨List.mem_cons_of_mem _ h, Or.inl rfl⟩
  · exact ⟨List.mem_cons_of_mem _ e, (tb_good w e).2⟩
theorem tb_V {y : MethodName} {c : ByteArray} {n idx : Nat} {r : Option FieldType} {c0 : Cond} {own C : String} (h : Cond.code y c n r ∈ TB) (h1 : Cond.methodLink own idx y ∈ TB) (h2 : Cond.instanceMethod y ∈ TB) (h3 : Cond.selects C y y ∈ TB) (h4 : Cond.initialized C ∈ TB) : GoodIn (c0 :: TB) (wsV own idx C y (wq y c n r)) := fun w hw => by
  rcases List.mem_append.mp hw with e | e
  · simp only [List.mem_cons, List.not_mem_nil, or_false] at e
    rcases e with e | e | e | e <;> subst e
    · exact ⟨List.mem_cons_of_mem _ h1, (tb_good _ h1).2⟩
    · exact ⟨List.mem_cons_of_mem _ h2, (tb_good _ h2).2⟩
    · exact ⟨List.mem_cons_of_mem _ h3, (tb_good _ h3).2⟩
    · exact ⟨List.mem_cons_of_mem _ h4, (tb_good _ h4).2⟩
  · exact tb_wq h w e
theorem tb_S {y : MethodName} {c : ByteArray} {n idx : Nat} {r : Option FieldType} {c0 : Cond} {own : String} (h : Cond.code y c n r ∈ TB) (h1 : Cond.methodLink own idx y ∈ TB) (h2 : Cond.static y ∈ TB) (h4 : Cond.initialized y.cls ∈ TB) : GoodIn (c0 :: TB) (va_wsS own idx y (wq y c n r)) := fun w hw => by
  rcases List.mem_append.mp hw with e | e
  · simp only [List.mem_cons, List.not_mem_nil, or_false] at e
    rcases e with e | e | e <;> subst e
    · exact ⟨List.mem_cons_of_mem _ h1, (tb_good _ h1).2⟩
    · exact ⟨List.mem_cons_of_mem _ h2, (tb_good _ h2).2⟩
    · exact ⟨List.mem_cons_of_mem _ h4, (tb_good _ h4).2⟩
  · exact tb_wq h w e
theorem tb_lay {C : String} {T : u_T} {N : Nat} (h : ∀ k, k < N → u_lay C T k ∈ TB) : ∀ w ∈ u_ws C T N, w ∈ TB := fun w hw => by
  obtain ⟨k, hk, rfl⟩ := List.mem_map.mp hw
  exact h k (List.mem_range.mp hk)
theorem tw_0 : Cond.selects RX9 yX9_begin yX9_begin ∈ TB := tb_of 0 (by decide +kernel) rfl
theorem tw_1 : Cond.selects RX9 yX9_rowAtRisk yX9_rowAtRisk ∈ TB := tb_of 1 (by decide +kernel) rfl
theorem tw_2 : Cond.selects RX0 yX0_splice yX0_splice ∈ TB := tb_of 2 (by decide +kernel) rfl
theorem tw_3 : Cond.selects RX0 yX0_howManyFit yX0_howManyFit ∈ TB := tb_of 3 (by decide +kernel) rfl
theorem tw_4 : Cond.selects RX0 yX0_turn yX0_turn ∈ TB := tb_of 4 (by decide +kernel) rfl
theorem tw_5 : Cond.selects RX0 yX0_open yX0_open ∈ TB := tb_of 5 (by decide +kernel) rfl
theorem tw_6 : Cond.selects RX0 yX0_refusalOfPlaces yX0_refusalOfPlaces ∈ TB := tb_of 6 (by decide +kernel) rfl
theorem tw_7 : Cond.selects RX5 yX5_empty yX5_empty ∈ TB := tb_of 7 (by decide +kernel) rfl
theorem tw_8 : Cond.selects RX0 yX0_shut yX0_shut ∈ TB := tb_of 8 (by decide +kernel) rfl
theorem tw_9 : Cond.selects RX0 yX0_make yX0_make ∈ TB := tb_of 9 (by decide +kernel) rfl
theorem tw_10 : Cond.selects RX0 yX0_twin yX0_twin ∈ TB := tb_of 10 (by decide +kernel) rfl
theorem tw_11 : Cond.selects RX0 yX0_swap yX0_swap ∈ TB := tb_of 11 (by decide +kernel) rfl
theorem tw_12 : Cond.selects RX0 yX0_hang yX0_hang ∈ TB := tb_of 12 (by decide +kernel) rfl
theorem tw_13 : Cond.selects RX0 yX0_pin yX0_pin ∈ TB := tb_of 13 (by decide +kernel) rfl
theorem tw_14 : Cond.selects RX0 yX0_seat yX0_seat ∈ TB := tb_of 14 (by decide +kernel) rfl
theorem tw_15 : Cond.selects RX0 yX0_lift yX0_lift ∈ TB := tb_of 15 (by decide +kernel) rfl
theorem tw_16 : Cond.selects RX8 yX8_isWhen yX8_isWhen ∈ TB := tb_of 16 (by decide +kernel) rfl
theorem tw_17 : Cond.selects RX10 yX10_begin yX10_begin ∈ TB := tb_of 17 (by decide +kernel) rfl
theorem tw_18 : Cond.selects RX10 yX10_rowOn yX10_rowOn ∈ TB := tb_of 18 (by decide +kernel) rfl
theorem tw_19 : Cond.selects RX10 yX10_does yX10_does ∈ TB := tb_of 19 (by decide +kernel) rfl
theorem tw_20 : Cond.selects RX10 yX10_splice yX10_splice ∈ TB := tb_of 20 (by decide +kernel) rfl
theorem tw_21 : Cond.selects RX10 yX10_canHave yX10_canHave ∈ TB := tb_of 21 (by decide +kernel) rfl
theorem tw_22 : Cond.selects RX10 yX10_turn yX10_turn ∈ TB := tb_of 22 (by decide +kernel) rfl
theorem tw_23 : Cond.selects RX10 yX10_open yX10_open ∈ TB := tb_of 23 (by decide +kernel) rfl
theorem tw_24 : Cond.selects RX10 yX10_makeOn yX10_makeOn ∈ TB := tb_of 24 (by decide +kernel) rfl
theorem tw_25 : Cond.selects RX10 yX10_roomFor yX10_roomFor ∈ TB := tb_of 25 (by decide +kernel) rfl
theorem tw_26 : Cond.selects RX10 yX10_make yX10_make ∈ TB := tb_of 26 (by decide +kernel) rfl
theorem tw_27 : Cond.selects RX10 yX10_hold yX10_hold ∈ TB := tb_of 27 (by decide +kernel) rfl
theorem tw_28 : Cond.selects RX10 yX10_twin yX10_twin ∈ TB := tb_of 28 (by decide +kernel) rfl
theorem tw_29 : Cond.selects RX10 yX10_swap yX10_swap ∈ TB := tb_of 29 (by decide +kernel) rfl
theorem tw_30 : Cond.selects RX10 yX10_hang yX10_hang ∈ TB := tb_of 30 (by decide +kernel) rfl
theorem tw_31 : Cond.selects RX10 yX10_pin yX10_pin ∈ TB := tb_of 31 (by decide +kernel) rfl
theorem tw_32 : Cond.selects RX10 yX10_seat yX10_seat ∈ TB := tb_of 32 (by decide +kernel) rfl
theorem tw_33 : Cond.selects RX10 yX10_lift yX10_lift ∈ TB := tb_of 33 (by decide +kernel) rfl
theorem tw_34 : Cond.selects RX10 yX10_write yX10_write ∈ TB := tb_of 34 (by decide +kernel) rfl
theorem tw_35 : Cond.selects RX10 yX10_again yX10_again ∈ TB := tb_of 35 (by decide +kernel) rfl
theorem tw_36 : Cond.selects RX10 yX10_behind yX10_behind ∈ TB := tb_of 36 (by decide +kernel) rfl
theorem tw_37 : Cond.selects RX10 yX10_first yX10_first ∈ TB := tb_of 37 (by decide +kernel) rfl
theorem tw_38 : Cond.initialized RL ∈ TB := tb_of 38 (by decide +kernel) rfl
theorem tw_39 : Cond.initialized RX9 ∈ TB := tb_of 39 (by decide +kernel) rfl
theorem tw_40 : Cond.initialized RX0 ∈ TB := tb_of 40 (by decide +kernel) rfl
theorem tw_41 : Cond.initialized RX6 ∈ TB := tb_of 41 (by decide +kernel) rfl
theorem tw_42 : Cond.initialized RX8 ∈ TB := tb_of 42 (by decide +kernel) rfl
theorem tw_43 : Cond.initialized RX1 ∈ TB := tb_of 43 (by decide +kernel) rfl
theorem tw_44 : Cond.initialized RX10 ∈ TB := tb_of 44 (by decide +kernel) rfl
theorem tw_45 : Cond.initialized RJ10 ∈ TB := tb_of 45 (by decide +kernel) rfl
theorem tw_46 : Cond.initialized RJ9 ∈ TB := tb_of 46 (by decide +kernel) rfl
theorem tw_47 : Cond.initialized RX7 ∈ TB := tb_of 47 (by decide +kernel) rfl
theorem tw_48 : Cond.initialized RX5 ∈ TB := tb_of 48 (by decide +kernel) rfl
theorem tw_49 : Cond.initialized RX2 ∈ TB := tb_of 49 (by decide +kernel) rfl
theorem tw_50 : Cond.initialized RX3 ∈ TB := tb_of 50 (by decide +kernel) rfl
theorem tw_51 : Cond.initialized RX4 ∈ TB := tb_of 51 (by decide +kernel) rfl
theorem tw_52 : Cond.initialized RJxf58ca ∈ TB := tb_of 52 (by decide +kernel) rfl
theorem tw_53 : Cond.initialized RJxe99ae ∈ TB := tb_of 53 (by decide +kernel) rfl
theorem tw_54 : Cond.classLink RL 7 RX9 ∈ TB := tb_of 54 (by decide +kernel) rfl
theorem tw_55 : Cond.instantiable RX9 9 ∈ TB := tb_of 55 (by decide +kernel) rfl
theorem tw_56 : Cond.methodLink RL 9 yX9_init ∈ TB := tb_of 56 (by decide +kernel) rfl
theorem tw_57 : Cond.instanceMethod yX9_init ∈ TB := tb_of 57 (by decide +kernel) rfl
set_option maxRecDepth 20000 in
theorem tw_58 : Cond.code yX9_init cX9_init 1 none ∈ TB := tb_of 58 rfl rfl
theorem tw_59 : Cond.methodLink RX9 3 objectInit ∈ TB := tb_of 59 (by decide +kernel) rfl
theorem tw_60 : Cond.instanceMethod objectInit ∈ TB := tb_of 60 (by decide +kernel) rfl
set_option maxRecDepth 20000 in
theorem tw_61 : Cond.code objectInit ⟨#[0xb1]⟩ 1 none ∈ TB := tb_of 61 rfl rfl
theorem tw_62 : Cond.classLink RX9 9 RX0 ∈ TB := tb_of 62 (by decide +kernel) rfl
theorem tw_63 : Cond.instantiable RX0 4 ∈ TB := tb_of 63 (by decide +kernel) rfl
theorem tw_65 : Cond.instanceMethod yX0_init ∈ TB := tb_of 65 (by decide +kernel) rfl
set_option maxRecDepth 20000 in
theorem tw_66 : Cond.code yX0_init cX0_init 1 none ∈ TB := tb_of 66 rfl rfl
theorem tw_67 : Cond.methodLink RX0 3 objectInit ∈ TB := tb_of 67 (by decide +kernel) rfl
theorem tw_68 : Cond.classLink RX0 9 RX7 ∈ TB := tb_of 68 (by decide +kernel) rfl
theorem tw_70 : Cond.classLink RX0 25 RX6 ∈ TB := tb_of 70 (by decide +kernel) rfl
theorem tw_71 : Cond.instantiable RX6 4 ∈ TB := tb_of 71 (by decide +kernel) rfl
theorem tw_73 : Cond.instanceMethod yX6_init ∈ TB := tb_of 73 (by decide +kernel) rfl
set_option maxRecDepth 20000 in
theorem tw_74 : Cond.code yX6_init cX6_init 1 none ∈ TB := tb_of 74 rfl rfl
theorem tw_75 : Cond.methodLink RX6 3 objectInit ∈ TB := tb_of 75 (by decide +kernel) rfl
theorem tw_76 : Cond.classLink RX6 9 RX3 ∈ TB := tb_of 76 (by decide +kernel) rfl
theorem tw_78 : Cond.fieldLink RX6 11 "PinBarrels$Stock" "figures" "[LPinBarrels$Figure;" ∈ TB := tb_of 78 (by decide +kernel) rfl
theorem tw_79 : Cond.fieldLink RX6 24 "PinBarrels$Stock" "figuresMade" "I" ∈ TB := tb_of 79 (by decide +kernel) rfl
theorem tw_81 : Cond.fieldLink RX6 17 "PinBarrels$Stock" "rowsMade" "I" ∈ TB := tb_of 81 (by decide +kernel) rfl
theorem tw_83 : Cond.fieldLink RX6 21 "PinBarrels$Stock" "cellsMade" "I" ∈ TB := tb_of 83 (by decide +kernel) rfl
theorem tw_94 : Cond.arrayClass .int ∈ TB := tb_of 94 (by decide +kernel) rfl
theorem tw_95 : Cond.arrayClass .long ∈ TB := tb_of 95 (by decide +kernel) rfl
theorem tw_96 : Cond.fieldLink RX0 11 "PinBarrels$Bench" "held" "[LPinBarrels$Thing;" ∈ TB := tb_of 96 (by decide +kernel) rfl
theorem tw_98 : Cond.fieldLink RX0 17 "PinBarrels$Bench" "marks" "[I" ∈ TB := tb_of 98 (by decide +kernel) rfl
theorem tw_100 : Cond.fieldLink RX0 21 "PinBarrels$Bench" "between" "[J" ∈ TB := tb_of 100 (by decide +kernel) rfl
theorem tw_101 : Cond.fieldLink RX0 28 "PinBarrels$Bench" "stock" "LPinBarrels$Stock;" ∈ TB := tb_of 101 (by decide +kernel) rfl
theorem tw_112 : Cond.classLink RX9 16 RX8 ∈ TB := tb_of 112 (by decide +kernel) rfl
theorem tw_113 : Cond.instantiable RX8 6 ∈ TB := tb_of 113 (by decide +kernel) rfl
theorem tw_115 : Cond.instanceMethod yX8_init ∈ TB := tb_of 115 (by decide +kernel) rfl
set_option maxRecDepth 20000 in
theorem tw_116 : Cond.code yX8_init cX8_init 1 none ∈ TB := tb_of 116 rfl rfl
theorem tw_117 : Cond.methodLink RX8 3 objectInit ∈ TB := tb_of 117 (by decide +kernel) rfl
theorem tw_118 : Cond.fieldLink RX8 9 "PinBarrels$Tune" "codes" "[I" ∈ TB := tb_of 118 (by decide +kernel) rfl
theorem tw_120 : Cond.fieldLink RX8 15 "PinBarrels$Tune" "as" "[I" ∈ TB := tb_of 120 (by decide +kernel) rfl
theorem tw_122 : Cond.fieldLink RX8 18 "PinBarrels$Tune" "bs" "[I" ∈ TB := tb_of 122 (by decide +kernel) rfl
theorem tw_124 : Cond.fieldLink RX8 21 "PinBarrels$Tune" "cs" "[I" ∈ TB := tb_of 124 (by decide +kernel) rfl
theorem tw_126 : Cond.fieldLink RX8 24 "PinBarrels$Tune" "timesAgain" "[I" ∈ TB := tb_of 126 (by decide +kernel) rfl
theorem tw_127 : Cond.fieldLink RX8 27 "PinBarrels$Tune" "length" "I" ∈ TB := tb_of 127 (by decide +kernel) rfl
theorem tw_142 : Cond.classLink RX9 23 RX1 ∈ TB := tb_of 142 (by decide +kernel) rfl
theorem tw_143 : Cond.instantiable RX1 4 ∈ TB := tb_of 143 (by decide +kernel) rfl
theorem tw_145 : Cond.instanceMethod yX1_init ∈ TB := tb_of 145 (by decide +kernel) rfl
set_option maxRecDepth 20000 in
theorem tw_146 : Cond.code yX1_init cX1_init 1 none ∈ TB := tb_of 146 rfl rfl
theorem tw_147 : Cond.methodLink RX1 3 objectInit ∈ TB := tb_of 147 (by decide +kernel) rfl
theorem tw_148 : Cond.classLink RX1 9 RX5 ∈ TB := tb_of 148 (by decide +kernel) rfl
theorem tw_150 : Cond.fieldLink RX1 11 "PinBarrels$Book" "rows" "[LPinBarrels$Row;" ∈ TB := tb_of 150 (by decide +kernel) rfl
theorem tw_151 : Cond.fieldLink RX1 17 "PinBarrels$Book" "pages" "[J" ∈ TB := tb_of 151 (by decide +kernel) rfl
theorem tw_152 : Cond.fieldLink RX1 34 "PinBarrels$Book" "kept" "I" ∈ TB := tb_of 152 (by decide +kernel) rfl
theorem tw_154 : Cond.fieldLink RX1 21 "PinBarrels$Book" "next" "I" ∈ TB := tb_of 154 (by decide +kernel) rfl
theorem tw_164 : Cond.fieldLink RX9 12 "PinBarrels" "bench" "LPinBarrels$Bench;" ∈ TB := tb_of 164 (by decide +kernel) rfl
theorem tw_165 : Cond.fieldLink RX9 19 "PinBarrels" "tune" "LPinBarrels$Tune;" ∈ TB := tb_of 165 (by decide +kernel) rfl
theorem tw_166 : Cond.fieldLink RX9 26 "PinBarrels" "book" "LPinBarrels$Book;" ∈ TB := tb_of 166 (by decide +kernel) rfl
theorem tw_167 : Cond.fieldLink RX9 30 "PinBarrels" "ahead" "[J" ∈ TB := tb_of 167 (by decide +kernel) rfl
theorem tw_168 : Cond.fieldLink RX9 49 "PinBarrels" "begun" "I" ∈ TB := tb_of 168 (by decide +kernel) rfl
theorem tw_169 : Cond.fieldLink RX9 148 "PinBarrels" "refusals" "I" ∈ TB := tb_of 169 (by decide +kernel) rfl
theorem tw_170 : Cond.fieldLink RX9 82 "PinBarrels" "metRefusals" "I" ∈ TB := tb_of 170 (by decide +kernel) rfl
theorem tw_171 : Cond.fieldLink RX9 58 "PinBarrels" "begunInRun" "I" ∈ TB := tb_of 171 (by decide +kernel) rfl
theorem tw_172 : Cond.fieldLink RX9 34 "PinBarrels" "enderOfRun" "I" ∈ TB := tb_of 172 (by decide +kernel) rfl
theorem tw_192 : Cond.methodLink RL 13 yX9_order ∈ TB := tb_of 192 (by decide +kernel) rfl
theorem tw_193 : Cond.instanceMethod yX9_order ∈ TB := tb_of 193 (by decide +kernel) rfl
theorem tw_194 : Cond.selects RX9 yX9_order yX9_order ∈ TB := tb_of 194 (by decide +kernel) rfl
set_option maxRecDepth 20000 in
theorem tw_195 : Cond.code yX9_order cX9_order 5 (some .int) ∈ TB := tb_of 195 rfl rfl
theorem tw_196 : Cond.methodLink RX9 38 yX9_isAsTold ∈ TB := tb_of 196 (by decide +kernel) rfl
theorem tw_197 : Cond.static yX9_isAsTold ∈ TB := tb_of 197 (by decide +kernel) rfl
set_option maxRecDepth 20000 in
theorem tw_198 : Cond.code yX9_isAsTold cX9_isAsTold 4 (some .boolean) ∈ TB := tb_of 198 rfl rfl
theorem tw_199 : Cond.methodLink RX9 89 yX9_isSpindle ∈ TB := tb_of 199 (by decide +kernel) rfl
theorem tw_200 : Cond.static yX9_isSpindle ∈ TB := tb_of 200 (by decide +kernel) rfl
set_option maxRecDepth 20000 in
theorem tw_201 : Cond.code yX9_isSpindle cX9_isSpindle 1 (some .boolean) ∈ TB := tb_of 201 rfl rfl
theorem tw_202 : Cond.methodLink RX9 151 yX9_isWithin ∈ TB := tb_of 202 (by decide +kernel) rfl
theorem tw_203 : Cond.static yX9_isWithin ∈ TB := tb_of 203 (by decide +kernel) rfl
set_option maxRecDepth 20000 in
theorem tw_204 : Cond.code yX9_isWithin cX9_isWithin 3 (some .boolean) ∈ TB := tb_of 204 rfl rfl
theorem tw_205 : Cond.methodLink RX9 45 yX8_append ∈ TB := tb_of 205 (by decide +kernel) rfl
theorem tw_206 : Cond.instanceMethod yX8_append ∈ TB := tb_of 206 (by decide +kernel) rfl
theorem tw_207 : Cond.selects RX8 yX8_append yX8_append ∈ TB := tb_of 207 (by decide +kernel) rfl
set_option maxRecDepth 20000 in
theorem tw_208 : Cond.code yX8_append cX8_append 6 (some .int) ∈ TB := tb_of 208 rfl rfl
theorem tw_209 : Cond.methodLink RL 18 yX9_cut ∈ TB := tb_of 209 (by decide +kernel) rfl
theorem tw_210 : Cond.instanceMethod yX9_cut ∈ TB := tb_of 210 (by decide +kernel) rfl
theorem tw_211 : Cond.selects RX9 yX9_cut yX9_cut ∈ TB := tb_of 211 (by decide +kernel) rfl
set_option maxRecDepth 20000 in
theorem tw_212 : Cond.code yX9_cut cX9_cut 2 (some .boolean) ∈ TB := tb_of 212 rfl rfl
theorem tw_213 : Cond.methodLink RL 23 yX9_act ∈ TB := tb_of 213 (by decide +kernel) rfl
theorem tw_214 : Cond.instanceMethod yX9_act ∈ TB := tb_of 214 (by decide +kernel) rfl
theorem tw_215 : Cond.selects RX9 yX9_act yX9_act ∈ TB := tb_of 215 (by decide +kernel) rfl
set_option maxRecDepth 20000 in
theorem tw_216 : Cond.code yX9_act cX9_act 5 (some .int) ∈ TB := tb_of 216 rfl rfl
theorem tw_217 : Cond.methodLink RX9 52 yX9_begin ∈ TB := tb_of 217 (by decide +kernel) rfl
theorem tw_219 : Cond.instanceMethod yX9_begin ∈ TB := tb_of 219 (by decide +kernel) rfl
set_option maxRecDepth 20000 in
theorem tw_220 : Cond.code yX9_begin cX9_begin 7 (some .int) ∈ TB := tb_of 220 rfl rfl
theorem tw_221 : Cond.methodLink RX9 155 yX9_rowAtRisk ∈ TB := tb_of 221 (by decide +kernel) rfl
theorem tw_223 : Cond.instanceMethod yX9_rowAtRisk ∈ TB := tb_of 223 (by decide +kernel) rfl
set_option maxRecDepth 20000 in
theorem tw_224 : Cond.code yX9_rowAtRisk cX9_rowAtRisk 7 (some (.object "PinBarrels$Row")) ∈ TB := tb_of 224 rfl rfl
theorem tw_225 : Cond.classLink RX9 113 RX5 ∈ TB := tb_of 225 (by decide +kernel) rfl
theorem tw_226 : Cond.methodLink RX9 159 yX5_copyTo ∈ TB := tb_of 226 (by decide +kernel) rfl
theorem tw_227 : Cond.instanceMethod yX5_copyTo ∈ TB := tb_of 227 (by decide +kernel) rfl
theorem tw_228 : Cond.selects RX5 yX5_copyTo yX5_copyTo ∈ TB := tb_of 228 (by decide +kernel) rfl
set_option maxRecDepth 20000 in
theorem tw_229 : Cond.code yX5_copyTo cX5_copyTo 2 none ∈ TB := tb_of 229 rfl rfl
theorem tw_230 : Cond.methodLink RX5 33 arraycopyName ∈ TB := tb_of 230 (by decide +kernel) rfl
theorem tw_231 : Cond.static arraycopyName ∈ TB := tb_of 231 (by decide +kernel) rfl
theorem tw_232 : Cond.native arraycopyName ∈ TB := tb_of 232 (by decide +kernel) rfl
theorem tw_233 : Cond.methodLink RX9 163 yX0_perform ∈ TB := tb_of 233 (by decide +kernel) rfl
theorem tw_234 : Cond.instanceMethod yX0_perform ∈ TB := tb_of 234 (by decide +kernel) rfl
theorem tw_235 : Cond.selects RX0 yX0_perform yX0_perform ∈ TB := tb_of 235 (by decide +kernel) rfl
set_option maxRecDepth 20000 in
theorem tw_236 : Cond.code yX0_perform cX0_perform 5 (some .int) ∈ TB := tb_of 236 rfl rfl
theorem tw_237 : Cond.methodLink RX0 32 yX0_splice ∈ TB := tb_of 237 (by decide +kernel) rfl
theorem tw_239 : Cond.instanceMethod yX0_splice ∈ TB := tb_of 239 (by decide +kernel) rfl
set_option maxRecDepth 20000 in
theorem tw_240 : Cond.code yX0_splice cX0_splice 7 (some .int) ∈ TB := tb_of 240 rfl rfl
theorem tw_241 : Cond.classLink RX0 67 RX5 ∈ TB := tb_of 241 (by decide +kernel) rfl
theorem tw_242 : Cond.methodLink RX0 69 yX5_isAlike ∈ TB := tb_of 242 (by decide +kernel) rfl
theorem tw_243 : Cond.instanceMethod yX5_isAlike ∈ TB := tb_of 243 (by decide +kernel) rfl
theorem tw_244 : Cond.selects RX5 yX5_isAlike yX5_isAlike ∈ TB := tb_of 244 (by decide +kernel) rfl
set_option maxRecDepth 20000 in
theorem tw_245 : Cond.code yX5_isAlike cX5_isAlike 2 (some .boolean) ∈ TB := tb_of 245 rfl rfl
theorem tw_246 : Cond.methodLink RX5 19 yX5_isOfFigures ∈ TB := tb_of 246 (by decide +kernel) rfl
theorem tw_247 : Cond.instanceMethod yX5_isOfFigures ∈ TB := tb_of 247 (by decide +kernel) rfl
theorem tw_248 : Cond.selects RX5 yX5_isOfFigures yX5_isOfFigures ∈ TB := tb_of 248 (by decide +kernel) rfl
set_option maxRecDepth 20000 in
theorem tw_249 : Cond.code yX5_isOfFigures cX5_isOfFigures 1 (some .boolean) ∈ TB := tb_of 249 rfl rfl
theorem tw_250 : Cond.methodLink RX0 73 yX5_hasPlaces ∈ TB := tb_of 250 (by decide +kernel) rfl
theorem tw_251 : Cond.instanceMethod yX5_hasPlaces ∈ TB := tb_of 251 (by decide +kernel) rfl
theorem tw_252 : Cond.selects RX5 yX5_hasPlaces yX5_hasPlaces ∈ TB := tb_of 252 (by decide +kernel) rfl
set_option maxRecDepth 20000 in
theorem tw_253 : Cond.code yX5_hasPlaces cX5_hasPlaces 3 (some .boolean) ∈ TB := tb_of 253 rfl rfl
theorem tw_254 : Cond.methodLink RX0 77 yX0_howManyFit ∈ TB := tb_of 254 (by decide +kernel) rfl
theorem tw_256 : Cond.instanceMethod yX0_howManyFit ∈ TB := tb_of 256 (by decide +kernel) rfl
set_option maxRecDepth 20000 in
theorem tw_257 : Cond.code yX0_howManyFit cX0_howManyFit 6 (some .int) ∈ TB := tb_of 257 rfl rfl
theorem tw_258 : Cond.methodLink RX0 90 yX5_isOfFigures ∈ TB := tb_of 258 (by decide +kernel) rfl
theorem tw_259 : Cond.methodLink RX0 94 yX6_sortOf ∈ TB := tb_of 259 (by decide +kernel) rfl
theorem tw_260 : Cond.instanceMethod yX6_sortOf ∈ TB := tb_of 260 (by decide +kernel) rfl
theorem tw_261 : Cond.selects RX6 yX6_sortOf yX6_sortOf ∈ TB := tb_of 261 (by decide +kernel) rfl
set_option maxRecDepth 20000 in
theorem tw_262 : Cond.code yX6_sortOf cX6_sortOf 4 (some .int) ∈ TB := tb_of 262 rfl rfl
theorem tw_263 : Cond.methodLink RX6 33 yX6_figureOf ∈ TB := tb_of 263 (by decide +kernel) rfl
theorem tw_264 : Cond.instanceMethod yX6_figureOf ∈ TB := tb_of 264 (by decide +kernel) rfl
theorem tw_265 : Cond.selects RX6 yX6_figureOf yX6_figureOf ∈ TB := tb_of 265 (by decide +kernel) rfl
set_option maxRecDepth 20000 in
theorem tw_266 : Cond.code yX6_figureOf cX6_figureOf 3 (some (.object "PinBarrels$Figure")) ∈ TB := tb_of 266 rfl rfl
theorem tw_267 : Cond.methodLink RX0 98 yX5_canHave ∈ TB := tb_of 267 (by decide +kernel) rfl
theorem tw_268 : Cond.instanceMethod yX5_canHave ∈ TB := tb_of 268 (by decide +kernel) rfl
theorem tw_269 : Cond.selects RX5 yX5_canHave yX5_canHave ∈ TB := tb_of 269 (by decide +kernel) rfl
set_option maxRecDepth 20000 in
theorem tw_270 : Cond.code yX5_canHave cX5_canHave 2 (some .boolean) ∈ TB := tb_of 270 rfl rfl
theorem tw_271 : Cond.methodLink RX0 84 arraycopyName ∈ TB := tb_of 271 (by decide +kernel) rfl
theorem tw_272 : Cond.methodLink RX0 36 yX0_turn ∈ TB := tb_of 272 (by decide +kernel) rfl
theorem tw_274 : Cond.instanceMethod yX0_turn ∈ TB := tb_of 274 (by decide +kernel) rfl
set_option maxRecDepth 20000 in
theorem tw_275 : Cond.code yX0_turn cX0_turn 5 (some .int) ∈ TB := tb_of 275 rfl rfl
theorem tw_276 : Cond.methodLink RX0 102 yX5_turn ∈ TB := tb_of 276 (by decide +kernel) rfl
theorem tw_277 : Cond.instanceMethod yX5_turn ∈ TB := tb_of 277 (by decide +kernel) rfl
theorem tw_278 : Cond.selects RX5 yX5_turn yX5_turn ∈ TB := tb_of 278 (by decide +kernel) rfl
set_option maxRecDepth 20000 in
theorem tw_279 : Cond.code yX5_turn cX5_turn 6 none ∈ TB := tb_of 279 rfl rfl
theorem tw_280 : Cond.methodLink RX5 23 yJ9_floorMod_7cf53 ∈ TB := tb_of 280 (by decide +kernel) rfl
theorem tw_281 : Cond.static yJ9_floorMod_7cf53 ∈ TB := tb_of 281 (by decide +kernel) rfl
set_option maxRecDepth 20000 in
theorem tw_282 : Cond.code yJ9_floorMod_7cf53 cJ9_floorMod_7cf53 3 (some .int) ∈ TB := tb_of 282 rfl rfl
theorem tw_283 : Cond.methodLink RX5 29 yX5_copyTo ∈ TB := tb_of 283 (by decide +kernel) rfl
theorem tw_284 : Cond.methodLink RX0 40 yX0_open ∈ TB := tb_of 284 (by decide +kernel) rfl
theorem tw_286 : Cond.instanceMethod yX0_open ∈ TB := tb_of 286 (by decide +kernel) rfl
set_option maxRecDepth 20000 in
theorem tw_287 : Cond.code yX0_open cX0_open 6 (some .int) ∈ TB := tb_of 287 rfl rfl
theorem tw_288 : Cond.methodLink RX0 105 yX0_refusalOfPlaces ∈ TB := tb_of 288 (by decide +kernel) rfl
theorem tw_290 : Cond.instanceMethod yX0_refusalOfPlaces ∈ TB := tb_of 290 (by decide +kernel) rfl
set_option maxRecDepth 20000 in
theorem tw_291 : Cond.code yX0_refusalOfPlaces cX0_refusalOfPlaces 5 (some .int) ∈ TB := tb_of 291 rfl rfl
theorem tw_292 : Cond.methodLink RX0 108 yX5_open ∈ TB := tb_of 292 (by decide +kernel) rfl
theorem tw_293 : Cond.instanceMethod yX5_open ∈ TB := tb_of 293 (by decide +kernel) rfl
theorem tw_294 : Cond.selects RX5 yX5_open yX5_open ∈ TB := tb_of 294 (by decide +kernel) rfl
set_option maxRecDepth 20000 in
theorem tw_295 : Cond.code yX5_open cX5_open 3 none ∈ TB := tb_of 295 rfl rfl
theorem tw_296 : Cond.methodLink RX5 39 yX5_empty ∈ TB := tb_of 296 (by decide +kernel) rfl
theorem tw_298 : Cond.instanceMethod yX5_empty ∈ TB := tb_of 298 (by decide +kernel) rfl
theorem tw_299 : Cond.instantiable RX5 2 ∈ TB := tb_of 299 (by decide +kernel) rfl
set_option maxRecDepth 20000 in
theorem tw_300 : Cond.code yX5_empty cX5_empty 4 none ∈ TB := tb_of 300 rfl rfl
theorem tw_301 : Cond.methodLink RX0 43 yX0_shut ∈ TB := tb_of 301 (by decide +kernel) rfl
theorem tw_303 : Cond.instanceMethod yX0_shut ∈ TB := tb_of 303 (by decide +kernel) rfl
set_option maxRecDepth 20000 in
theorem tw_304 : Cond.code yX0_shut cX0_shut 6 (some .int) ∈ TB := tb_of 304 rfl rfl
theorem tw_305 : Cond.methodLink RX0 111 yX5_shut ∈ TB := tb_of 305 (by decide +kernel) rfl
theorem tw_306 : Cond.instanceMethod yX5_shut ∈ TB := tb_of 306 (by decide +kernel) rfl
theorem tw_307 : Cond.selects RX5 yX5_shut yX5_shut ∈ TB := tb_of 307 (by decide +kernel) rfl
set_option maxRecDepth 20000 in
theorem tw_308 : Cond.code yX5_shut cX5_shut 3 none ∈ TB := tb_of 308 rfl rfl
theorem tw_309 : Cond.methodLink RX0 46 yX0_make ∈ TB := tb_of 309 (by decide +kernel) rfl
theorem tw_311 : Cond.instanceMethod yX0_make ∈ TB := tb_of 311 (by decide +kernel) rfl
set_option maxRecDepth 20000 in
theorem tw_312 : Cond.code yX0_make cX0_make 4 (some .int) ∈ TB := tb_of 312 rfl rfl
theorem tw_313 : Cond.methodLink RX0 113 yX6_hasRoomForRow ∈ TB := tb_of 313 (by decide +kernel) rfl
theorem tw_314 : Cond.instanceMethod yX6_hasRoomForRow ∈ TB := tb_of 314 (by decide +kernel) rfl
theorem tw_315 : Cond.selects RX6 yX6_hasRoomForRow yX6_hasRoomForRow ∈ TB := tb_of 315 (by decide +kernel) rfl
set_option maxRecDepth 20000 in
theorem tw_316 : Cond.code yX6_hasRoomForRow cX6_hasRoomForRow 2 (some .boolean) ∈ TB := tb_of 316 rfl rfl
theorem tw_317 : Cond.methodLink RX0 116 yX6_makeRow ∈ TB := tb_of 317 (by decide +kernel) rfl
theorem tw_318 : Cond.instanceMethod yX6_makeRow ∈ TB := tb_of 318 (by decide +kernel) rfl
theorem tw_319 : Cond.selects RX6 yX6_makeRow yX6_makeRow ∈ TB := tb_of 319 (by decide +kernel) rfl
set_option maxRecDepth 20000 in
theorem tw_320 : Cond.code yX6_makeRow cX6_makeRow 3 (some (.object "PinBarrels$Row")) ∈ TB := tb_of 320 rfl rfl
theorem tw_321 : Cond.classLink RX6 27 RX5 ∈ TB := tb_of 321 (by decide +kernel) rfl
theorem tw_322 : Cond.methodLink RX6 29 yX5_init ∈ TB := tb_of 322 (by decide +kernel) rfl
theorem tw_323 : Cond.instanceMethod yX5_init ∈ TB := tb_of 323 (by decide +kernel) rfl
set_option maxRecDepth 20000 in
theorem tw_324 : Cond.code yX5_init cX5_init 3 none ∈ TB := tb_of 324 rfl rfl
theorem tw_326 : Cond.instanceMethod yX7_init ∈ TB := tb_of 326 (by decide +kernel) rfl
set_option maxRecDepth 20000 in
theorem tw_327 : Cond.code yX7_init cX7_init 1 none ∈ TB := tb_of 327 rfl rfl
theorem tw_328 : Cond.methodLink RX7 1 objectInit ∈ TB := tb_of 328 (by decide +kernel) rfl
theorem tw_329 : Cond.fieldLink RX5 9 "PinBarrels$Row" "kind" "I" ∈ TB := tb_of 329 (by decide +kernel) rfl
theorem tw_331 : Cond.fieldLink RX5 15 "PinBarrels$Row" "cells" "[J" ∈ TB := tb_of 331 (by decide +kernel) rfl
theorem tw_340 : Cond.methodLink RX0 49 yX0_twin ∈ TB := tb_of 340 (by decide +kernel) rfl
theorem tw_342 : Cond.instanceMethod yX0_twin ∈ TB := tb_of 342 (by decide +kernel) rfl
set_option maxRecDepth 20000 in
theorem tw_343 : Cond.code yX0_twin cX0_twin 5 (some .int) ∈ TB := tb_of 343 rfl rfl
theorem tw_344 : Cond.methodLink RX0 124 yX5_copyTo ∈ TB := tb_of 344 (by decide +kernel) rfl
theorem tw_345 : Cond.methodLink RX0 52 yX0_swap ∈ TB := tb_of 345 (by decide +kernel) rfl
theorem tw_347 : Cond.instanceMethod yX0_swap ∈ TB := tb_of 347 (by decide +kernel) rfl
set_option maxRecDepth 20000 in
theorem tw_348 : Cond.code yX0_swap cX0_swap 4 (some .int) ∈ TB := tb_of 348 rfl rfl
theorem tw_349 : Cond.methodLink RX0 55 yX0_hang ∈ TB := tb_of 349 (by decide +kernel) rfl
theorem tw_351 : Cond.instanceMethod yX0_hang ∈ TB := tb_of 351 (by decide +kernel) rfl
set_option maxRecDepth 20000 in
theorem tw_352 : Cond.code yX0_hang cX0_hang 3 (some .int) ∈ TB := tb_of 352 rfl rfl
theorem tw_353 : Cond.classLink RX0 128 RX2 ∈ TB := tb_of 353 (by decide +kernel) rfl
theorem tw_354 : Cond.instantiable RX2 0 ∈ TB := tb_of 354 (by decide +kernel) rfl
theorem tw_356 : Cond.instanceMethod yX2_init ∈ TB := tb_of 356 (by decide +kernel) rfl
set_option maxRecDepth 20000 in
theorem tw_357 : Cond.code yX2_init cX2_init 1 none ∈ TB := tb_of 357 rfl rfl
theorem tw_360 : Cond.methodLink RX0 131 yX6_hasRoomForFigure ∈ TB := tb_of 360 (by decide +kernel) rfl
theorem tw_361 : Cond.instanceMethod yX6_hasRoomForFigure ∈ TB := tb_of 361 (by decide +kernel) rfl
theorem tw_362 : Cond.selects RX6 yX6_hasRoomForFigure yX6_hasRoomForFigure ∈ TB := tb_of 362 (by decide +kernel) rfl
set_option maxRecDepth 20000 in
theorem tw_363 : Cond.code yX6_hasRoomForFigure cX6_hasRoomForFigure 1 (some .boolean) ∈ TB := tb_of 363 rfl rfl
theorem tw_364 : Cond.methodLink RX0 134 yX6_makeFigure ∈ TB := tb_of 364 (by decide +kernel) rfl
theorem tw_365 : Cond.instanceMethod yX6_makeFigure ∈ TB := tb_of 365 (by decide +kernel) rfl
theorem tw_366 : Cond.selects RX6 yX6_makeFigure yX6_makeFigure ∈ TB := tb_of 366 (by decide +kernel) rfl
set_option maxRecDepth 20000 in
theorem tw_367 : Cond.code yX6_makeFigure cX6_makeFigure 3 (some (.object "PinBarrels$Figure")) ∈ TB := tb_of 367 rfl rfl
theorem tw_368 : Cond.instantiable RX3 2 ∈ TB := tb_of 368 (by decide +kernel) rfl
theorem tw_369 : Cond.methodLink RX6 32 yX3_init ∈ TB := tb_of 369 (by decide +kernel) rfl
theorem tw_370 : Cond.instanceMethod yX3_init ∈ TB := tb_of 370 (by decide +kernel) rfl
set_option maxRecDepth 20000 in
theorem tw_371 : Cond.code yX3_init cX3_init 3 none ∈ TB := tb_of 371 rfl rfl
theorem tw_373 : Cond.fieldLink RX3 9 "PinBarrels$Figure" "sort" "I" ∈ TB := tb_of 373 (by decide +kernel) rfl
theorem tw_376 : Cond.fieldLink RX3 15 "PinBarrels$Figure" "number" "I" ∈ TB := tb_of 376 (by decide +kernel) rfl
theorem tw_383 : Cond.methodLink RX0 58 yX0_pin ∈ TB := tb_of 383 (by decide +kernel) rfl
theorem tw_385 : Cond.instanceMethod yX0_pin ∈ TB := tb_of 385 (by decide +kernel) rfl
set_option maxRecDepth 20000 in
theorem tw_386 : Cond.code yX0_pin cX0_pin 5 (some .int) ∈ TB := tb_of 386 rfl rfl
theorem tw_387 : Cond.methodLink RX0 138 yX5_hasPlace ∈ TB := tb_of 387 (by decide +kernel) rfl
theorem tw_388 : Cond.instanceMethod yX5_hasPlace ∈ TB := tb_of 388 (by decide +kernel) rfl
theorem tw_389 : Cond.selects RX5 yX5_hasPlace yX5_hasPlace ∈ TB := tb_of 389 (by decide +kernel) rfl
set_option maxRecDepth 20000 in
theorem tw_390 : Cond.code yX5_hasPlace cX5_hasPlace 2 (some .boolean) ∈ TB := tb_of 390 rfl rfl
theorem tw_391 : Cond.methodLink RX0 141 yX4_cutToKind ∈ TB := tb_of 391 (by decide +kernel) rfl
theorem tw_392 : Cond.static yX4_cutToKind ∈ TB := tb_of 392 (by decide +kernel) rfl
set_option maxRecDepth 20000 in
theorem tw_393 : Cond.code yX4_cutToKind cX4_cutToKind 2 (some .long) ∈ TB := tb_of 393 rfl rfl
theorem tw_394 : Cond.methodLink RX4 9 yX4_floatBits ∈ TB := tb_of 394 (by decide +kernel) rfl
theorem tw_395 : Cond.static yX4_floatBits ∈ TB := tb_of 395 (by decide +kernel) rfl
set_option maxRecDepth 20000 in
theorem tw_396 : Cond.code yX4_floatBits cX4_floatBits 8 (some .int) ∈ TB := tb_of 396 rfl rfl
theorem tw_397 : Cond.methodLink RX4 19 yJ9_abs_067f4 ∈ TB := tb_of 397 (by decide +kernel) rfl
theorem tw_398 : Cond.static yJ9_abs_067f4 ∈ TB := tb_of 398 (by decide +kernel) rfl
set_option maxRecDepth 20000 in
theorem tw_399 : Cond.code yJ9_abs_067f4 cJ9_abs_067f4 2 (some .long) ∈ TB := tb_of 399 rfl rfl
theorem tw_400 : Cond.methodLink RX4 25 yX4_topBit ∈ TB := tb_of 400 (by decide +kernel) rfl
theorem tw_401 : Cond.static yX4_topBit ∈ TB := tb_of 401 (by decide +kernel) rfl
set_option maxRecDepth 20000 in
theorem tw_402 : Cond.code yX4_topBit cX4_topBit 4 (some .int) ∈ TB := tb_of 402 rfl rfl
theorem tw_403 : Cond.methodLink RX4 29 yX4_shiftedToNearest ∈ TB := tb_of 403 (by decide +kernel) rfl
theorem tw_404 : Cond.static yX4_shiftedToNearest ∈ TB := tb_of 404 (by decide +kernel) rfl
set_option maxRecDepth 20000 in
theorem tw_405 : Cond.code yX4_shiftedToNearest cX4_shiftedToNearest 10 (some .long) ∈ TB := tb_of 405 rfl rfl
theorem tw_406 : Cond.constantLong RX4 33 8388608 ∈ TB := tb_of 406 (by decide +kernel) rfl
theorem tw_407 : Cond.constantLong RX4 35 2147483648 ∈ TB := tb_of 407 (by decide +kernel) rfl
theorem tw_408 : Cond.methodLink RX4 15 yX4_doubleBits ∈ TB := tb_of 408 (by decide +kernel) rfl
theorem tw_409 : Cond.static yX4_doubleBits ∈ TB := tb_of 409 (by decide +kernel) rfl
set_option maxRecDepth 20000 in
theorem tw_410 : Cond.code yX4_doubleBits cX4_doubleBits 8 (some .long) ∈ TB := tb_of 410 rfl rfl
theorem tw_411 : Cond.constantLong RX4 37 1023 ∈ TB := tb_of 411 (by decide +kernel) rfl
theorem tw_412 : Cond.constantLong RX4 39 4503599627370496 ∈ TB := tb_of 412 (by decide +kernel) rfl
theorem tw_413 : Cond.constantLong RX4 41 (-9223372036854775808) ∈ TB := tb_of 413 (by decide +kernel) rfl
theorem tw_414 : Cond.methodLink RX0 61 yX0_seat ∈ TB := tb_of 414 (by decide +kernel) rfl
theorem tw_416 : Cond.instanceMethod yX0_seat ∈ TB := tb_of 416 (by decide +kernel) rfl
set_option maxRecDepth 20000 in
theorem tw_417 : Cond.code yX0_seat cX0_seat 7 (some .int) ∈ TB := tb_of 417 rfl rfl
theorem tw_418 : Cond.classLink RX0 147 RX3 ∈ TB := tb_of 418 (by decide +kernel) rfl
theorem tw_419 : Cond.methodLink RX0 64 yX0_lift ∈ TB := tb_of 419 (by decide +kernel) rfl
theorem tw_421 : Cond.instanceMethod yX0_lift ∈ TB := tb_of 421 (by decide +kernel) rfl
set_option maxRecDepth 20000 in
theorem tw_422 : Cond.code yX0_lift cX0_lift 5 (some .int) ∈ TB := tb_of 422 rfl rfl
theorem tw_423 : Cond.methodLink RX0 152 yX6_figureOf ∈ TB := tb_of 423 (by decide +kernel) rfl
theorem tw_424 : Cond.methodLink RX9 166 yX5_differsFrom ∈ TB := tb_of 424 (by decide +kernel) rfl
theorem tw_425 : Cond.instanceMethod yX5_differsFrom ∈ TB := tb_of 425 (by decide +kernel) rfl
theorem tw_426 : Cond.selects RX5 yX5_differsFrom yX5_differsFrom ∈ TB := tb_of 426 (by decide +kernel) rfl
set_option maxRecDepth 20000 in
theorem tw_427 : Cond.code yX5_differsFrom cX5_differsFrom 3 (some .boolean) ∈ TB := tb_of 427 rfl rfl
theorem tw_428 : Cond.methodLink RX9 170 yX1_write ∈ TB := tb_of 428 (by decide +kernel) rfl
theorem tw_429 : Cond.instanceMethod yX1_write ∈ TB := tb_of 429 (by decide +kernel) rfl
theorem tw_430 : Cond.selects RX1 yX1_write yX1_write ∈ TB := tb_of 430 (by decide +kernel) rfl
set_option maxRecDepth 20000 in
theorem tw_431 : Cond.code yX1_write cX1_write 3 none ∈ TB := tb_of 431 rfl rfl
theorem tw_432 : Cond.methodLink RX1 28 arraycopyName ∈ TB := tb_of 432 (by decide +kernel) rfl
theorem tw_433 : Cond.methodLink RX1 37 yJ9_min_7cf53 ∈ TB := tb_of 433 (by decide +kernel) rfl
theorem tw_434 : Cond.static yJ9_min_7cf53 ∈ TB := tb_of 434 (by decide +kernel) rfl
set_option maxRecDepth 20000 in
theorem tw_435 : Cond.code yJ9_min_7cf53 cJ9_min_7cf53 2 (some .int) ∈ TB := tb_of 435 rfl rfl
theorem tw_436 : Cond.methodLink RL 27 yX9_run ∈ TB := tb_of 436 (by decide +kernel) rfl
theorem tw_437 : Cond.instanceMethod yX9_run ∈ TB := tb_of 437 (by decide +kernel) rfl
theorem tw_438 : Cond.selects RX9 yX9_run yX9_run ∈ TB := tb_of 438 (by decide +kernel) rfl
set_option maxRecDepth 20000 in
theorem tw_439 : Cond.code yX9_run cX9_run 6 (some .int) ∈ TB := tb_of 439 rfl rfl
theorem tw_440 : Cond.methodLink RX9 55 yX8_forgetAgains ∈ TB := tb_of 440 (by decide +kernel) rfl
theorem tw_441 : Cond.instanceMethod yX8_forgetAgains ∈ TB := tb_of 441 (by decide +kernel) rfl
theorem tw_442 : Cond.selects RX8 yX8_forgetAgains yX8_forgetAgains ∈ TB := tb_of 442 (by decide +kernel) rfl
set_option maxRecDepth 20000 in
theorem tw_443 : Cond.code yX8_forgetAgains cX8_forgetAgains 2 none ∈ TB := tb_of 443 rfl rfl
theorem tw_444 : Cond.methodLink RX9 74 yX8_following ∈ TB := tb_of 444 (by decide +kernel) rfl
theorem tw_445 : Cond.instanceMethod yX8_following ∈ TB := tb_of 445 (by decide +kernel) rfl
theorem tw_446 : Cond.selects RX8 yX8_following yX8_following ∈ TB := tb_of 446 (by decide +kernel) rfl
set_option maxRecDepth 20000 in
theorem tw_447 : Cond.code yX8_following cX8_following 2 (some .int) ∈ TB := tb_of 447 rfl rfl
theorem tw_448 : Cond.methodLink RX8 31 yJ9_max_7cf53 ∈ TB := tb_of 448 (by decide +kernel) rfl
theorem tw_449 : Cond.static yJ9_max_7cf53 ∈ TB := tb_of 449 (by decide +kernel) rfl
set_option maxRecDepth 20000 in
theorem tw_450 : Cond.code yJ9_max_7cf53 cJ9_max_7cf53 2 (some .int) ∈ TB := tb_of 450 rfl rfl
theorem tw_451 : Cond.methodLink RX9 78 yX8_meeting ∈ TB := tb_of 451 (by decide +kernel) rfl
theorem tw_452 : Cond.instanceMethod yX8_meeting ∈ TB := tb_of 452 (by decide +kernel) rfl
theorem tw_453 : Cond.selects RX8 yX8_meeting yX8_meeting ∈ TB := tb_of 453 (by decide +kernel) rfl
set_option maxRecDepth 20000 in
theorem tw_454 : Cond.code yX8_meeting cX8_meeting 5 (some .int) ∈ TB := tb_of 454 rfl rfl
theorem tw_455 : Cond.methodLink RX8 37 yX8_isWhen ∈ TB := tb_of 455 (by decide +kernel) rfl
theorem tw_457 : Cond.instanceMethod yX8_isWhen ∈ TB := tb_of 457 (by decide +kernel) rfl
set_option maxRecDepth 20000 in
theorem tw_458 : Cond.code yX8_isWhen cX8_isWhen 2 (some .boolean) ∈ TB := tb_of 458 rfl rfl
theorem tw_459 : Cond.methodLink RL 32 yX9_back ∈ TB := tb_of 459 (by decide +kernel) rfl
theorem tw_460 : Cond.instanceMethod yX9_back ∈ TB := tb_of 460 (by decide +kernel) rfl
theorem tw_461 : Cond.selects RX9 yX9_back yX9_back ∈ TB := tb_of 461 (by decide +kernel) rfl
set_option maxRecDepth 20000 in
theorem tw_462 : Cond.code yX9_back cX9_back 1 (some .boolean) ∈ TB := tb_of 462 rfl rfl
theorem tw_463 : Cond.methodLink RX9 85 yX1_takeBack ∈ TB := tb_of 463 (by decide +kernel) rfl
theorem tw_464 : Cond.instanceMethod yX1_takeBack ∈ TB := tb_of 464 (by decide +kernel) rfl
theorem tw_465 : Cond.selects RX1 yX1_takeBack yX1_takeBack ∈ TB := tb_of 465 (by decide +kernel) rfl
set_option maxRecDepth 20000 in
theorem tw_466 : Cond.code yX1_takeBack cX1_takeBack 3 (some .boolean) ∈ TB := tb_of 466 rfl rfl
theorem tw_467 : Cond.methodLink RL 37 yX9_look ∈ TB := tb_of 467 (by decide +kernel) rfl
theorem tw_468 : Cond.instanceMethod yX9_look ∈ TB := tb_of 468 (by decide +kernel) rfl
theorem tw_469 : Cond.selects RX9 yX9_look yX9_look ∈ TB := tb_of 469 (by decide +kernel) rfl
set_option maxRecDepth 20000 in
theorem tw_470 : Cond.code yX9_look cX9_look 4 (some .int) ∈ TB := tb_of 470 rfl rfl
theorem tw_471 : Cond.methodLink RX9 97 ⟨"PinBarrels$Thing", "appearance", "()I"⟩ ∈ TB := tb_of 471 (by decide +kernel) rfl
theorem tw_473 : Cond.sameMethod "PinBarrels$Thing" "PinBarrels$Thing" "appearance" "()I" ∈ TB := tb_of 473 (by decide +kernel) rfl
theorem tw_474 : Cond.selects RX2 ⟨"PinBarrels$Thing", "appearance", "()I"⟩ yX2_appearance ∈ TB := tb_of 474 (by decide +kernel) rfl
theorem tw_475 : Cond.instanceMethod yX2_appearance ∈ TB := tb_of 475 (by decide +kernel) rfl
set_option maxRecDepth 20000 in
theorem tw_476 : Cond.code yX2_appearance cX2_appearance 1 (some .int) ∈ TB := tb_of 476 rfl rfl
theorem tw_477 : Cond.selects RX3 ⟨"PinBarrels$Thing", "appearance", "()I"⟩ yX3_appearance ∈ TB := tb_of 477 (by decide +kernel) rfl
theorem tw_478 : Cond.instanceMethod yX3_appearance ∈ TB := tb_of 478 (by decide +kernel) rfl
set_option maxRecDepth 20000 in
theorem tw_479 : Cond.code yX3_appearance cX3_appearance 1 (some .int) ∈ TB := tb_of 479 rfl rfl
theorem tw_480 : Cond.selects RX5 ⟨"PinBarrels$Thing", "appearance", "()I"⟩ yX5_appearance ∈ TB := tb_of 480 (by decide +kernel) rfl
theorem tw_481 : Cond.instanceMethod yX5_appearance ∈ TB := tb_of 481 (by decide +kernel) rfl
set_option maxRecDepth 20000 in
theorem tw_482 : Cond.code yX5_appearance cX5_appearance 1 (some .int) ∈ TB := tb_of 482 rfl rfl
theorem tw_483 : Cond.methodLink RX9 103 ⟨"PinBarrels$Thing", "measure", "()I"⟩ ∈ TB := tb_of 483 (by decide +kernel) rfl
theorem tw_485 : Cond.sameMethod "PinBarrels$Thing" "PinBarrels$Thing" "measure" "()I" ∈ TB := tb_of 485 (by decide +kernel) rfl
theorem tw_486 : Cond.selects RX2 ⟨"PinBarrels$Thing", "measure", "()I"⟩ yX2_measure ∈ TB := tb_of 486 (by decide +kernel) rfl
theorem tw_487 : Cond.instanceMethod yX2_measure ∈ TB := tb_of 487 (by decide +kernel) rfl
set_option maxRecDepth 20000 in
theorem tw_488 : Cond.code yX2_measure cX2_measure 1 (some .int) ∈ TB := tb_of 488 rfl rfl
theorem tw_489 : Cond.selects RX3 ⟨"PinBarrels$Thing", "measure", "()I"⟩ yX3_measure ∈ TB := tb_of 489 (by decide +kernel) rfl
theorem tw_490 : Cond.instanceMethod yX3_measure ∈ TB := tb_of 490 (by decide +kernel) rfl
set_option maxRecDepth 20000 in
theorem tw_491 : Cond.code yX3_measure cX3_measure 1 (some .int) ∈ TB := tb_of 491 rfl rfl
theorem tw_492 : Cond.selects RX5 ⟨"PinBarrels$Thing", "measure", "()I"⟩ yX5_measure ∈ TB := tb_of 492 (by decide +kernel) rfl
theorem tw_493 : Cond.instanceMethod yX5_measure ∈ TB := tb_of 493 (by decide +kernel) rfl
set_option maxRecDepth 20000 in
theorem tw_494 : Cond.code yX5_measure cX5_measure 1 (some .int) ∈ TB := tb_of 494 rfl rfl
theorem tw_495 : Cond.methodLink RX9 109 yX0_leastHolder ∈ TB := tb_of 495 (by decide +kernel) rfl
theorem tw_496 : Cond.instanceMethod yX0_leastHolder ∈ TB := tb_of 496 (by decide +kernel) rfl
theorem tw_497 : Cond.selects RX0 yX0_leastHolder yX0_leastHolder ∈ TB := tb_of 497 (by decide +kernel) rfl
set_option maxRecDepth 20000 in
theorem tw_498 : Cond.code yX0_leastHolder cX0_leastHolder 3 (some .int) ∈ TB := tb_of 498 rfl rfl
theorem tw_499 : Cond.methodLink RL 42 yX9_cell ∈ TB := tb_of 499 (by decide +kernel) rfl
theorem tw_500 : Cond.instanceMethod yX9_cell ∈ TB := tb_of 500 (by decide +kernel) rfl
theorem tw_501 : Cond.selects RX9 yX9_cell yX9_cell ∈ TB := tb_of 501 (by decide +kernel) rfl
set_option maxRecDepth 20000 in
theorem tw_502 : Cond.code yX9_cell cX9_cell 5 (some .long) ∈ TB := tb_of 502 rfl rfl
theorem tw_503 : Cond.methodLink RX9 115 yX5_hasPlace ∈ TB := tb_of 503 (by decide +kernel) rfl
theorem tw_504 : Cond.methodLink RL 47 yX9_sort ∈ TB := tb_of 504 (by decide +kernel) rfl
theorem tw_505 : Cond.instanceMethod yX9_sort ∈ TB := tb_of 505 (by decide +kernel) rfl
theorem tw_506 : Cond.selects RX9 yX9_sort yX9_sort ∈ TB := tb_of 506 (by decide +kernel) rfl
set_option maxRecDepth 20000 in
theorem tw_507 : Cond.code yX9_sort cX9_sort 3 (some .int) ∈ TB := tb_of 507 rfl rfl
theorem tw_508 : Cond.methodLink RX9 125 yX6_figureOf ∈ TB := tb_of 508 (by decide +kernel) rfl
theorem tw_509 : Cond.methodLink RL 51 yX9_count ∈ TB := tb_of 509 (by decide +kernel) rfl
theorem tw_510 : Cond.instanceMethod yX9_count ∈ TB := tb_of 510 (by decide +kernel) rfl
theorem tw_511 : Cond.selects RX9 yX9_count yX9_count ∈ TB := tb_of 511 (by decide +kernel) rfl
set_option maxRecDepth 20000 in
theorem tw_512 : Cond.code yX9_count cX9_count 2 (some .int) ∈ TB := tb_of 512 rfl rfl
theorem tw_513 : Cond.classLink RL 10 RX10 ∈ TB := tb_of 513 (by decide +kernel) rfl
theorem tw_514 : Cond.instantiable RX10 28 ∈ TB := tb_of 514 (by decide +kernel) rfl
theorem tw_515 : Cond.methodLink RL 12 yX10_init ∈ TB := tb_of 515 (by decide +kernel) rfl
theorem tw_516 : Cond.instanceMethod yX10_init ∈ TB := tb_of 516 (by decide +kernel) rfl
set_option maxRecDepth 20000 in
theorem tw_517 : Cond.code yX10_init cX10_init 1 none ∈ TB := tb_of 517 rfl rfl
theorem tw_518 : Cond.methodLink RX10 1 objectInit ∈ TB := tb_of 518 (by decide +kernel) rfl
theorem tw_519 : Cond.fieldLink RX10 77 "PinBarrelsModel" "rows" "I" ∈ TB := tb_of 519 (by decide +kernel) rfl
theorem tw_520 : Cond.fieldLink RX10 7 "PinBarrelsModel" "kinds" "[I" ∈ TB := tb_of 520 (by decide +kernel) rfl
theorem tw_521 : Cond.fieldLink RX10 13 "PinBarrelsModel" "lengths" "[I" ∈ TB := tb_of 521 (by decide +kernel) rfl
theorem tw_522 : Cond.fieldLink RX10 16 "PinBarrelsModel" "froms" "[I" ∈ TB := tb_of 522 (by decide +kernel) rfl
theorem tw_523 : Cond.fieldLink RX10 80 "PinBarrelsModel" "cells" "I" ∈ TB := tb_of 523 (by decide +kernel) rfl
theorem tw_524 : Cond.fieldLink RX10 19 "PinBarrelsModel" "values" "[J" ∈ TB := tb_of 524 (by decide +kernel) rfl
theorem tw_525 : Cond.fieldLink RX10 116 "PinBarrelsModel" "figures" "I" ∈ TB := tb_of 525 (by decide +kernel) rfl
theorem tw_526 : Cond.fieldLink RX10 23 "PinBarrelsModel" "sorts" "[I" ∈ TB := tb_of 526 (by decide +kernel) rfl
theorem tw_527 : Cond.fieldLink RX10 119 "PinBarrelsModel" "cranks" "I" ∈ TB := tb_of 527 (by decide +kernel) rfl
theorem tw_528 : Cond.fieldLink RX10 26 "PinBarrelsModel" "holds" "[I" ∈ TB := tb_of 528 (by decide +kernel) rfl
theorem tw_529 : Cond.fieldLink RX10 29 "PinBarrelsModel" "which" "[I" ∈ TB := tb_of 529 (by decide +kernel) rfl
theorem tw_530 : Cond.fieldLink RX10 32 "PinBarrelsModel" "marks" "[I" ∈ TB := tb_of 530 (by decide +kernel) rfl
theorem tw_531 : Cond.fieldLink RX10 70 "PinBarrelsModel" "orders" "I" ∈ TB := tb_of 531 (by decide +kernel) rfl
theorem tw_532 : Cond.fieldLink RX10 35 "PinBarrelsModel" "codes" "[I" ∈ TB := tb_of 532 (by decide +kernel) rfl
theorem tw_533 : Cond.fieldLink RX10 38 "PinBarrelsModel" "as" "[I" ∈ TB := tb_of 533 (by decide +kernel) rfl
theorem tw_534 : Cond.fieldLink RX10 41 "PinBarrelsModel" "bs" "[I" ∈ TB := tb_of 534 (by decide +kernel) rfl
theorem tw_535 : Cond.fieldLink RX10 44 "PinBarrelsModel" "cs" "[I" ∈ TB := tb_of 535 (by decide +kernel) rfl
theorem tw_536 : Cond.fieldLink RX10 47 "PinBarrelsModel" "gone" "[I" ∈ TB := tb_of 536 (by decide +kernel) rfl
theorem tw_537 : Cond.fieldLink RX10 173 "PinBarrelsModel" "kept" "I" ∈ TB := tb_of 537 (by decide +kernel) rfl
theorem tw_538 : Cond.fieldLink RX10 50 "PinBarrelsModel" "bookRows" "[I" ∈ TB := tb_of 538 (by decide +kernel) rfl
theorem tw_539 : Cond.fieldLink RX10 53 "PinBarrelsModel" "bookCells" "[J" ∈ TB := tb_of 539 (by decide +kernel) rfl
theorem tw_540 : Cond.fieldLink RX10 56 "PinBarrelsModel" "ahead" "[J" ∈ TB := tb_of 540 (by decide +kernel) rfl
theorem tw_541 : Cond.fieldLink RX10 59 "PinBarrelsModel" "between" "[J" ∈ TB := tb_of 541 (by decide +kernel) rfl
theorem tw_542 : Cond.fieldLink RX10 159 "PinBarrelsModel" "begun" "I" ∈ TB := tb_of 542 (by decide +kernel) rfl
theorem tw_543 : Cond.fieldLink RX10 170 "PinBarrelsModel" "refused" "I" ∈ TB := tb_of 543 (by decide +kernel) rfl
theorem tw_544 : Cond.fieldLink RX10 188 "PinBarrelsModel" "met" "I" ∈ TB := tb_of 544 (by decide +kernel) rfl
theorem tw_545 : Cond.fieldLink RX10 179 "PinBarrelsModel" "runBegun" "I" ∈ TB := tb_of 545 (by decide +kernel) rfl
theorem tw_546 : Cond.fieldLink RX10 62 "PinBarrelsModel" "endedBy" "I" ∈ TB := tb_of 546 (by decide +kernel) rfl
theorem tw_604 : Cond.methodLink RL 17 yX10_order ∈ TB := tb_of 604 (by decide +kernel) rfl
theorem tw_605 : Cond.instanceMethod yX10_order ∈ TB := tb_of 605 (by decide +kernel) rfl
theorem tw_606 : Cond.selects RX10 yX10_order yX10_order ∈ TB := tb_of 606 (by decide +kernel) rfl
set_option maxRecDepth 20000 in
theorem tw_607 : Cond.code yX10_order cX10_order 5 (some .int) ∈ TB := tb_of 607 rfl rfl
theorem tw_608 : Cond.methodLink RX10 73 yX10_isOrder ∈ TB := tb_of 608 (by decide +kernel) rfl
theorem tw_609 : Cond.static yX10_isOrder ∈ TB := tb_of 609 (by decide +kernel) rfl
set_option maxRecDepth 20000 in
theorem tw_610 : Cond.code yX10_isOrder cX10_isOrder 6 (some .boolean) ∈ TB := tb_of 610 rfl rfl
theorem tw_611 : Cond.methodLink RX10 66 yX10_in ∈ TB := tb_of 611 (by decide +kernel) rfl
theorem tw_612 : Cond.static yX10_in ∈ TB := tb_of 612 (by decide +kernel) rfl
set_option maxRecDepth 20000 in
theorem tw_613 : Cond.code yX10_in cX10_in 3 (some .boolean) ∈ TB := tb_of 613 rfl rfl
theorem tw_614 : Cond.methodLink RL 22 yX10_cut ∈ TB := tb_of 614 (by decide +kernel) rfl
theorem tw_615 : Cond.instanceMethod yX10_cut ∈ TB := tb_of 615 (by decide +kernel) rfl
theorem tw_616 : Cond.selects RX10 yX10_cut yX10_cut ∈ TB := tb_of 616 (by decide +kernel) rfl
set_option maxRecDepth 20000 in
theorem tw_617 : Cond.code yX10_cut cX10_cut 2 (some .boolean) ∈ TB := tb_of 617 rfl rfl
theorem tw_618 : Cond.methodLink RL 26 yX10_act ∈ TB := tb_of 618 (by decide +kernel) rfl
theorem tw_619 : Cond.instanceMethod yX10_act ∈ TB := tb_of 619 (by decide +kernel) rfl
theorem tw_620 : Cond.selects RX10 yX10_act yX10_act ∈ TB := tb_of 620 (by decide +kernel) rfl
set_option maxRecDepth 20000 in
theorem tw_621 : Cond.code yX10_act cX10_act 5 (some .int) ∈ TB := tb_of 621 rfl rfl
theorem tw_622 : Cond.methodLink RX10 176 yX10_begin ∈ TB := tb_of 622 (by decide +kernel) rfl
theorem tw_624 : Cond.instanceMethod yX10_begin ∈ TB := tb_of 624 (by decide +kernel) rfl
set_option maxRecDepth 20000 in
theorem tw_625 : Cond.code yX10_begin cX10_begin 9 (some .int) ∈ TB := tb_of 625 rfl rfl
theorem tw_626 : Cond.methodLink RX10 96 yX10_rowOn ∈ TB := tb_of 626 (by decide +kernel) rfl
theorem tw_628 : Cond.instanceMethod yX10_rowOn ∈ TB := tb_of 628 (by decide +kernel) rfl
set_option maxRecDepth 20000 in
theorem tw_629 : Cond.code yX10_rowOn cX10_rowOn 2 (some .int) ∈ TB := tb_of 629 rfl rfl
theorem tw_630 : Cond.methodLink RX10 162 yX10_does ∈ TB := tb_of 630 (by decide +kernel) rfl
theorem tw_632 : Cond.instanceMethod yX10_does ∈ TB := tb_of 632 (by decide +kernel) rfl
set_option maxRecDepth 20000 in
theorem tw_633 : Cond.code yX10_does cX10_does 5 (some .int) ∈ TB := tb_of 633 rfl rfl
theorem tw_634 : Cond.methodLink RX10 126 yX10_splice ∈ TB := tb_of 634 (by decide +kernel) rfl
theorem tw_636 : Cond.instanceMethod yX10_splice ∈ TB := tb_of 636 (by decide +kernel) rfl
set_option maxRecDepth 20000 in
theorem tw_637 : Cond.code yX10_splice cX10_splice 12 (some .int) ∈ TB := tb_of 637 rfl rfl
theorem tw_638 : Cond.methodLink RX10 100 yX10_canHave ∈ TB := tb_of 638 (by decide +kernel) rfl
theorem tw_640 : Cond.instanceMethod yX10_canHave ∈ TB := tb_of 640 (by decide +kernel) rfl
set_option maxRecDepth 20000 in
theorem tw_641 : Cond.code yX10_canHave cX10_canHave 4 (some .boolean) ∈ TB := tb_of 641 rfl rfl
theorem tw_642 : Cond.methodLink RX10 130 yX10_turn ∈ TB := tb_of 642 (by decide +kernel) rfl
theorem tw_644 : Cond.instanceMethod yX10_turn ∈ TB := tb_of 644 (by decide +kernel) rfl
set_option maxRecDepth 20000 in
theorem tw_645 : Cond.code yX10_turn cX10_turn 7 (some .int) ∈ TB := tb_of 645 rfl rfl
theorem tw_646 : Cond.methodLink RX10 133 yX10_open ∈ TB := tb_of 646 (by decide +kernel) rfl
theorem tw_648 : Cond.instanceMethod yX10_open ∈ TB := tb_of 648 (by decide +kernel) rfl
set_option maxRecDepth 20000 in
theorem tw_649 : Cond.code yX10_open cX10_open 10 (some .int) ∈ TB := tb_of 649 rfl rfl
theorem tw_650 : Cond.methodLink RX10 137 yX10_makeOn ∈ TB := tb_of 650 (by decide +kernel) rfl
theorem tw_652 : Cond.instanceMethod yX10_makeOn ∈ TB := tb_of 652 (by decide +kernel) rfl
set_option maxRecDepth 20000 in
theorem tw_653 : Cond.code yX10_makeOn cX10_makeOn 4 (some .int) ∈ TB := tb_of 653 rfl rfl
theorem tw_654 : Cond.methodLink RX10 104 yX10_roomFor ∈ TB := tb_of 654 (by decide +kernel) rfl
theorem tw_656 : Cond.instanceMethod yX10_roomFor ∈ TB := tb_of 656 (by decide +kernel) rfl
set_option maxRecDepth 20000 in
theorem tw_657 : Cond.code yX10_roomFor cX10_roomFor 2 (some .boolean) ∈ TB := tb_of 657 rfl rfl
theorem tw_658 : Cond.methodLink RX10 108 yX10_make ∈ TB := tb_of 658 (by decide +kernel) rfl
theorem tw_660 : Cond.instanceMethod yX10_make ∈ TB := tb_of 660 (by decide +kernel) rfl
set_option maxRecDepth 20000 in
theorem tw_661 : Cond.code yX10_make cX10_make 3 (some .int) ∈ TB := tb_of 661 rfl rfl
theorem tw_662 : Cond.methodLink RX10 112 yX10_hold ∈ TB := tb_of 662 (by decide +kernel) rfl
theorem tw_664 : Cond.instanceMethod yX10_hold ∈ TB := tb_of 664 (by decide +kernel) rfl
set_option maxRecDepth 20000 in
theorem tw_665 : Cond.code yX10_hold cX10_hold 4 none ∈ TB := tb_of 665 rfl rfl
theorem tw_666 : Cond.methodLink RX10 140 yX10_twin ∈ TB := tb_of 666 (by decide +kernel) rfl
theorem tw_668 : Cond.instanceMethod yX10_twin ∈ TB := tb_of 668 (by decide +kernel) rfl
set_option maxRecDepth 20000 in
theorem tw_669 : Cond.code yX10_twin cX10_twin 6 (some .int) ∈ TB := tb_of 669 rfl rfl
theorem tw_670 : Cond.methodLink RX10 143 yX10_swap ∈ TB := tb_of 670 (by decide +kernel) rfl
theorem tw_672 : Cond.instanceMethod yX10_swap ∈ TB := tb_of 672 (by decide +kernel) rfl
set_option maxRecDepth 20000 in
theorem tw_673 : Cond.code yX10_swap cX10_swap 5 none ∈ TB := tb_of 673 rfl rfl
theorem tw_674 : Cond.methodLink RX10 147 yX10_hang ∈ TB := tb_of 674 (by decide +kernel) rfl
theorem tw_676 : Cond.instanceMethod yX10_hang ∈ TB := tb_of 676 (by decide +kernel) rfl
set_option maxRecDepth 20000 in
theorem tw_677 : Cond.code yX10_hang cX10_hang 3 (some .int) ∈ TB := tb_of 677 rfl rfl
theorem tw_678 : Cond.methodLink RX10 150 yX10_pin ∈ TB := tb_of 678 (by decide +kernel) rfl
theorem tw_680 : Cond.instanceMethod yX10_pin ∈ TB := tb_of 680 (by decide +kernel) rfl
set_option maxRecDepth 20000 in
theorem tw_681 : Cond.code yX10_pin cX10_pin 4 (some .int) ∈ TB := tb_of 681 rfl rfl
theorem tw_682 : Cond.methodLink RX10 122 yX10_cutTo ∈ TB := tb_of 682 (by decide +kernel) rfl
theorem tw_683 : Cond.static yX10_cutTo ∈ TB := tb_of 683 (by decide +kernel) rfl
set_option maxRecDepth 20000 in
theorem tw_684 : Cond.code yX10_cutTo cX10_cutTo 2 (some .long) ∈ TB := tb_of 684 rfl rfl
theorem tw_685 : Cond.constant RX10 83 65535 ∈ TB := tb_of 685 (by decide +kernel) rfl
theorem tw_686 : Cond.methodLink RX10 84 yJxf58ca_floatToIntBits_5c35a ∈ TB := tb_of 686 (by decide +kernel) rfl
theorem tw_687 : Cond.static yJxf58ca_floatToIntBits_5c35a ∈ TB := tb_of 687 (by decide +kernel) rfl
set_option maxRecDepth 20000 in
theorem tw_688 : Cond.code yJxf58ca_floatToIntBits_5c35a cJxf58ca_floatToIntBits_5c35a 1 (some .int) ∈ TB := tb_of 688 rfl rfl
theorem tw_689 : Cond.methodLink RJxf58ca 59 yJxf58ca_isNaN_12338 ∈ TB := tb_of 689 (by decide +kernel) rfl
theorem tw_690 : Cond.static yJxf58ca_isNaN_12338 ∈ TB := tb_of 690 (by decide +kernel) rfl
set_option maxRecDepth 20000 in
theorem tw_691 : Cond.code yJxf58ca_isNaN_12338 cJxf58ca_isNaN_12338 1 (some .boolean) ∈ TB := tb_of 691 rfl rfl
theorem tw_692 : Cond.methodLink RJxf58ca 74 ⟨"java/lang/Float", "floatToRawIntBits", "(F)I"⟩ ∈ TB := tb_of 692 (by decide +kernel) rfl
theorem tw_693 : Cond.static ⟨"java/lang/Float", "floatToRawIntBits", "(F)I"⟩ ∈ TB := tb_of 693 (by decide +kernel) rfl
theorem tw_694 : Cond.native ⟨"java/lang/Float", "floatToRawIntBits", "(F)I"⟩ ∈ TB := tb_of 694 (by decide +kernel) rfl
theorem tw_695 : Cond.constant RJxf58ca 77 2143289344 ∈ TB := tb_of 695 (by decide +kernel) rfl
theorem tw_696 : Cond.methodLink RX10 90 yJxe99ae_doubleToLongBits_ccdee ∈ TB := tb_of 696 (by decide +kernel) rfl
theorem tw_697 : Cond.static yJxe99ae_doubleToLongBits_ccdee ∈ TB := tb_of 697 (by decide +kernel) rfl
set_option maxRecDepth 20000 in
theorem tw_698 : Cond.code yJxe99ae_doubleToLongBits_ccdee cJxe99ae_doubleToLongBits_ccdee 2 (some .long) ∈ TB := tb_of 698 rfl rfl
theorem tw_699 : Cond.methodLink RJxe99ae 122 yJxe99ae_isNaN_b9ae7 ∈ TB := tb_of 699 (by decide +kernel) rfl
theorem tw_700 : Cond.static yJxe99ae_isNaN_b9ae7 ∈ TB := tb_of 700 (by decide +kernel) rfl
set_option maxRecDepth 20000 in
theorem tw_701 : Cond.code yJxe99ae_isNaN_b9ae7 cJxe99ae_isNaN_b9ae7 2 (some .boolean) ∈ TB := tb_of 701 rfl rfl
theorem tw_702 : Cond.methodLink RJxe99ae 134 ⟨"java/lang/Double", "doubleToRawLongBits", "(D)J"⟩ ∈ TB := tb_of 702 (by decide +kernel) rfl
theorem tw_703 : Cond.static ⟨"java/lang/Double", "doubleToRawLongBits", "(D)J"⟩ ∈ TB := tb_of 703 (by decide +kernel) rfl
theorem tw_704 : Cond.native ⟨"java/lang/Double", "doubleToRawLongBits", "(D)J"⟩ ∈ TB := tb_of 704 (by decide +kernel) rfl
theorem tw_705 : Cond.constantLong RJxe99ae 137 9221120237041090560 ∈ TB := tb_of 705 (by decide +kernel) rfl
theorem tw_706 : Cond.methodLink RX10 153 yX10_seat ∈ TB := tb_of 706 (by decide +kernel) rfl
theorem tw_708 : Cond.instanceMethod yX10_seat ∈ TB := tb_of 708 (by decide +kernel) rfl
set_option maxRecDepth 20000 in
theorem tw_709 : Cond.code yX10_seat cX10_seat 5 (some .int) ∈ TB := tb_of 709 rfl rfl
theorem tw_710 : Cond.methodLink RX10 156 yX10_lift ∈ TB := tb_of 710 (by decide +kernel) rfl
theorem tw_712 : Cond.instanceMethod yX10_lift ∈ TB := tb_of 712 (by decide +kernel) rfl
set_option maxRecDepth 20000 in
theorem tw_713 : Cond.code yX10_lift cX10_lift 5 (some .int) ∈ TB := tb_of 713 rfl rfl
theorem tw_714 : Cond.methodLink RX10 166 yX10_write ∈ TB := tb_of 714 (by decide +kernel) rfl
theorem tw_716 : Cond.instanceMethod yX10_write ∈ TB := tb_of 716 (by decide +kernel) rfl
set_option maxRecDepth 20000 in
theorem tw_717 : Cond.code yX10_write cX10_write 3 none ∈ TB := tb_of 717 rfl rfl
theorem tw_718 : Cond.methodLink RL 31 yX10_run ∈ TB := tb_of 718 (by decide +kernel) rfl
theorem tw_719 : Cond.instanceMethod yX10_run ∈ TB := tb_of 719 (by decide +kernel) rfl
theorem tw_720 : Cond.selects RX10 yX10_run yX10_run ∈ TB := tb_of 720 (by decide +kernel) rfl
set_option maxRecDepth 20000 in
theorem tw_721 : Cond.code yX10_run cX10_run 5 (some .int) ∈ TB := tb_of 721 rfl rfl
theorem tw_722 : Cond.methodLink RX10 182 yX10_again ∈ TB := tb_of 722 (by decide +kernel) rfl
theorem tw_724 : Cond.instanceMethod yX10_again ∈ TB := tb_of 724 (by decide +kernel) rfl
set_option maxRecDepth 20000 in
theorem tw_725 : Cond.code yX10_again cX10_again 2 (some .int) ∈ TB := tb_of 725 rfl rfl
theorem tw_726 : Cond.methodLink RX10 185 yX10_behind ∈ TB := tb_of 726 (by decide +kernel) rfl
theorem tw_728 : Cond.instanceMethod yX10_behind ∈ TB := tb_of 728 (by decide +kernel) rfl
set_option maxRecDepth 20000 in
theorem tw_729 : Cond.code yX10_behind cX10_behind 4 (some .int) ∈ TB := tb_of 729 rfl rfl
theorem tw_730 : Cond.methodLink RL 36 yX10_back ∈ TB := tb_of 730 (by decide +kernel) rfl
theorem tw_731 : Cond.instanceMethod yX10_back ∈ TB := tb_of 731 (by decide +kernel) rfl
theorem tw_732 : Cond.selects RX10 yX10_back yX10_back ∈ TB := tb_of 732 (by decide +kernel) rfl
set_option maxRecDepth 20000 in
theorem tw_733 : Cond.code yX10_back cX10_back 3 (some .boolean) ∈ TB := tb_of 733 rfl rfl
theorem tw_734 : Cond.methodLink RL 41 yX10_look ∈ TB := tb_of 734 (by decide +kernel) rfl
theorem tw_735 : Cond.instanceMethod yX10_look ∈ TB := tb_of 735 (by decide +kernel) rfl
theorem tw_736 : Cond.selects RX10 yX10_look yX10_look ∈ TB := tb_of 736 (by decide +kernel) rfl
set_option maxRecDepth 20000 in
theorem tw_737 : Cond.code yX10_look cX10_look 3 (some .int) ∈ TB := tb_of 737 rfl rfl
theorem tw_738 : Cond.methodLink RX10 191 yX10_first ∈ TB := tb_of 738 (by decide +kernel) rfl
theorem tw_740 : Cond.instanceMethod yX10_first ∈ TB := tb_of 740 (by decide +kernel) rfl
set_option maxRecDepth 20000 in
theorem tw_741 : Cond.code yX10_first cX10_first 3 (some .int) ∈ TB := tb_of 741 rfl rfl
theorem tw_742 : Cond.methodLink RL 46 yX10_cell ∈ TB := tb_of 742 (by decide +kernel) rfl
theorem tw_743 : Cond.instanceMethod yX10_cell ∈ TB := tb_of 743 (by decide +kernel) rfl
theorem tw_744 : Cond.selects RX10 yX10_cell yX10_cell ∈ TB := tb_of 744 (by decide +kernel) rfl
set_option maxRecDepth 20000 in
theorem tw_745 : Cond.code yX10_cell cX10_cell 4 (some .long) ∈ TB := tb_of 745 rfl rfl
theorem tw_746 : Cond.methodLink RL 50 yX10_sort ∈ TB := tb_of 746 (by decide +kernel) rfl
theorem tw_747 : Cond.instanceMethod yX10_sort ∈ TB := tb_of 747 (by decide +kernel) rfl
theorem tw_748 : Cond.selects RX10 yX10_sort yX10_sort ∈ TB := tb_of 748 (by decide +kernel) rfl
set_option maxRecDepth 20000 in
theorem tw_749 : Cond.code yX10_sort cX10_sort 2 (some .int) ∈ TB := tb_of 749 rfl rfl
theorem tw_750 : Cond.methodLink RL 54 yX10_count ∈ TB := tb_of 750 (by decide +kernel) rfl
theorem tw_751 : Cond.instanceMethod yX10_count ∈ TB := tb_of 751 (by decide +kernel) rfl
theorem tw_752 : Cond.selects RX10 yX10_count yX10_count ∈ TB := tb_of 752 (by decide +kernel) rfl
set_option maxRecDepth 20000 in
theorem tw_753 : Cond.code yX10_count cX10_count 2 (some .int) ∈ TB := tb_of 753 rfl rfl
theorem tlX0 : ∀ w ∈ u_ws RX0 TX0 4, w ∈ TB := tb_lay (fun k hk => match k, hk with
  | 0, _ => tb_of 103 (by decide +kernel) rfl
  | 1, _ => tb_of 105 (by decide +kernel) rfl
  | 2, _ => tb_of 107 (by decide +kernel) rfl
  | 3, _ => tb_of 109 (by decide +kernel) rfl
  | k + 4, h => absurd h (by omega))
theorem tlX1 : ∀ w ∈ u_ws RX1 TX1 4, w ∈ TB := tb_lay (fun k hk => match k, hk with
  | 0, _ => tb_of 155 (by decide +kernel) rfl
  | 1, _ => tb_of 157 (by decide +kernel) rfl
  | 2, _ => tb_of 159 (by decide +kernel) rfl
  | 3, _ => tb_of 161 (by decide +kernel) rfl
  | k + 4, h => absurd h (by omega))
theorem tlX2 : ∀ w ∈ u_ws RX2 TX2 0, w ∈ TB := tb_lay (fun k hk => absurd hk (Nat.not_lt_zero k))
theorem tlX3 : ∀ w ∈ u_ws RX3 TX3 2, w ∈ TB := tb_lay (fun k hk => match k, hk with
  | 0, _ => tb_of 378 (by decide +kernel) rfl
  | 1, _ => tb_of 380 (by decide +kernel) rfl
  | k + 2, h => absurd h (by omega))
theorem tlX5 : ∀ w ∈ u_ws RX5 TX5 2, w ∈ TB := tb_lay (fun k hk => match k, hk with
  | 0, _ => tb_of 335 (by decide +kernel) rfl
  | 1, _ => tb_of 337 (by decide +kernel) rfl
  | k + 2, h => absurd h (by omega))
theorem tlX6 : ∀ w ∈ u_ws RX6 TX6 4, w ∈ TB := tb_lay (fun k hk => match k, hk with
  | 0, _ => tb_of 85 (by decide +kernel) rfl
  | 1, _ => tb_of 87 (by decide +kernel) rfl
  | 2, _ => tb_of 89 (by decide +kernel) rfl
  | 3, _ => tb_of 91 (by decide +kernel) rfl
  | k + 4, h => absurd h (by omega))
theorem tlX8 : ∀ w ∈ u_ws RX8 TX8 6, w ∈ TB := tb_lay (fun k hk => match k, hk with
  | 0, _ => tb_of 129 (by decide +kernel) rfl
  | 1, _ => tb_of 131 (by decide +kernel) rfl
  | 2, _ => tb_of 133 (by decide +kernel) rfl
  | 3, _ => tb_of 135 (by decide +kernel) rfl
  | 4, _ => tb_of 137 (by decide +kernel) rfl
  | 5, _ => tb_of 139 (by decide +kernel) rfl
  | k + 6, h => absurd h (by omega))
theorem tlX9 : ∀ w ∈ u_ws RX9 TX9 9, w ∈ TB := tb_lay (fun k hk => match k, hk with
  | 0, _ => tb_of 173 (by decide +kernel) rfl
  | 1, _ => tb_of 175 (by decide +kernel) rfl
  | 2, _ => tb_of 177 (by decide +kernel) rfl
  | 3, _ => tb_of 179 (by decide +kernel) rfl
  | 4, _ => tb_of 181 (by decide +kernel) rfl
  | 5, _ => tb_of 183 (by decide +kernel) rfl
  | 6, _ => tb_of 185 (by decide +kernel) rfl
  | 7, _ => tb_of 187 (by decide +kernel) rfl
  | 8, _ => tb_of 189 (by decide +kernel) rfl
  | k + 9, h => absurd h (by omega))
theorem tlX10 : ∀ w ∈ u_ws RX10 TX10 28, w ∈ TB := tb_lay (fun k hk => match k, hk with
  | 0, _ => tb_of 547 (by decide +kernel) rfl
  | 1, _ => tb_of 549 (by decide +kernel) rfl
  | 2, _ => tb_of 551 (by decide +kernel) rfl
  | 3, _ => tb_of 553 (by decide +kernel) rfl
  | 4, _ => tb_of 555 (by decide +kernel) rfl
  | 5, _ => tb_of 557 (by decide +kernel) rfl
  | 6, _ => tb_of 559 (by decide +kernel) rfl
  | 7, _ => tb_of 561 (by decide +kernel) rfl
  | 8, _ => tb_of 563 (by decide +kernel) rfl
  | 9, _ => tb_of 565 (by decide +kernel) rfl
  | 10, _ => tb_of 567 (by decide +kernel) rfl
  | 11, _ => tb_of 569 (by decide +kernel) rfl
  | 12, _ => tb_of 571 (by decide +kernel) rfl
  | 13, _ => tb_of 573 (by decide +kernel) rfl
  | 14, _ => tb_of 575 (by decide +kernel) rfl
  | 15, _ => tb_of 577 (by decide +kernel) rfl
  | 16, _ => tb_of 579 (by decide +kernel) rfl
  | 17, _ => tb_of 581 (by decide +kernel) rfl
  | 18, _ => tb_of 583 (by decide +kernel) rfl
  | 19, _ => tb_of 585 (by decide +kernel) rfl
  | 20, _ => tb_of 587 (by decide +kernel) rfl
  | 21, _ => tb_of 589 (by decide +kernel) rfl
  | 22, _ => tb_of 591 (by decide +kernel) rfl
  | 23, _ => tb_of 593 (by decide +kernel) rfl
  | 24, _ => tb_of 595 (by decide +kernel) rfl
  | 25, _ => tb_of 597 (by decide +kernel) rfl
  | 26, _ => tb_of 599 (by decide +kernel) rfl
  | 27, _ => tb_of 601 (by decide +kernel) rfl
  | k + 28, h => absurd h (by omega))
def xk_ng : List Cond := [Cond.methodLinkNest RX9 11 yX0_init "PinBarrels", Cond.methodLinkNest RX0 27 yX6_init "PinBarrels", Cond.fieldLinkNest RX9 142 "PinBarrels$Stock" "figuresMade" "I" "PinBarrels", Cond.fieldLinkNest RX9 136 "PinBarrels$Stock" "rowsMade" "I" "PinBarrels", Cond.fieldLinkNest RX9 139 "PinBarrels$Stock" "cellsMade" "I" "PinBarrels", Cond.fieldLinkNest RX9 93 "PinBarrels$Bench" "held" "[LPinBarrels$Thing;" "PinBarrels", Cond.fieldLinkNest RX9 106 "PinBarrels$Bench" "marks" "[I" "PinBarrels", Cond.fieldLinkNest RX9 121 "PinBarrels$Bench" "stock" "LPinBarrels$Stock;" "PinBarrels", Cond.methodLinkNest RX9 18 yX8_init "PinBarrels", Cond.fieldLinkNest RX9 61 "PinBarrels$Tune" "codes" "[I" "PinBarrels", Cond.fieldLinkNest RX9 65 "PinBarrels$Tune" "as" "[I" "PinBarrels", Cond.fieldLinkNest RX9 68 "PinBarrels$Tune" "bs" "[I" "PinBarrels", Cond.fieldLinkNest RX9 71 "PinBarrels$Tune" "cs" "[I" "PinBarrels", Cond.fieldLinkNest RX9 42 "PinBarrels$Tune" "length" "I" "PinBarrels", Cond.methodLinkNest RX9 25 yX1_init "PinBarrels", Cond.fieldLinkNest RX9 145 "PinBarrels$Book" "kept" "I" "PinBarrels", Cond.methodLinkNest RX5 3 yX7_init "PinBarrels", Cond.fieldLinkNest RX0 120 "PinBarrels$Row" "kind" "I" "PinBarrels", Cond.fieldLinkNest RX1 25 "PinBarrels$Row" "cells" "[J" "PinBarrels", Cond.fieldLinkNest RX0 81 "PinBarrels$Row" "cells" "[J" "PinBarrels", Cond.fieldLinkNest RX9 118 "PinBarrels$Row" "cells" "[J" "PinBarrels", Cond.methodLinkNest RX0 130 yX2_init "PinBarrels", Cond.methodLinkNest RX2 3 yX7_init "PinBarrels", Cond.methodLinkNest RX3 3 yX7_init "PinBarrels", Cond.fieldLinkNest RX6 37 "PinBarrels$Figure" "sort" "I" "PinBarrels", Cond.fieldLinkNest RX9 131 "PinBarrels$Figure" "sort" "I" "PinBarrels", Cond.fieldLinkNest RX0 149 "PinBarrels$Figure" "number" "I" "PinBarrels", Cond.declares ⟨"PinBarrels$Thing", "appearance", "()I"⟩, Cond.declares ⟨"PinBarrels$Thing", "measure", "()I"⟩, Cond.castable "PinBarrels$Row" "PinBarrels$Row", Cond.castable "PinBarrels$Figure" "PinBarrels$Figure", Cond.castable "PinBarrels$Crank" "PinBarrels$Thing", Cond.castable "PinBarrels$Figure" "PinBarrels$Thing", Cond.castable "PinBarrels$Row" "PinBarrels$Thing"]
theorem xk_ng_warm {s U : State} (hW : s.WarmedH U.vm) (h : ∀ w ∈ xk_ng, va_Nw w s) : ∀ w ∈ xk_ng, va_Nw w U := by
  intro w hw
  have h0 := h w hw
  simp only [xk_ng, List.mem_cons, List.not_mem_nil, or_false] at hw
  rcases hw with e | e | e | e | e | e | e | e | e | e | e | e | e | e | e | e | e | e | e | e | e | e | e | e | e | e | e | e | e | e | e | e | e | e <;> subst e
  · exact va_Nw.warmM hW h0
  · exact va_Nw.warmM hW h0
  · exact va_Nw.warmF hW h0
  · exact va_Nw.warmF hW h0
  · exact va_Nw.warmF hW h0
  · exact va_Nw.warmF hW h0
  · exact va_Nw.warmF hW h0
  · exact va_Nw.warmF hW h0
  · exact va_Nw.warmM hW h0
  · exact va_Nw.warmF hW h0
  · exact va_Nw.warmF hW h0
  · exact va_Nw.warmF hW h0
  · exact va_Nw.warmF hW h0
  · exact va_Nw.warmF hW h0
  · exact va_Nw.warmM hW h0
  · exact va_Nw.warmF hW h0
  · exact va_Nw.warmM hW h0
  · exact va_Nw.warmF hW h0
  · exact va_Nw.warmF hW h0
  · exact va_Nw.warmF hW h0
  · exact va_Nw.warmF hW h0
  · exact va_Nw.warmM hW h0
  · exact va_Nw.warmM hW h0
  · exact va_Nw.warmM hW h0
  · exact va_Nw.warmF hW h0
  · exact va_Nw.warmF hW h0
  · exact va_Nw.warmF hW h0
  · exact va_Nw.warmD hW h0
  · exact va_Nw.warmD hW h0
  · exact va_Nw.warmC hW h0
  · exact va_Nw.warmC hW h0
  · exact va_Nw.warmC hW h0
  · exact va_Nw.warmC hW h0
  · exact va_Nw.warmC hW h0
theorem xn_0 : Cond.methodLinkNest RX9 11 yX0_init "PinBarrels" ∈ xk_ng := List.mem_of_getElem? (i := 0) rfl
theorem xn_1 : Cond.methodLinkNest RX0 27 yX6_init "PinBarrels" ∈ xk_ng := List.mem_of_getElem? (i := 1) rfl
theorem xn_2 : Cond.fieldLinkNest RX9 142 "PinBarrels$Stock" "figuresMade" "I" "PinBarrels" ∈ xk_ng := List.mem_of_getElem? (i := 2) rfl
theorem xn_3 : Cond.fieldLinkNest RX9 136 "PinBarrels$Stock" "rowsMade" "I" "PinBarrels" ∈ xk_ng := List.mem_of_getElem? (i := 3) rfl
theorem xn_4 : Cond.fieldLinkNest RX9 139 "PinBarrels$Stock" "cellsMade" "I" "PinBarrels" ∈ xk_ng := List.mem_of_getElem? (i := 4) rfl
theorem xn_5 : Cond.fieldLinkNest RX9 93 "PinBarrels$Bench" "held" "[LPinBarrels$Thing;" "PinBarrels" ∈ xk_ng := List.mem_of_getElem? (i := 5) rfl
theorem xn_6 : Cond.fieldLinkNest RX9 106 "PinBarrels$Bench" "marks" "[I" "PinBarrels" ∈ xk_ng := List.mem_of_getElem? (i := 6) rfl
theorem xn_7 : Cond.fieldLinkNest RX9 121 "PinBarrels$Bench" "stock" "LPinBarrels$Stock;" "PinBarrels" ∈ xk_ng := List.mem_of_getElem? (i := 7) rfl
theorem xn_8 : Cond.methodLinkNest RX9 18 yX8_init "PinBarrels" ∈ xk_ng := List.mem_of_getElem? (i := 8) rfl
theorem xn_9 : Cond.fieldLinkNest RX9 61 "PinBarrels$Tune" "codes" "[I" "PinBarrels" ∈ xk_ng := List.mem_of_getElem? (i := 9) rfl
theorem xn_10 : Cond.fieldLinkNest RX9 65 "PinBarrels$Tune" "as" "[I" "PinBarrels" ∈ xk_ng := List.mem_of_getElem? (i := 10) rfl
theorem xn_11 : Cond.fieldLinkNest RX9 68 "PinBarrels$Tune" "bs" "[I" "PinBarrels" ∈ xk_ng := List.mem_of_getElem? (i := 11) rfl
theorem xn_12 : Cond.fieldLinkNest RX9 71 "PinBarrels$Tune" "cs" "[I" "PinBarrels" ∈ xk_ng := List.mem_of_getElem? (i := 12) rfl
theorem xn_13 : Cond.fieldLinkNest RX9 42 "PinBarrels$Tune" "length" "I" "PinBarrels" ∈ xk_ng := List.mem_of_getElem? (i := 13) rfl
theorem xn_14 : Cond.methodLinkNest RX9 25 yX1_init "PinBarrels" ∈ xk_ng := List.mem_of_getElem? (i := 14) rfl
theorem xn_15 : Cond.fieldLinkNest RX9 145 "PinBarrels$Book" "kept" "I" "PinBarrels" ∈ xk_ng := List.mem_of_getElem? (i := 15) rfl
theorem xn_16 : Cond.methodLinkNest RX5 3 yX7_init "PinBarrels" ∈ xk_ng := List.mem_of_getElem? (i := 16) rfl
theorem xn_17 : Cond.fieldLinkNest RX0 120 "PinBarrels$Row" "kind" "I" "PinBarrels" ∈ xk_ng := List.mem_of_getElem? (i := 17) rfl
theorem xn_18 : Cond.fieldLinkNest RX1 25 "PinBarrels$Row" "cells" "[J" "PinBarrels" ∈ xk_ng := List.mem_of_getElem? (i := 18) rfl
theorem xn_19 : Cond.fieldLinkNest RX0 81 "PinBarrels$Row" "cells" "[J" "PinBarrels" ∈ xk_ng := List.mem_of_getElem? (i := 19) rfl
theorem xn_20 : Cond.fieldLinkNest RX9 118 "PinBarrels$Row" "cells" "[J" "PinBarrels" ∈ xk_ng := List.mem_of_getElem? (i := 20) rfl
theorem xn_21 : Cond.methodLinkNest RX0 130 yX2_init "PinBarrels" ∈ xk_ng := List.mem_of_getElem? (i := 21) rfl
theorem xn_22 : Cond.methodLinkNest RX2 3 yX7_init "PinBarrels" ∈ xk_ng := List.mem_of_getElem? (i := 22) rfl
theorem xn_23 : Cond.methodLinkNest RX3 3 yX7_init "PinBarrels" ∈ xk_ng := List.mem_of_getElem? (i := 23) rfl
theorem xn_24 : Cond.fieldLinkNest RX6 37 "PinBarrels$Figure" "sort" "I" "PinBarrels" ∈ xk_ng := List.mem_of_getElem? (i := 24) rfl
theorem xn_25 : Cond.fieldLinkNest RX9 131 "PinBarrels$Figure" "sort" "I" "PinBarrels" ∈ xk_ng := List.mem_of_getElem? (i := 25) rfl
theorem xn_26 : Cond.fieldLinkNest RX0 149 "PinBarrels$Figure" "number" "I" "PinBarrels" ∈ xk_ng := List.mem_of_getElem? (i := 26) rfl
theorem xn_27 : Cond.declares ⟨"PinBarrels$Thing", "appearance", "()I"⟩ ∈ xk_ng := List.mem_of_getElem? (i := 27) rfl
theorem xn_28 : Cond.declares ⟨"PinBarrels$Thing", "measure", "()I"⟩ ∈ xk_ng := List.mem_of_getElem? (i := 28) rfl
theorem xn_29 : Cond.castable "PinBarrels$Row" "PinBarrels$Row" ∈ xk_ng := List.mem_of_getElem? (i := 29) rfl
theorem xn_30 : Cond.castable "PinBarrels$Figure" "PinBarrels$Figure" ∈ xk_ng := List.mem_of_getElem? (i := 30) rfl
theorem xn_31 : Cond.castable "PinBarrels$Crank" "PinBarrels$Thing" ∈ xk_ng := List.mem_of_getElem? (i := 31) rfl
theorem xn_32 : Cond.castable "PinBarrels$Figure" "PinBarrels$Thing" ∈ xk_ng := List.mem_of_getElem? (i := 32) rfl
theorem xn_33 : Cond.castable "PinBarrels$Row" "PinBarrels$Thing" ∈ xk_ng := List.mem_of_getElem? (i := 33) rfl
theorem xk_ng_all : ∀ w ∈ xk_ng, w ∈ lw_tbl := by
  intro w hw
  simp only [xk_ng, List.mem_cons, List.not_mem_nil, or_false] at hw
  rcases hw with e | e | e | e | e | e | e | e | e | e | e | e | e | e | e | e | e | e | e | e | e | e | e | e | e | e | e | e | e | e | e | e | e | e <;> subst e
  · exact List.mem_of_getElem? (i := 64) (by decide +kernel)
  · exact List.mem_of_getElem? (i := 72) (by decide +kernel)
  · exact List.mem_of_getElem? (i := 80) (by decide +kernel)
  · exact List.mem_of_getElem? (i := 82) (by decide +kernel)
  · exact List.mem_of_getElem? (i := 84) (by decide +kernel)
  · exact List.mem_of_getElem? (i := 97) (by decide +kernel)
  · exact List.mem_of_getElem? (i := 99) (by decide +kernel)
  · exact List.mem_of_getElem? (i := 102) (by decide +kernel)
  · exact List.mem_of_getElem? (i := 114) (by decide +kernel)
  · exact List.mem_of_getElem? (i := 119) (by decide +kernel)
  · exact List.mem_of_getElem? (i := 121) (by decide +kernel)
  · exact List.mem_of_getElem? (i := 123) (by decide +kernel)
  · exact List.mem_of_getElem? (i := 125) (by decide +kernel)
  · exact List.mem_of_getElem? (i := 128) (by decide +kernel)
  · exact List.mem_of_getElem? (i := 144) (by decide +kernel)
  · exact List.mem_of_getElem? (i := 153) (by decide +kernel)
  · exact List.mem_of_getElem? (i := 325) (by decide +kernel)
  · exact List.mem_of_getElem? (i := 330) (by decide +kernel)
  · exact List.mem_of_getElem? (i := 332) (by decide +kernel)
  · exact List.mem_of_getElem? (i := 333) (by decide +kernel)
  · exact List.mem_of_getElem? (i := 334) (by decide +kernel)
  · exact List.mem_of_getElem? (i := 355) (by decide +kernel)
  · exact List.mem_of_getElem? (i := 358) (by decide +kernel)
  · exact List.mem_of_getElem? (i := 372) (by decide +kernel)
  · exact List.mem_of_getElem? (i := 374) (by decide +kernel)
  · exact List.mem_of_getElem? (i := 375) (by decide +kernel)
  · exact List.mem_of_getElem? (i := 377) (by decide +kernel)
  · exact List.mem_of_getElem? (i := 472) (by decide +kernel)
  · exact List.mem_of_getElem? (i := 484) (by decide +kernel)
  · exact List.mem_of_getElem? (i := 754) (by decide +kernel)
  · exact List.mem_of_getElem? (i := 755) (by decide +kernel)
  · exact List.mem_of_getElem? (i := 756) (by decide +kernel)
  · exact List.mem_of_getElem? (i := 757) (by decide +kernel)
  · exact List.mem_of_getElem? (i := 758) (by decide +kernel)
end
section
/-! THE WORLD BY NUMBERS: every cell of both systems has a number (id); et : id → address; G : id → what the cell holds -/
abbrev xz_T : Type := va_G × (Nat → ClassId) × Nat × Heap
def ww (Z : xz_T) (et : Nat → Nat) (G : Nat → Option va_E) (H : Heap) : Prop :=
  (∀ (i : Nat) (e : va_E), G i = some e → Z.2.2.1 ≤ et i ∧ va_at Z.1 vwCl (et i, e) H) ∧ (∀ i j : Nat, G i ≠ none → G j ≠ none → et i = et j → i = j) ∧ Z.2.2.1 ≤ H.size ∧ ∀ q : Nat, q < Z.2.2.1 → H[q]? = Z.2.2.2[q]?
def xl (Z : xz_T) (locs : List Loc) : Prop := ∀ q ∈ locs, Z.2.2.1 ≤ q.base
theorem sn_ne {α : Type} {o : Option α} {a : α} (h : o = some a) : o ≠ none := fun q => by rw [q] at h; cases h
theorem ww.set {Z : xz_T} {et : Nat → Nat} {G : Nat → Option va_E} {H H1 : Heap} {i : Nat} {e0 e : va_E} (h : ww Z et G H) (hi : G i = some e0) (he : va_at Z.1 vwCl (et i, e) H1) (z : H1.size = H.size) (oq : ∀ q : Nat, q ≠ et i → H1[q]? = H[q]?) : ww Z et (va_up G i (some e)) H1 := by
  have dom : ∀ j, va_up G i (some e) j ≠ none → G j ≠ none := by
    intro j hj
    by_cases hji : j = i
    · subst hji; exact sn_ne hi
    · rw [va_up_ne _ _ hji] at hj; exact hj
  refine ⟨fun j e' hj => ?_, fun a b ha hb => h.2.1 a b (dom a ha) (dom b hb), by rw [z]; exact h.2.2.1, fun q hq => ?_⟩
  · by_cases hji : j = i
    · subst hji
      rw [va_up_self] at hj
      cases hj
      exact ⟨(h.1 j e0 hi).1, he⟩
    · rw [va_up_ne _ _ hji] at hj
      obtain ⟨h1, h2⟩ := h.1 j e' hj
      exact ⟨h1, h2.kept (oq _ fun hh => hji (h.2.1 j i (sn_ne hj) (sn_ne hi) hh))⟩
  · have h1 := (h.1 i e0 hi).1
    rw [oq q (by omega)]
    exact h.2.2.2 q hq
theorem ww.push {Z : xz_T} {et : Nat → Nat} {G : Nat → Option va_E} {H H1 : Heap} {i : Nat} {e : va_E} (h : ww Z et G H) (hi : G i = none) (he : va_at Z.1 vwCl (H.size, e) H1) (z : H1.size = H.size + 1) (oq : ∀ q : Nat, q < H.size → H1[q]? = H[q]?) : ww Z (va_up et i H.size) (va_up G i (some e)) H1 := by
  have key : ∀ j, va_up G i (some e) j ≠ none → (j = i ∧ va_up et i H.size j = H.size) ∨ (j ≠ i ∧ G j ≠ none ∧ va_up et i H.size j = et j ∧ et j < H.size) := by
    intro j hj
    by_cases hji : j = i
    · subst hji
      exact Or.inl ⟨rfl, va_up_self _ _ _⟩
    · rw [va_up_ne _ _ hji] at hj
      refine Or.inr ⟨hji, hj, va_up_ne _ _ hji, ?_⟩
      cases hg : G j with
      | none => exact absurd hg hj
      | some e' => exact (h.1 j e' hg).2.lt
  refine ⟨fun j e' hj => ?_, fun a b ha hb hab => ?_, by have := h.2.2.1; omega, fun q hq => ?_⟩
  · rcases key j (sn_ne hj) with ⟨h1, h2⟩ | ⟨h1, h2, h3, h4⟩
    · subst h1
      rw [va_up_self] at hj
      cases hj
      rw [h2]
      exact ⟨h.2.2.1, he⟩
    · rw [va_up_ne _ _ h1] at hj
      rw [h3]
      exact ⟨(h.1 j e' hj).1, (h.1 j e' hj).2.kept (oq _ h4)⟩
  · rcases key a ha with ⟨h1, h2⟩ | ⟨h1, h2, h3, h4⟩ <;> rcases key b hb with ⟨g1, g2⟩ | ⟨g1, g2, g3, g4⟩
    · rw [h1, g1]
    · rw [h2, g3] at hab; omega
    · rw [h3, g2] at hab; omega
    · rw [h3, g3] at hab; exact h.2.1 a b h2 g2 hab
  · have := h.2.2.1
    rw [oq q (by omega)]
    exact h.2.2.2 q hq
theorem ww.to {Z : xz_T} {et et' : Nat → Nat} {G G' : Nat → Option va_E} {H : Heap} (h : ww Z et G H) (hg : ∀ i e, G' i = some e → G i = some e) (he : ∀ i, G' i ≠ none → et' i = et i) : ww Z et' G' H := by
  have nn : ∀ i, G' i ≠ none → G i ≠ none := fun i hi => by
    cases hq : G' i with
    | none => exact absurd hq hi
    | some e => exact sn_ne (hg i e hq)
  refine ⟨fun i e hi => ?_, fun a b ha hb hab => ?_, h.2.2⟩
  · rw [he i (sn_ne hi)]
    exact h.1 i e (hg i e hi)
  · rw [he a ha, he b hb] at hab
    exact h.2.1 a b (nn a ha) (nn b hb) hab
theorem ww.P1 {Z : xz_T} {et : Nat → Nat} {G : Nat → Option va_E} {H : Heap} (h : ww Z et G H) {i : Nat} {e : va_E} (hi : G i = some e) : va_P Z.1 vwCl [(et i, e)] H := fun k q hk => by
  have hz : k < 1 := (List.getElem?_eq_some_iff.mp hk).1
  have h0 : k = 0 := by omega
  subst h0
  cases hk
  exact (h.1 i e hi).2
/-- what the tables say, kept from method to method -/
def xk (Z : xz_T) (U : State) : Prop := va_K Z.1 vwCl [(Z.2.1 0, .int), (Z.2.1 1, .long), (Z.2.1 2, .object RX7), (Z.2.1 3, .object RX3), (Z.2.1 4, .object RX5)] U ∧ (∀ w ∈ xk_ng, va_Nw w U) ∧ (va_AO RX7 U ∧ va_AO RX3 U ∧ va_AO RX5 U) ∧ va_Nc RX2 RX5 U ∧ va_Nc RX3 RX5 U ∧ va_Nc RX5 RX3 U ∧ va_Nc RX2 RX3 U
theorem xk.warm {Z : xz_T} {s U : State} (hW : s.WarmedH U.vm) (h : xk Z s) : xk Z U := ⟨va_K.moved hW.alike h.1, xk_ng_warm hW h.2.1, ⟨h.2.2.1.1.moved hW.alike, h.2.2.1.2.1.moved hW.alike, h.2.2.1.2.2.moved hW.alike⟩, h.2.2.2.1.moved hW.alike, h.2.2.2.2.1.moved hW.alike, h.2.2.2.2.2.1.moved hW.alike, h.2.2.2.2.2.2.moved hW.alike⟩
theorem xk.same {Z : xz_T} {s U : State} (hW : s.vm = U.vm) (h : xk Z s) : xk Z U := by
  have ha : s.vm.Alike U.vm := by rw [hW]; exact Vm.Alike.refl U.vm
  refine ⟨va_K.moved ha h.1, fun w hw => ?_, ⟨h.2.2.1.1.moved ha, h.2.2.1.2.1.moved ha, h.2.2.1.2.2.moved ha⟩, h.2.2.2.1.moved ha, h.2.2.2.2.1.moved ha, h.2.2.2.2.2.1.moved ha, h.2.2.2.2.2.2.moved ha⟩
  have h0 := h.2.1 w hw
  have ht : w.onTables = true := by
    simp only [xk_ng, List.mem_cons, List.not_mem_nil, or_false] at hw
    rcases hw with e | e | e | e | e | e | e | e | e | e | e | e | e | e | e | e | e | e | e | e | e | e | e | e | e | e | e | e | e | e | e | e | e | e <;> subst e <;> rfl
  exact va_Nw.same ht hW h0
/-! THE STORE: ints of objects, int rows, long rows, rows of references (by number), numbers (how many, how long) -/
abbrev xs_T : Type := (Nat → Nat → Int32) × (Nat → Nat → Int32) × (Nat → Nat → Int64) × (Nat → Nat → Option Nat) × (Nat → Nat)
def xF (S : xs_T) (i k : Nat) : Int32 := S.1 i k
def xI (S : xs_T) (i k : Nat) : Int32 := S.2.1 i k
def xL (S : xs_T) (i k : Nat) : Int64 := S.2.2.1 i k
def xQ (S : xs_T) (i k : Nat) : Option Nat := S.2.2.2.1 i k
def xN (S : xs_T) (i : Nat) : Nat := S.2.2.2.2 i
def sF (S : xs_T) (i k : Nat) (v : Int32) : xs_T := (va_up S.1 i (va_up (S.1 i) k v), S.2)
def sI (S : xs_T) (i k : Nat) (v : Int32) : xs_T := (S.1, va_up S.2.1 i (va_up (S.2.1 i) k v), S.2.2)
def sL (S : xs_T) (i k : Nat) (v : Int64) : xs_T := (S.1, S.2.1, va_up S.2.2.1 i (va_up (S.2.2.1 i) k v), S.2.2.2)
def tL (S : xs_T) (i : Nat) (f : Nat → Int64) : xs_T := (S.1, S.2.1, va_up S.2.2.1 i f, S.2.2.2)
def sQ (S : xs_T) (i k : Nat) (v : Option Nat) : xs_T := (S.1, S.2.1, S.2.2.1, va_up S.2.2.2.1 i (va_up (S.2.2.2.1 i) k v), S.2.2.2.2)
def sN (S : xs_T) (i v : Nat) : xs_T := (S.1, S.2.1, S.2.2.1, S.2.2.2.1, va_up S.2.2.2.2 i v)
abbrev ai (Z : xz_T) (n : Nat) (f : Nat → Int32) : Option va_E := some (.inl (Z.2.1 0, n, .inl f))
abbrev al (Z : xz_T) (n : Nat) (f : Nat → Int64) : Option va_E := some (.inl (Z.2.1 1, n, .inr (.inl f)))
abbrev aq (Z : xz_T) (c n : Nat) (f : Nat → Option Nat) : Option va_E := some (.inl (Z.2.1 c, n, .inr (.inr (.inr (.inr f)))))
def xEm (Z : xz_T) (et : Nat → Nat) (f ia : Nat → Int32) (la : Nat → Int64) (j : Nat) : Option va_E :=
  if j = 0 then some (.inr (8, [.int (f 0), .ref (et 1), .ref (et 2), .ref (et 3), .int (f 4), .ref (et 5), .int (f 6), .ref (et 7), .int (f 8), .ref (et 9), .ref (et 10), .ref (et 11), .int (f 12), .ref (et 13), .ref (et 14), .ref (et 15), .ref (et 16), .ref (et 17), .int (f 18), .ref (et 19), .ref (et 20), .ref (et 21), .ref (et 22), .int (f 23), .int (f 24), .int (f 25), .int (f 26), .int (f 27)]))
  else if j = 1 ∨ j = 2 ∨ j = 3 then ai Z 120 ia
  else if j = 5 then al Z 3000 la
  else if j = 7 then ai Z 401 ia
  else if j = 9 ∨ j = 10 ∨ j = 11 then ai Z 10 ia
  else if j = 13 ∨ j = 14 ∨ j = 15 ∨ j = 16 ∨ j = 17 then ai Z 60 ia
  else if j = 19 then ai Z 20 ia
  else if j = 20 then al Z 1280 la
  else if j = 21 ∨ j = 22 then al Z 64 la
  else none
def xEc (Z : xz_T) (et : Nat → Nat) (f ia : Nat → Int32) (la : Nat → Int64) (qa : Nat → Option Nat) (j : Nat) : Option va_E :=
  if j = 32 then some (.inr (7, [.ref (et 33), .ref (et 34), .ref (et 35), .ref (et 36), .int (f 4), .int (f 5), .int (f 6), .int (f 7), .int (f 8)]))
  else if j = 33 then some (.inr (0, [.ref (et 37), .ref (et 38), .ref (et 39), .ref (et 40)]))
  else if j = 34 then some (.inr (6, [.ref (et 42), .ref (et 43), .ref (et 44), .ref (et 45), .ref (et 46), .int (f 5)]))
  else if j = 35 then some (.inr (1, [.ref (et 47), .ref (et 48), .int (f 2), .int (f 3)]))
  else if j = 36 ∨ j = 39 then al Z 64 la
  else if j = 37 then aq Z 2 10 (fun k => (qa k).map et)
  else if j = 38 then ai Z 10 ia
  else if j = 40 then some (.inr (5, [.ref (et 41), .int (f 1), .int (f 2), .int (f 3)]))
  else if j = 41 then aq Z 3 400 (fun k => (qa k).map et)
  else if j = 42 ∨ j = 43 ∨ j = 44 ∨ j = 45 ∨ j = 46 then ai Z 60 ia
  else if j = 47 then aq Z 4 20 (fun k => (qa k).map et)
  else if j = 48 then al Z 1280 la
  else none
def xEp (Z : xz_T) (et : Nat → Nat) (f : Nat → Int32) (la : Nat → Int64) (n : Nat → Nat) (j : Nat) : Option va_E :=
  if j < 64 then none
  else if j < 184 then (if j < 64 + n 0 then some (.inr (4, [.int (f 0), .ref (et (j + 120))])) else if j = 64 + n 0 ∧ 1 ≤ n 5 then some (.inr (4, [.int (f 0), .null])) else none)
  else if j < 304 then (if j < 184 + n 0 ∨ (j = 184 + n 0 ∧ n 5 = 2) then al Z (n j) la else none)
  else if j < 704 then (if j < 304 + n 1 then some (.inr (3, [.int (f 0), .int (f 1)])) else none)
  else if j < 704 + n 2 then some (.inr (2, [])) else none
def xE (Z : xz_T) (et : Nat → Nat) (S : xs_T) (j : Nat) : Option va_E :=
  if j < 32 then xEm Z et (xF S j) (xI S j) (xL S j) j else if j < 64 then xEc Z et (xF S j) (xI S j) (xL S j) (xQ S j) j else xEp Z et (xF S j) (xL S j) (xN S) j
/-- the world of a store -/
def wd (Z : xz_T) (et : Nat → Nat) (S : xs_T) (H : Heap) : Prop := ww Z et (xE Z et S) H
/-- a row, a figure -/
def oR (S : xs_T) (u : Nat) : Prop := 64 ≤ u ∧ u < 184 ∧ u < 64 + xN S 0 ∧ xN S (u + 120) ≤ 64
def oG (S : xs_T) (u : Nat) : Prop := 304 ≤ u ∧ u < 704 ∧ u < 304 + xN S 1
def oC (S : xs_T) (u : Nat) : Prop := 704 ≤ u ∧ u < 704 + xN S 2
theorem xE_row {Z : xz_T} {et : Nat → Nat} {S : xs_T} {u : Nat} (h : oR S u) : xE Z et S u = some (.inr (4, [.int (xF S u 0), .ref (et (u + 120))])) := by
  obtain ⟨h1, h2, h3, h4⟩ := h
  simp only [xE, xEp]
  rw [if_neg (by omega), if_neg (by omega), if_neg (by omega), if_pos h2, if_pos h3]
theorem xE_arr {Z : xz_T} {et : Nat → Nat} {S : xs_T} {u : Nat} (h : oR S u) : xE Z et S (u + 120) = al Z (xN S (u + 120)) (xL S (u + 120)) := by
  obtain ⟨h1, h2, h3, h4⟩ := h
  simp only [xE, xEp]
  rw [if_neg (by omega), if_neg (by omega), if_neg (by omega), if_neg (by omega), if_pos (by omega), if_pos (Or.inl (by omega))]
theorem xE_fig {Z : xz_T} {et : Nat → Nat} {S : xs_T} {u : Nat} (h : oG S u) : xE Z et S u = some (.inr (3, [.int (xF S u 0), .int (xF S u 1)])) := by
  obtain ⟨h1, h2, h3⟩ := h
  simp only [xE, xEp]
  rw [if_neg (by omega), if_neg (by omega), if_neg (by omega), if_neg (by omega), if_neg (by omega), if_pos h2, if_pos h3]
theorem xE_crk {Z : xz_T} {et : Nat → Nat} {S : xs_T} {u : Nat} (h : oC S u) : xE Z et S u = some (.inr (2, [])) := by
  obtain ⟨h1, h2⟩ := h
  simp only [xE, xEp]
  rw [if_neg (by omega), if_neg (by omega), if_neg (by omega), if_neg (by omega), if_neg (by omega), if_neg (by omega), if_pos h2]
theorem xE_F {Z : xz_T} {et : Nat → Nat} {S : xs_T} {i k j : Nat} {v : Int32} (h : j ≠ i) : xE Z et (sF S i k v) j = xE Z et S j := by
  have e : xF (sF S i k v) j = xF S j := va_up_ne _ _ h
  show (if j < 32 then xEm Z et (xF (sF S i k v) j) (xI S j) (xL S j) j else if j < 64 then xEc Z et (xF (sF S i k v) j) (xI S j) (xL S j) (xQ S j) j else xEp Z et (xF (sF S i k v) j) (xL S j) (xN S) j) = _
  rw [e]; rfl
theorem xE_I {Z : xz_T} {et : Nat → Nat} {S : xs_T} {i k j : Nat} {v : Int32} (h : j ≠ i) : xE Z et (sI S i k v) j = xE Z et S j := by
  have e : xI (sI S i k v) j = xI S j := va_up_ne _ _ h
  show (if j < 32 then xEm Z et (xF S j) (xI (sI S i k v) j) (xL S j) j else if j < 64 then xEc Z et (xF S j) (xI (sI S i k v) j) (xL S j) (xQ S j) j else xEp Z et (xF S j) (xL S j) (xN S) j) = _
  rw [e]; rfl
theorem xE_tL {Z : xz_T} {et : Nat → Nat} {S : xs_T} {i j : Nat} {f : Nat → Int64} (h : j ≠ i) : xE Z et (tL S i f) j = xE Z et S j := by
  have e : xL (tL S i f) j = xL S j := va_up_ne _ _ h
  show (if j < 32 then xEm Z et (xF S j) (xI S j) (xL (tL S i f) j) j else if j < 64 then xEc Z et (xF S j) (xI S j) (xL (tL S i f) j) (xQ S j) j else xEp Z et (xF S j) (xL (tL S i f) j) (xN S) j) = _
  rw [e]; rfl
theorem xE_L {Z : xz_T} {et : Nat → Nat} {S : xs_T} {i k j : Nat} {v : Int64} (h : j ≠ i) : xE Z et (sL S i k v) j = xE Z et S j := xE_tL h
theorem xE_Q {Z : xz_T} {et : Nat → Nat} {S : xs_T} {i k j : Nat} {v : Option Nat} (h : j ≠ i) : xE Z et (sQ S i k v) j = xE Z et S j := by
  have e : xQ (sQ S i k v) j = xQ S j := va_up_ne _ _ h
  show (if j < 32 then xEm Z et (xF S j) (xI S j) (xL S j) j else if j < 64 then xEc Z et (xF S j) (xI S j) (xL S j) (xQ (sQ S i k v) j) j else xEp Z et (xF S j) (xL S j) (xN S) j) = _
  rw [e]; rfl
theorem ww.at {Z : xz_T} {et : Nat → Nat} {S S' : xs_T} {i : Nat} {e : va_E} {H : Heap} (h : ww Z et (va_up (xE Z et S) i (some e)) H) (he : xE Z et S' i = some e) (hne : ∀ j, j ≠ i → xE Z et S' j = xE Z et S j) : wd Z et S' H := by
  refine h.to (fun j e' hj => ?_) (fun _ _ => rfl)
  by_cases hji : j = i
  · subst hji
    rw [va_up_self, ← he]
    exact hj
  · rw [va_up_ne _ _ hji, ← hne j hji]
    exact hj
/-- what a spindle may hold; a row of longs that is given -/
def oT (S : xs_T) (q : Option Nat) : Prop := q = none ∨ ∃ u, q = some u ∧ (oR S u ∨ oG S u ∨ oC S u)
def iR (S : xs_T) (q : Option Nat) : Prop := ∃ u, q = some u ∧ oR S u
def iG (S : xs_T) (q : Option Nat) : Prop := ∃ u, q = some u ∧ oG S u
def oA (S : xs_T) (b : Nat) : Prop := b = 36 ∨ b = 39 ∨ ∃ u, b = u + 120 ∧ oR S u
def aN (S : xs_T) (b : Nat) : Nat := if b = 36 ∨ b = 39 then 64 else xN S b
theorem oA_lt {S : xs_T} {b : Nat} (h : oA S b) : aN S b < 2 ^ 31 := by
  unfold aN
  split
  · omega
  · rcases h with h | h | ⟨u, rfl, h⟩
    · omega
    · omega
    · have := h.2.2.2
      omega
theorem xE_oA {Z : xz_T} {et : Nat → Nat} {S : xs_T} {b : Nat} (h : oA S b) : xE Z et S b = al Z (aN S b) (xL S b) := by
  rcases h with h | h | ⟨u, rfl, h⟩
  · subst h; rfl
  · subst h; rfl
  · rw [xE_arr h]
    have h1 := h.1
    have e : aN S (u + 120) = xN S (u + 120) := by
      unfold aN
      rw [if_neg (by omega)]
    rw [e]
theorem oR_lt {S : xs_T} {u : Nat} (h : oR S u) : xN S (u + 120) < 2 ^ 31 := by
  have := h.2.2.2
  omega
end
section
theorem cp_nat : Cond.native arraycopyName ∈ TB := tw_232
theorem cp_stat : Cond.static arraycopyName ∈ TB := tw_231
theorem cp_ini : Cond.initialized "java/lang/System" ∈ TB := tw_45
/-! INSTRUCTIONS OVER THE WORLD -/
section XI
variable {p : Program} {l : Launch} {e : Env} {R : Room} {s : State} {m : MethodId} {args : Array Value} {below : List Frame} {meth : Method} {c : Code} {H : Heap} {locs : List Loc} {cells slots : Nat} {Q : State → Prop}
variable {cc : ByteArray} {pc nL : Nat} {ls : Array Slot} {rest : List Value} {Z : xz_T} {et : Nat → Nat} {G : Nat → Option va_E} {S : xs_T} {c0 : Cond} {own : String}
theorem xg_get (X : CallFix p m c cc nL s args (c0 :: TB) own) (hk : xk Z s) (hw : ww Z et G H) {C : String} {T : u_T} {N ci index i : Nat} (k : Nat) {fs : List Value} {v : Value} (hE : G i = some (.inr (ci, fs))) (hc : vwCl[ci]? = some (C, T, N)) (hin : ∀ w ∈ u_ws C T N, w ∈ TB) (hkN : k < N) (hv : fs[k]? = some v) (hlink : Cond.fieldLink own index (T k).1 (T k).2.1 (T k).2.2.1 ∈ TB) (hdg : decode cc pc = .ok (.getfield index, 3))
    (kk : W p l e R s m args below meth c H locs cells slots Q (F0 m (pc + 3) ls (v :: rest))) : W p l e R s m args below meth c H locs cells slots Q (F0 m pc ls (.ref (et i) :: rest)) :=
  va_get X.1 X.2.1 X.2.2.2.2 (fun w h => List.mem_cons_of_mem _ (hin w h)) X.2.2.2.1 hk.1 (hw.P1 hE) 0 rfl hc k hkN (X.2.2.2.2 _ (List.mem_cons_of_mem _ hlink)) (fun _ h => h) hv hdg kk
theorem xg_getN (X : CallFix p m c cc nL s args (c0 :: TB) own) (hk : xk Z s) (hw : ww Z et G H) {C host : String} {T : u_T} {N ci index i : Nat} (k : Nat) {fs : List Value} {v : Value} (hE : G i = some (.inr (ci, fs))) (hc : vwCl[ci]? = some (C, T, N)) (hin : ∀ w ∈ u_ws C T N, w ∈ TB) (hkN : k < N) (hv : fs[k]? = some v) (hlink : Cond.fieldLinkNest own index (T k).1 (T k).2.1 (T k).2.2.1 host ∈ xk_ng) (hdg : decode cc pc = .ok (.getfield index, 3))
    (kk : W p l e R s m args below meth c H locs cells slots Q (F0 m (pc + 3) ls (v :: rest))) : W p l e R s m args below meth c H locs cells slots Q (F0 m pc ls (.ref (et i) :: rest)) :=
  va_getN X.1 X.2.1 X.2.2.2.2 (fun w h => List.mem_cons_of_mem _ (hin w h)) X.2.2.2.1 hk.1 (hw.P1 hE) 0 rfl hc k hkN (va_Nw.use rfl (hk.2.1 _ hlink)) (fun _ h => h) hv hdg kk
theorem xg_put (X : CallFix p m c cc nL s args (c0 :: TB) own) (hk : xk Z s) (hw : ww Z et G H) (hl : xl Z locs) {C : String} {T : u_T} {N ci index i : Nat} (k : Nat) {fs : List Value} {v : Value} (hE : G i = some (.inr (ci, fs))) (hc : vwCl[ci]? = some (C, T, N)) (hin : ∀ w ∈ u_ws C T N, w ∈ TB) (ty0 : Nat → FieldType) (hty : ∀ k, k < N → parseFieldDescriptor (T k).2.2.1 = some (ty0 k)) (hnm : ∀ a, a < N → ∀ b, b < N → a ≠ b → (T a).2.1 ≠ (T b).2.1) (hkN : k < N) (hlink : Cond.fieldLink own index (T k).1 (T k).2.1 (T k).2.2.1 ∈ TB) (hfin : (T k).2.2.2 = false) (hn : narrow (ty0 k) v = v) (hfit : fits (ty0 k) v = true) (hlk : k < fs.length) (hdg : decode cc pc = .ok (.putfield index, 3))
    (kk : ∀ (H1 : Heap) (locs1 : List Loc), ww Z et (va_up G i (some (.inr (ci, fs.set k v)))) H1 → xl Z locs1 → W p l e R s m args below meth c H1 locs1 cells slots Q (F0 m (pc + 3) ls rest)) : W p l e R s m args below meth c H locs cells slots Q (F0 m pc ls (v :: .ref (et i) :: rest)) := by
  have hts := X.2.2.2.2
  have hin' : ∀ w ∈ u_ws C T N, w ∈ (c0 :: TB) := fun w h => List.mem_cons_of_mem _ (hin w h)
  have hap := va_apart (own := own) hts hin' ty0 hty hnm hk.1 hc
  obtain ⟨r, h1, cell, q1, q2, q3, q4⟩ := (hw.1 i _ hE).2
  have hr : r = (C, T, N) := Option.some.inj (h1.symm.trans hc)
  subst hr
  obtain ⟨hS, hfc, kC, hkC, hkind⟩ := hk.1.1 ci _ hc
  obtain ⟨cf, kf, fi, f, hi, hsl⟩ := hS k hkN
  have hlay := hts _ (hin' _ (u_in_lay hkN))
  unfold u_lay at hlay
  rw [if_neg (by rw [hfin]; decide)] at hlay
  have hst := (u_facts hfc hkC (u_lays hts hin' hkN) hi).1
  have h6 := u_store hfc hkC hkind hlay hi (hty k hkN) hn hfit
  refine W.putK X.1 X.2.1 (f := f) ⟨X.2.2.2.1, hts _ (List.mem_cons_of_mem _ hlink), ⟨_, _, _, hi⟩, hst⟩ (by rw [q2]; exact h6) q1 q3 (by rw [hsl]; exact k2_hasslot (q4 k hkN)) rfl rfl hdg fun H' e1 e2 e3 => ?_
  rw [hsl] at e1 ⊢
  exact kk H' _ (hw.set hE ⟨_, hc, t_OB.to (V := updV (vp_V fs) k v) ⟨_, e1, q2, q3, t_set q4 hap hkN v⟩ (fun j _ => vp_updV_set hlk v j)⟩ e2 e3) (t_lc hl (hw.1 i _ hE).1)
theorem xg_putN (X : CallFix p m c cc nL s args (c0 :: TB) own) (hk : xk Z s) (hw : ww Z et G H) (hl : xl Z locs) {C host : String} {T : u_T} {N ci index i : Nat} (k : Nat) {fs : List Value} {v : Value} (hE : G i = some (.inr (ci, fs))) (hc : vwCl[ci]? = some (C, T, N)) (hin : ∀ w ∈ u_ws C T N, w ∈ TB) (ty0 : Nat → FieldType) (hty : ∀ k, k < N → parseFieldDescriptor (T k).2.2.1 = some (ty0 k)) (hnm : ∀ a, a < N → ∀ b, b < N → a ≠ b → (T a).2.1 ≠ (T b).2.1) (hkN : k < N) (hlink : Cond.fieldLinkNest own index (T k).1 (T k).2.1 (T k).2.2.1 host ∈ xk_ng) (hfin : (T k).2.2.2 = false) (hn : narrow (ty0 k) v = v) (hfit : fits (ty0 k) v = true) (hlk : k < fs.length) (hdg : decode cc pc = .ok (.putfield index, 3))
    (kk : ∀ (H1 : Heap) (locs1 : List Loc), ww Z et (va_up G i (some (.inr (ci, fs.set k v)))) H1 → xl Z locs1 → W p l e R s m args below meth c H1 locs1 cells slots Q (F0 m (pc + 3) ls rest)) : W p l e R s m args below meth c H locs cells slots Q (F0 m pc ls (v :: .ref (et i) :: rest)) := by
  have hts := X.2.2.2.2
  have hin' : ∀ w ∈ u_ws C T N, w ∈ (c0 :: TB) := fun w h => List.mem_cons_of_mem _ (hin w h)
  have hap := va_apart (own := own) hts hin' ty0 hty hnm hk.1 hc
  obtain ⟨r, h1, cell, q1, q2, q3, q4⟩ := (hw.1 i _ hE).2
  have hr : r = (C, T, N) := Option.some.inj (h1.symm.trans hc)
  subst hr
  obtain ⟨hS, hfc, kC, hkC, hkind⟩ := hk.1.1 ci _ hc
  obtain ⟨cf, kf, fi, f, hi, hsl⟩ := hS k hkN
  have hlay := hts _ (hin' _ (u_in_lay hkN))
  unfold u_lay at hlay
  rw [if_neg (by rw [hfin]; decide)] at hlay
  have hst := (u_facts hfc hkC (u_lays hts hin' hkN) hi).1
  have h6 := u_store hfc hkC hkind hlay hi (hty k hkN) hn hfit
  refine va_WputK X.1 X.2.1 (f := f) X.2.2.2.1 (va_Nw.use rfl (hk.2.1 _ hlink)) hi hst (by rw [q2]; exact h6) q1 q3 (by rw [hsl]; exact k2_hasslot (q4 k hkN)) rfl rfl hdg fun H' e1 e2 e3 => ?_
  rw [hsl] at e1 ⊢
  exact kk H' _ (hw.set hE ⟨_, hc, t_OB.to (V := updV (vp_V fs) k v) ⟨_, e1, q2, q3, t_set q4 hap hkN v⟩ (fun j _ => vp_updV_set hlk v j)⟩ e2 e3) (t_lc hl (hw.1 i _ hE).1)
theorem xg_putF (X : CallFix p m c cc nL s args (c0 :: TB) own) (hk : xk Z s) (hw : ww Z et G H) (hl : xl Z locs) (hin2 : meth.name = "<init>") {C : String} {T : u_T} {N ci index i : Nat} (k : Nat) {fs : List Value} {v : Value} (hE : G i = some (.inr (ci, fs))) (hc : vwCl[ci]? = some (C, T, N)) (hin : ∀ w ∈ u_ws C T N, w ∈ TB) (ty0 : Nat → FieldType) (hty : ∀ k, k < N → parseFieldDescriptor (T k).2.2.1 = some (ty0 k)) (hnm : ∀ a, a < N → ∀ b, b < N → a ≠ b → (T a).2.1 ≠ (T b).2.1) (hkN : k < N) (hlink : Cond.fieldLink own index (T k).1 (T k).2.1 (T k).2.2.1 ∈ TB) (hfin : (T k).2.2.2 = true) (hdecl : (T k).1 = own) (hn : narrow (ty0 k) v = v) (hfit : fits (ty0 k) v = true) (hlk : k < fs.length) (hdg : decode cc pc = .ok (.putfield index, 3))
    (kk : ∀ (H1 : Heap) (locs1 : List Loc), ww Z et (va_up G i (some (.inr (ci, fs.set k v)))) H1 → xl Z locs1 → W p l e R s m args below meth c H1 locs1 cells slots Q (F0 m (pc + 3) ls rest)) : W p l e R s m args below meth c H locs cells slots Q (F0 m pc ls (v :: .ref (et i) :: rest)) := by
  have hts := X.2.2.2.2
  have hown := X.2.2.2.1
  have hin' : ∀ w ∈ u_ws C T N, w ∈ (c0 :: TB) := fun w h => List.mem_cons_of_mem _ (hin w h)
  have hap := va_apart (own := own) hts hin' ty0 hty hnm hk.1 hc
  obtain ⟨r, h1, cell, q1, q2, q3, q4⟩ := (hw.1 i _ hE).2
  have hr : r = (C, T, N) := Option.some.inj (h1.symm.trans hc)
  subst hr
  obtain ⟨hS, hfc, kC, hkC, hkind⟩ := hk.1.1 ci _ hc
  obtain ⟨cf, kf, fi, f, hi, hsl⟩ := hS k hkN
  have hlay := hts _ (hin' _ (u_in_lay hkN))
  unfold u_lay at hlay
  rw [if_pos hfin] at hlay
  have hst := (u_facts hfc hkC (u_lays hts hin' hkN) hi).1
  have hcf : m.cls = cf := by
    obtain ⟨_, _, c', _, _, _, -, -, hf', -, -, -, hown2, -⟩ := Cond.laysFinal_spec hlay
    have e1 : c' = cf := by have := hi.symm.trans hf'; simp at this; exact this.1.symm
    rw [hdecl] at hown2
    rw [← e1]; exact Option.some.inj (hown.symm.trans hown2)
  have h6 := u_fits hfc hkC hkind (Or.inr hlay) hi (hty k hkN) hn hfit
  refine W.putFinK X.1 X.2.1 hown (hts _ (List.mem_cons_of_mem _ hlink)) hi hst hcf hin2 (by rw [q2]; exact h6) q1 q3 (by rw [hsl]; exact k2_hasslot (q4 k hkN)) rfl rfl hdg fun H' e1 e2 e3 => ?_
  rw [hsl] at e1 ⊢
  exact kk H' _ (hw.set hE ⟨_, hc, t_OB.to (V := updV (vp_V fs) k v) ⟨_, e1, q2, q3, t_set q4 hap hkN v⟩ (fun j _ => vp_updV_set hlk v j)⟩ e2 e3) (t_lc hl (hw.1 i _ hE).1)
/-- int rows -/
theorem xg_ild (X : CallFix p m c cc nL s args (c0 :: TB) own) (hk : xk Z s) (hw : ww Z et G H) {i n j : Nat} {f : Nat → Int32} {x : Int32} (hE : G i = some (.inl (Z.2.1 0, n, .inl f))) (hx : x = nI j) (hj : j < n) (hn : n < 2 ^ 31) (hdg : decode cc pc = .ok (.iaload, 1))
    (kk : W p l e R s m args below meth c H locs cells slots Q (F0 m (pc + 1) ls (.int (f j) :: rest))) : W p l e R s m args below meth c H locs cells slots Q (F0 m pc ls (.int x :: .ref (et i) :: rest)) := by
  subst hx
  refine va_iald X.1 X.2.1 hk.1 (hw.P1 hE) 0 0 rfl rfl (vp_in_nI hj hn) hdg ?_
  rw [nI_clamp (by omega)]
  exact kk
theorem xg_lld (X : CallFix p m c cc nL s args (c0 :: TB) own) (hk : xk Z s) (hw : ww Z et G H) {i n j : Nat} {f : Nat → Int64} {x : Int32} (hE : G i = some (.inl (Z.2.1 1, n, .inr (.inl f)))) (hx : x = nI j) (hj : j < n) (hn : n < 2 ^ 31) (hdg : decode cc pc = .ok (.laload, 1))
    (kk : W p l e R s m args below meth c H locs cells slots Q (F0 m (pc + 1) ls (.long (f j) :: rest))) : W p l e R s m args below meth c H locs cells slots Q (F0 m pc ls (.int x :: .ref (et i) :: rest)) := by
  subst hx
  refine va_lald X.1 X.2.1 hk.1 (hw.P1 hE) 0 1 rfl rfl (vp_in_nI hj hn) hdg ?_
  rw [nI_clamp (by omega)]
  exact kk
theorem xg_ist (X : CallFix p m c cc nL s args (c0 :: TB) own) (hk : xk Z s) (hw : ww Z et G H) (hl : xl Z locs) {i n j : Nat} {f : Nat → Int32} {x y : Int32} (hE : G i = some (.inl (Z.2.1 0, n, .inl f))) (hx : x = nI j) (hj : j < n) (hn : n < 2 ^ 31) (hdg : decode cc pc = .ok (.iastore, 1))
    (kk : ∀ (H1 : Heap) (locs1 : List Loc), ww Z et (va_up G i (some (.inl (Z.2.1 0, n, .inl (va_up f j y))))) H1 → xl Z locs1 → W p l e R s m args below meth c H1 locs1 cells slots Q (F0 m (pc + 1) ls rest)) : W p l e R s m args below meth c H locs cells slots Q (F0 m pc ls (.int y :: .int x :: .ref (et i) :: rest)) := by
  subst hx
  have hin := vp_in_nI hj hn
  have hc : (nI j).toNatClampNeg = j := nI_clamp (by omega)
  refine W.iast X.1 X.2.1 (hw.1 i _ hE).2 ((hk.1.2 0 _ rfl).1 n (fun j => .int (f j))) (fun q => by cases q) (by show ¬ (_ < 0 ∨ (arrV _ _ _).slots.size ≤ _); rw [arrV_size]; exact hin) rfl rfl hdg fun H1 e z oq => ?_
  rw [hc] at e ⊢
  refine kk H1 _ (hw.set hE ?_ z oq) (t_lc hl (hw.1 i _ hE).1)
  show H1[et i]? = some (vp_cell _ _)
  rw [e, vp_cell_i, vp_cell_i, arrV_store]
  congr 2
  funext q
  by_cases hq : q = j
  · subst hq
    simp [updV, va_up]
  · simp [updV, va_up, hq]
theorem xg_lst (X : CallFix p m c cc nL s args (c0 :: TB) own) (hk : xk Z s) (hw : ww Z et G H) (hl : xl Z locs) {i n j : Nat} {f : Nat → Int64} {x : Int32} {y : Int64} (hE : G i = some (.inl (Z.2.1 1, n, .inr (.inl f)))) (hx : x = nI j) (hj : j < n) (hn : n < 2 ^ 31) (hdg : decode cc pc = .ok (.lastore, 1))
    (kk : ∀ (H1 : Heap) (locs1 : List Loc), ww Z et (va_up G i (some (.inl (Z.2.1 1, n, .inr (.inl (va_up f j y)))))) H1 → xl Z locs1 → W p l e R s m args below meth c H1 locs1 cells slots Q (F0 m (pc + 1) ls rest)) : W p l e R s m args below meth c H locs cells slots Q (F0 m pc ls (.long y :: .int x :: .ref (et i) :: rest)) := by
  subst hx
  have hin := vp_in_nI hj hn
  have hc : (nI j).toNatClampNeg = j := nI_clamp (by omega)
  refine W.last X.1 X.2.1 (hw.1 i _ hE).2 ((hk.1.2 1 _ rfl).1 n (fun j => .long (f j))) (fun q => by cases q) (by show ¬ (_ < 0 ∨ (arrV _ _ _).slots.size ≤ _); rw [arrV_size]; exact hin) rfl rfl hdg fun H1 e z oq => ?_
  rw [hc] at e ⊢
  refine kk H1 _ (hw.set hE ?_ z oq) (t_lc hl (hw.1 i _ hE).1)
  show H1[et i]? = some (vp_cell _ _)
  rw [e, vp_cell_l, vp_cell_l, arrV_store]
  congr 2
  funext q
  by_cases hq : q = j
  · subst hq
    simp [updV, va_up]
  · simp [updV, va_up, hq]
theorem xg_len (X : CallFix p m c cc nL s args (c0 :: TB) own) (hk : xk Z s) (hw : ww Z et G H) {i n : Nat} {f : Nat → Int64} (hE : G i = some (.inl (Z.2.1 1, n, .inr (.inl f)))) (hdg : decode cc pc = .ok (.arraylength, 1))
    (kk : W p l e R s m args below meth c H locs cells slots Q (F0 m (pc + 1) ls (.int (nI n) :: rest))) : W p l e R s m args below meth c H locs cells slots Q (F0 m pc ls (.ref (et i) :: rest)) :=
  va_alen X.1 X.2.1 hk.1 (hw.P1 hE) 0 1 rfl rfl rfl hdg kk
/-- rows of references -/
theorem xg_qld (X : CallFix p m c cc nL s args (c0 :: TB) own) (hk : xk Z s) (hw : ww Z et G H) {i n j t0 : Nat} {cA : ClassId} {C : String} {f : Nat → Option Nat} {x : Int32} (hE : G i = some (.inl (cA, n, .inr (.inr (.inr (.inr f)))))) (ht : [(Z.2.1 0, FieldType.int), (Z.2.1 1, .long), (Z.2.1 2, .object RX7), (Z.2.1 3, .object RX3), (Z.2.1 4, .object RX5)][t0]? = some (cA, .object C)) (hx : x = nI j) (hj : j < n) (hn : n < 2 ^ 31) (hdg : decode cc pc = .ok (.aaload, 1))
    (kk : W p l e R s m args below meth c H locs cells slots Q (F0 m (pc + 1) ls (va_rf (f j) :: rest))) : W p l e R s m args below meth c H locs cells slots Q (F0 m pc ls (.int x :: .ref (et i) :: rest)) := by
  subst hx
  refine va_aldq X.1 X.2.1 hk.1 (hw.P1 hE) 0 t0 rfl ht (vp_in_nI hj hn) hdg ?_
  rw [nI_clamp (by omega)]
  exact kk
theorem xg_qst (X : CallFix p m c cc nL s args (c0 :: TB) own) (hk : xk Z s) (hw : ww Z et G H) (hl : xl Z locs) {i n j t0 ci u : Nat} {cA : ClassId} {E : String} {f : Nat → Option Nat} {x : Int32} {r : vw_C} {vs : List Value} (hE : G i = some (.inl (cA, n, .inr (.inr (.inr (.inr f)))))) (ht : [(Z.2.1 0, FieldType.int), (Z.2.1 1, .long), (Z.2.1 2, .object RX7), (Z.2.1 3, .object RX3), (Z.2.1 4, .object RX5)][t0]? = some (cA, .object E)) (hu : G u = some (.inr (ci, vs))) (hc : vwCl[ci]? = some r) (hca : Cond.castable r.1 E ∈ xk_ng) (hx : x = nI j) (hj : j < n) (hn : n < 2 ^ 31) (hdg : decode cc pc = .ok (.aastore, 1))
    (kk : ∀ (H1 : Heap) (locs1 : List Loc), ww Z et (va_up G i (some (.inl (cA, n, .inr (.inr (.inr (.inr (va_up f j (some (et u)))))))))) H1 → xl Z locs1 → W p l e R s m args below meth c H1 locs1 cells slots Q (F0 m (pc + 1) ls rest)) : W p l e R s m args below meth c H locs cells slots Q (F0 m pc ls (.ref (et u) :: .int x :: .ref (et i) :: rest)) := by
  subst hx
  have hcl : (nI j).toNatClampNeg = j := nI_clamp (by omega)
  have h0 : ¬ nI j < 0 := nI_pos (by omega)
  obtain ⟨r', hr', cellV, g1, g2, g3, -⟩ := (hw.1 u _ hu).2
  have hcls := (hk.1.1 ci r hc).2
  obtain ⟨kA, comp, k1, k2, k3, -⟩ := (hk.1.2 t0 _ ht).2
  obtain ⟨kE, hkE, -⟩ := Vm.findClass_spec k3
  obtain ⟨c0, t1, f1, f2, f3⟩ := Cond.castable_spec (va_Nw.use (A := args) rfl (hk.2.1 _ hca))
  cases hcls.1.symm.trans f1
  cases k3.symm.trans f2
  obtain ⟨kC, hkC, -⟩ := hcls.2
  refine W.aast X.1 X.2.1 (hw.1 i _ hE).2 (fun q h => by cases h) (fun h => by cases h) k1 k2 rfl hkE ⟨h0, by show _ < (arrV _ _ _).slots.size; rw [arrV_size, hcl]; exact hj⟩ g1 (fun q h => by rw [g3] at h; cases h) (by rw [g2]; exact hkC) (by rw [g2]; exact f3) rfl rfl hdg fun H1 e z oq => ?_
  rw [hcl] at e ⊢
  refine kk H1 _ (hw.set hE ?_ z oq) (t_lc hl (hw.1 i _ hE).1)
  show H1[et i]? = some (vp_cell _ _)
  rw [e, vp_cell_q, vp_cell_q, arrV_store]
  congr 2
  funext q
  by_cases hq : q = j
  · subst hq
    simp [updV, va_up, va_rf]
  · simp [updV, va_up, hq]
theorem xg_qsn (X : CallFix p m c cc nL s args (c0 :: TB) own) (hk : xk Z s) (hw : ww Z et G H) (hl : xl Z locs) {i n j t0 : Nat} {cA : ClassId} {E : String} {f : Nat → Option Nat} {x : Int32} (hE : G i = some (.inl (cA, n, .inr (.inr (.inr (.inr f)))))) (ht : [(Z.2.1 0, FieldType.int), (Z.2.1 1, .long), (Z.2.1 2, .object RX7), (Z.2.1 3, .object RX3), (Z.2.1 4, .object RX5)][t0]? = some (cA, .object E)) (hx : x = nI j) (hj : j < n) (hn : n < 2 ^ 31) (hdg : decode cc pc = .ok (.aastore, 1))
    (kk : ∀ (H1 : Heap) (locs1 : List Loc), ww Z et (va_up G i (some (.inl (cA, n, .inr (.inr (.inr (.inr (va_up f j none)))))))) H1 → xl Z locs1 → W p l e R s m args below meth c H1 locs1 cells slots Q (F0 m (pc + 1) ls rest)) : W p l e R s m args below meth c H locs cells slots Q (F0 m pc ls (.null :: .int x :: .ref (et i) :: rest)) := by
  subst hx
  have hin := vp_in_nI hj hn
  have hcl : (nI j).toNatClampNeg = j := nI_clamp (by omega)
  refine va_WaastN (C := E) X.1 X.2.1 (hw.1 i _ hE).2 ((hk.1.2 t0 _ ht).1 n (fun j => va_rf (f j))) (fun h => by cases h) (by show ¬ (_ < 0 ∨ (arrV _ _ _).slots.size ≤ _); rw [arrV_size]; exact hin) rfl rfl hdg fun H1 e z oq => ?_
  rw [hcl] at e ⊢
  refine kk H1 _ (hw.set hE ?_ z oq) (t_lc hl (hw.1 i _ hE).1)
  show H1[et i]? = some (vp_cell _ _)
  rw [e, vp_cell_q, vp_cell_q, arrV_store]
  congr 2
  funext q
  by_cases hq : q = j
  · subst hq
    simp [updV, va_up, va_rf]
  · simp [updV, va_up, hq]
theorem xg_cpy (X : CallFix p m c cc nL s args (c0 :: TB) own) (hk : xk Z s) (hw : ww Z et G H) (hl : xl Z locs) (hls : ls.size = nL) {i i2 n n2 sp dp k index : Nat} {f g : Nat → Int64} {x y z : Int32} (hE : G i = some (.inl (Z.2.1 1, n, .inr (.inl f)))) (hE2 : G i2 = some (.inl (Z.2.1 1, n2, .inr (.inl g)))) (hx : x = nI sp) (hy : y = nI dp) (hz : z = nI k) (h4 : sp + k ≤ n) (h5 : dp + k ≤ n2) (hn : n < 2 ^ 31) (hn2 : n2 < 2 ^ 31)
    (hlink : Cond.methodLink own index arraycopyName ∈ TB) (hframes : 1 ≤ R.frames) (hlocals : (rest.map fun v => v.category).sum + (nativeFrameWords "java/lang/System" "arraycopy" 5 + 11) ≤ R.locals) (hdg : decode cc pc = .ok (.invokestatic index, 3))
    (kk : ∀ (H1 : Heap) (locs1 : List Loc), ww Z et (va_up G i2 (some (.inl (Z.2.1 1, n2, .inr (.inl (va_cpy f g sp dp k)))))) H1 → xl Z locs1 → W p l e R s m args below meth c H1 locs1 cells slots Q (F0 m (pc + 3) ls rest)) : W p l e R s m args below meth c H locs cells slots Q (F0 m pc ls (.int z :: .int y :: .ref (et i2) :: .int x :: .ref (et i) :: rest)) := by
  subst hx
  subst hy
  subst hz
  have hts := X.2.2.2.2
  have c1 : (nI sp).toNatClampNeg = sp := nI_clamp (by omega)
  have c2 : (nI dp).toNatClampNeg = dp := nI_clamp (by omega)
  have c3 : (nI k).toNatClampNeg = k := nI_clamp (by omega)
  have p1 : ¬ nI sp < 0 := nI_pos (by omega)
  have p2 : ¬ nI dp < 0 := nI_pos (by omega)
  have p3 : ¬ nI k < 0 := nI_pos (by omega)
  have i1 : (nI sp).toInt = (sp : Int) := nI_toInt (by omega)
  have i2' : (nI dp).toInt = (dp : Int) := nI_toInt (by omega)
  have i3 : (nI k).toInt = (k : Int) := nI_toInt (by omega)
  intro T hT X1
  have hc0 : H[et i]? = some (vp_cell (Z.2.1 1) (n, .inr (.inl f))) := (hw.1 i _ hE).2
  have hc1 : H[et i2]? = some (vp_cell (Z.2.1 1) (n2, .inr (.inl g))) := (hw.1 i2 _ hE2).2
  obtain ⟨-, k0, hk0, cm0, hkk0⟩ := (hk.1.2 1 _ rfl).1 n (fun j => .long (f j))
  obtain ⟨-, k1, hk1, cm1, hkk1⟩ := (hk.1.2 1 _ rfl).1 n2 (fun j => .long (g j))
  obtain ⟨vm', X', step⟩ := X1.arraycopy X.1 X.2.2.2.1 (hts _ (List.mem_cons_of_mem _ hlink)) (hts _ (List.mem_cons_of_mem _ cp_nat)) (hts _ (List.mem_cons_of_mem _ cp_stat)) (hts _ (List.mem_cons_of_mem _ cp_ini)) (src := et i) (dst := et i2) (cs := vp_cell (Z.2.1 1) (n, .inr (.inl f))) (cd := vp_cell (Z.2.1 1) (n2, .inr (.inl g))) (srcPos := nI sp) (destPos := nI dp) (n := nI k) (by rw [hT]; exact hc0) (by rw [hT]; exact hc1)
    (fun _ h => by cases h) (fun _ h => by cases h) (fun h => by cases h) (fun h => by cases h) hk0 hk1 hkk0 hkk1 (by simp [refKind]) p1 p2 p3
    (by rw [i1, i3]; show ¬ _ > ((arrV _ n (fun j => .long (f j))).slots.size : Int); rw [arrV_size]; omega)
    (by rw [i2', i3]; show ¬ _ > ((arrV _ n2 (fun j => .long (g j))).slots.size : Int); rw [arrV_size]; omega)
    (fun vm₁ _ i' hi => by
      rw [c3] at hi
      have e : (vp_cell (Z.2.1 1) (n, .inr (.inl f))).slots.getD ((nI sp).toNatClampNeg + i') .null = .long (f ((nI sp).toNatClampNeg + i')) := by
        show (arrV _ n (fun j => .long (f j))).slots.getD _ _ = _
        rw [Array.getD_eq_getD_getElem?, arrV_read _ _ (by omega)]
        rfl
      refine ⟨?_, ?_⟩
      · rw [e]
        rfl
      · rw [e]
        exact trivial)
    (g := F0 m pc ls (.int (nI k) :: .int (nI dp) :: .ref (et i2) :: .int (nI sp) :: .ref (et i) :: rest)) rfl (by rw [X.2.2.1]; exact hls) (rest := rest) rfl (by rw [X.2.1]; exact hdg) hframes (by show 2 * 0 + _ + _ ≤ _; omega)
  have e1 : copied (vp_cell (Z.2.1 1) (n, .inr (.inl f))) (vp_cell (Z.2.1 1) (n2, .inr (.inl g))) (nI sp) (nI dp) (nI k) = vp_cell (Z.2.1 1) (n2, .inr (.inl (va_cpy f g sp dp k))) := by
    show (arrV (Z.2.1 1) n2 (fun j => .long (g j))).storeRun (nI dp).toNatClampNeg ((arrV (Z.2.1 1) n (fun j => .long (f j))).stretch (nI sp).toNatClampNeg (nI k).toNatClampNeg) = _
    rw [c1, c2, c3]
    exact va_copied (fun z => .long z) (Z.2.1 1) (Z.2.1 1) f g h4
  rw [e1] at X' step
  have hlt : et i2 < H.size := (Array.getElem?_eq_some_iff.mp hc1).1
  have hheap : ((T.setVm vm').setCell (et i2) (vp_cell (Z.2.1 1) (n2, .inr (.inl (va_cpy f g sp dp k))))).heap = H.setIfInBounds (et i2) (vp_cell (Z.2.1 1) (n2, .inr (.inl (va_cpy f g sp dp k)))) := by rw [← hT]; rfl
  have oq : ∀ q : Nat, q ≠ et i2 → (H.setIfInBounds (et i2) (vp_cell (Z.2.1 1) (n2, .inr (.inl (va_cpy f g sp dp k)))))[q]? = H[q]? := fun q hq => by simp [Array.getElem?_setIfInBounds, Ne.symm hq]
  obtain ⟨t, a1, b1⟩ := kk _ _ (hw.set hE2 (show (H.setIfInBounds (et i2) _)[et i2]? = some _ by simp [Array.getElem?_setIfInBounds, hlt]) (by simp) oq) (fun q hq => by
      rcases List.mem_append.mp hq with h | h
      · exact hl q h
      · obtain ⟨z, -, hz⟩ := List.mem_map.mp h
        rw [← hz]
        exact (hw.1 i2 _ hE2).1) _ hheap X'
  exact ⟨t, step t a1, b1⟩
/-! CONTRACTS -/
def xPc (Z : xz_T) (et : Nat → Nat) (S : xs_T) (av : List Value) : Array Value → State → Prop := fun a U => a = av.toArray ∧ xk Z U ∧ wd Z et S U.heap
def xQi (Z : xz_T) (et : Nat → Nat) (Nn : Nat → Nat) (K : Int32 → xs_T → Prop) : Array Value → State → Outcome → State → Prop := fun _ _ o t => ∃ (r : Int32) (S' : xs_T), o = .returned (some (.int r)) ∧ K r S' ∧ S'.2.2.2.2 = Nn ∧ wd Z et S' t.heap
def xQl (Z : xz_T) (et : Nat → Nat) (Nn : Nat → Nat) (K : Int64 → xs_T → Prop) : Array Value → State → Outcome → State → Prop := fun _ _ o t => ∃ (r : Int64) (S' : xs_T), o = .returned (some (.long r)) ∧ K r S' ∧ S'.2.2.2.2 = Nn ∧ wd Z et S' t.heap
def xQv (Z : xz_T) (et : Nat → Nat) (Nn : Nat → Nat) (K : xs_T → Prop) : Array Value → State → Outcome → State → Prop := fun _ _ o t => ∃ S' : xs_T, o = .returned none ∧ K S' ∧ S'.2.2.2.2 = Nn ∧ wd Z et S' t.heap
def xQq (Z : xz_T) (et : Nat → Nat) (Nn : Nat → Nat) (K : Option Nat → xs_T → Prop) : Array Value → State → Outcome → State → Prop := fun _ _ o t => ∃ (r : Option Nat) (S' : xs_T), o = .returned (some (va_rf (r.map et))) ∧ K r S' ∧ S'.2.2.2.2 = Nn ∧ wd Z et S' t.heap
/-- rows, figures, cranks come, none goes; a row's length stays -/
def xgr (S S' : xs_T) : Prop := xN S 0 ≤ xN S' 0 ∧ xN S 1 ≤ xN S' 1 ∧ xN S 2 ≤ xN S' 2 ∧ xN S' 5 = 0 ∧ ∀ i, 184 ≤ i → i < 184 + xN S 0 → xN S' i = xN S i
/-- the numbers' addresses stay -/
def xst (Z : xz_T) (et : Nat → Nat) (S : xs_T) (et' : Nat → Nat) : Prop := ∀ i, xE Z et S i ≠ none → et' i = et i
def xAi (Z : xz_T) (et : Nat → Nat) (S : xs_T) (K : Int32 → xs_T → Prop) : Array Value → State → Outcome → State → Prop := fun _ _ o t => ∃ (r : Int32) (S' : xs_T) (et' : Nat → Nat), o = .returned (some (.int r)) ∧ K r S' ∧ xst Z et S et' ∧ xgr S S' ∧ wd Z et' S' t.heap
def xAv (Z : xz_T) (et : Nat → Nat) (S : xs_T) (K : xs_T → Prop) : Array Value → State → Outcome → State → Prop := fun _ _ o t => ∃ (S' : xs_T) (et' : Nat → Nat), o = .returned none ∧ K S' ∧ xst Z et S et' ∧ xgr S S' ∧ wd Z et' S' t.heap
def xAq (Z : xz_T) (et : Nat → Nat) (S : xs_T) (K : Option Nat → xs_T → Prop) : Array Value → State → Outcome → State → Prop := fun _ _ o t => ∃ (r : Option Nat) (S' : xs_T) (et' : Nat → Nat), o = .returned (some (va_rf (r.map et'))) ∧ K r S' ∧ xst Z et S et' ∧ xgr S S' ∧ wd Z et' S' t.heap
theorem xPc.blind {av : List Value} : FrameBlind (xPc Z et S av) := fun a U g mk h => ⟨h.1, xk.same (s := U) (U := U.calling g mk a) rfl h.2.1, h.2.2⟩
variable {mc ms : Nat} {st0 : List Value} {a : Array Value}
theorem xc_run {Qa : State → Outcome → State → Prop} (hr : va_Run p l e R s m args below meth c H locs cells slots mc ms (F0 m pc ls st0) rest Qa (fun q => Z.2.2.1 ≤ q)) (hl : xl Z locs)
    (kk : ∀ (v : Option Value) (st t : State) (locs1 : List Loc), Qa st (.returned v) t → xl Z locs1 → W p l e R s m args below meth c t.heap locs1 (cells + mc) (slots + ms) Q (F0 m (pc + 3) ls (v.toList ++ rest))) : W p l e R s m args below meth c H locs cells slots Q (F0 m pc ls st0) := by
  intro T hT X
  obtain ⟨v, st₀, t, T', L, h0, X', hL, e1, e2, hq, st⟩ := hr T hT X
  obtain ⟨t2, a1, b1⟩ := kk v st₀ t (locs ++ L) hq (t_lL hl hL) T' e1 X'
  exact ⟨t2, st t2 a1, b1⟩
theorem xc_i {Nn : Nat → Nat} {K : Int32 → xs_T → Prop} (hr : va_Run p l e R s m args below meth c H locs cells slots mc ms (F0 m pc ls st0) rest (xQi Z et Nn K a) (fun q => Z.2.2.1 ≤ q)) (hl : xl Z locs)
    (kk : ∀ (r : Int32) (S1 : xs_T) (H1 : Heap) (locs1 : List Loc), K r S1 → S1.2.2.2.2 = Nn → wd Z et S1 H1 → xl Z locs1 → W p l e R s m args below meth c H1 locs1 (cells + mc) (slots + ms) Q (F0 m (pc + 3) ls (.int r :: rest))) : W p l e R s m args below meth c H locs cells slots Q (F0 m pc ls st0) :=
  xc_run hr hl (fun v st t locs1 hq hl1 => by obtain ⟨r, S1, hv, hK, hN, hw⟩ := hq; cases hv; exact kk r S1 _ _ hK hN hw hl1)
theorem xc_l {Nn : Nat → Nat} {K : Int64 → xs_T → Prop} (hr : va_Run p l e R s m args below meth c H locs cells slots mc ms (F0 m pc ls st0) rest (xQl Z et Nn K a) (fun q => Z.2.2.1 ≤ q)) (hl : xl Z locs)
    (kk : ∀ (r : Int64) (S1 : xs_T) (H1 : Heap) (locs1 : List Loc), K r S1 → S1.2.2.2.2 = Nn → wd Z et S1 H1 → xl Z locs1 → W p l e R s m args below meth c H1 locs1 (cells + mc) (slots + ms) Q (F0 m (pc + 3) ls (.long r :: rest))) : W p l e R s m args below meth c H locs cells slots Q (F0 m pc ls st0) :=
  xc_run hr hl (fun v st t locs1 hq hl1 => by obtain ⟨r, S1, hv, hK, hN, hw⟩ := hq; cases hv; exact kk r S1 _ _ hK hN hw hl1)
theorem xc_v {Nn : Nat → Nat} {K : xs_T → Prop} (hr : va_Run p l e R s m args below meth c H locs cells slots mc ms (F0 m pc ls st0) rest (xQv Z et Nn K a) (fun q => Z.2.2.1 ≤ q)) (hl : xl Z locs)
    (kk : ∀ (S1 : xs_T) (H1 : Heap) (locs1 : List Loc), K S1 → S1.2.2.2.2 = Nn → wd Z et S1 H1 → xl Z locs1 → W p l e R s m args below meth c H1 locs1 (cells + mc) (slots + ms) Q (F0 m (pc + 3) ls rest)) : W p l e R s m args below meth c H locs cells slots Q (F0 m pc ls st0) :=
  xc_run hr hl (fun v st t locs1 hq hl1 => by obtain ⟨S1, hv, hK, hN, hw⟩ := hq; cases hv; exact kk S1 _ _ hK hN hw hl1)
theorem xc_q {Nn : Nat → Nat} {K : Option Nat → xs_T → Prop} (hr : va_Run p l e R s m args below meth c H locs cells slots mc ms (F0 m pc ls st0) rest (xQq Z et Nn K a) (fun q => Z.2.2.1 ≤ q)) (hl : xl Z locs)
    (kk : ∀ (r : Option Nat) (S1 : xs_T) (H1 : Heap) (locs1 : List Loc), K r S1 → S1.2.2.2.2 = Nn → wd Z et S1 H1 → xl Z locs1 → W p l e R s m args below meth c H1 locs1 (cells + mc) (slots + ms) Q (F0 m (pc + 3) ls (va_rf (r.map et) :: rest))) : W p l e R s m args below meth c H locs cells slots Q (F0 m pc ls st0) :=
  xc_run hr hl (fun v st t locs1 hq hl1 => by obtain ⟨r, S1, hv, hK, hN, hw⟩ := hq; cases hv; exact kk r S1 _ _ hK hN hw hl1)
theorem xc_ai {K : Int32 → xs_T → Prop} (hr : va_Run p l e R s m args below meth c H locs cells slots mc ms (F0 m pc ls st0) rest (xAi Z et S K a) (fun q => Z.2.2.1 ≤ q)) (hl : xl Z locs)
    (kk : ∀ (r : Int32) (S1 : xs_T) (et1 : Nat → Nat) (H1 : Heap) (locs1 : List Loc), K r S1 → xst Z et S et1 → xgr S S1 → wd Z et1 S1 H1 → xl Z locs1 → W p l e R s m args below meth c H1 locs1 (cells + mc) (slots + ms) Q (F0 m (pc + 3) ls (.int r :: rest))) : W p l e R s m args below meth c H locs cells slots Q (F0 m pc ls st0) :=
  xc_run hr hl (fun v st t locs1 hq hl1 => by obtain ⟨r, S1, et1, hv, hK, hst, hg, hw⟩ := hq; cases hv; exact kk r S1 et1 _ _ hK hst hg hw hl1)
theorem xc_av {K : xs_T → Prop} (hr : va_Run p l e R s m args below meth c H locs cells slots mc ms (F0 m pc ls st0) rest (xAv Z et S K a) (fun q => Z.2.2.1 ≤ q)) (hl : xl Z locs)
    (kk : ∀ (S1 : xs_T) (et1 : Nat → Nat) (H1 : Heap) (locs1 : List Loc), K S1 → xst Z et S et1 → xgr S S1 → wd Z et1 S1 H1 → xl Z locs1 → W p l e R s m args below meth c H1 locs1 (cells + mc) (slots + ms) Q (F0 m (pc + 3) ls rest)) : W p l e R s m args below meth c H locs cells slots Q (F0 m pc ls st0) :=
  xc_run hr hl (fun v st t locs1 hq hl1 => by obtain ⟨S1, et1, hv, hK, hst, hg, hw⟩ := hq; cases hv; exact kk S1 et1 _ _ hK hst hg hw hl1)
theorem xc_aq {K : Option Nat → xs_T → Prop} (hr : va_Run p l e R s m args below meth c H locs cells slots mc ms (F0 m pc ls st0) rest (xAq Z et S K a) (fun q => Z.2.2.1 ≤ q)) (hl : xl Z locs)
    (kk : ∀ (r : Option Nat) (S1 : xs_T) (et1 : Nat → Nat) (H1 : Heap) (locs1 : List Loc), K r S1 → xst Z et S et1 → xgr S S1 → wd Z et1 S1 H1 → xl Z locs1 → W p l e R s m args below meth c H1 locs1 (cells + mc) (slots + ms) Q (F0 m (pc + 3) ls (va_rf (r.map et1) :: rest))) : W p l e R s m args below meth c H locs cells slots Q (F0 m pc ls st0) :=
  xc_run hr hl (fun v st t locs1 hq hl1 => by obtain ⟨r, S1, et1, hv, hK, hst, hg, hw⟩ := hq; cases hv; exact kk r S1 et1 _ _ hK hst hg hw hl1)
variable {y : MethodName} {bytes : ByteArray} {maxL n index : Nat} {ret : Option FieldType} {rm : Room} {Qc : Array Value → State → Outcome → State → Prop} {free : Addr → Prop} {C : String}
theorem xr_V {As : List Value} {i ci : Nat} {q : vw_C} {fs : List Value} (X : CallFix p m c cc nL s args (c0 :: TB) own) (hk : xk Z s) (hw : wd Z et S H) (hls : ls.size = nL) (hM : Met l y (wq y bytes maxL ret) rm (xPc Z et S (.ref (et i) :: As)) Qc mc ms free) (hG : GoodIn (c0 :: TB) (wsV own index C y (wq y bytes maxL ret))) (hE : xE Z et S i = some (.inr (ci, fs))) (hc : vwCl[ci]? = some q) (hq : q.1 = C) (hrc : rm.cells = mc) (hrs : rm.slots = ms)
    (hd : y.cls = C ∧ y.cls ≠ "java/lang/invoke/MethodHandle" ∧ y.cls ≠ "java/lang/invoke/VarHandle" ∧ (parseMethodDescriptor y.desc).map (fun d => d.parameters.length) = some n) (hR : rm.frames + 1 ≤ R.frames ∧ 8 + (maxL + 11) + rm.locals ≤ R.locals) (hst : st0 = As.reverse ++ .ref (et i) :: rest) (hrm : (rest.map fun v => v.category).sum ≤ 8) (hdg : decode cc pc = .ok (.invokevirtual index, 3)) (hf : cells + mc ≤ R.cells ∧ slots + ms ≤ R.slots) (hnn : As.length = n := by rfl) :
    va_Run p l e R s m args below meth c H locs cells slots mc ms (F0 m pc ls st0) rest (Qc (Value.ref (et i) :: As).toArray) free := by
  subst hq
  exact va_runV X hM (cwV n X.2.2.2.2 hG rfl hrc hrs hd hR) ⟨xPc.blind, va_recv hk.1 (ww.P1 hw hE) hc (q0 := 0) rfl, fun U hU hW => ⟨rfl, hk.warm hW, by rw [hU]; exact hw⟩⟩ rfl hnn hls hst (lv_room hrm) hdg hf
theorem xr_S {As : List Value} (X : CallFix p m c cc nL s args (c0 :: TB) own) (hk : xk Z s) (hw : wd Z et S H) (hls : ls.size = nL) (hM : Met l y (wq y bytes maxL ret) rm (xPc Z et S As) Qc mc ms free) (hG : GoodIn (c0 :: TB) (va_wsS own index y (wq y bytes maxL ret))) (hrc : rm.cells = mc) (hrs : rm.slots = ms)
    (hd : y.cls ≠ "java/lang/invoke/MethodHandle" ∧ y.cls ≠ "java/lang/invoke/VarHandle" ∧ (parseMethodDescriptor y.desc).map (fun d => d.parameters.length) = some n) (hR : rm.frames + 1 ≤ R.frames ∧ 8 + (maxL + 11) + rm.locals ≤ R.locals) (hst : st0 = As.reverse ++ rest) (hrm : (rest.map fun v => v.category).sum ≤ 8) (hdg : decode cc pc = .ok (.invokestatic index, 3)) (hf : cells + mc ≤ R.cells ∧ slots + ms ≤ R.slots) (hnn : As.length = n := by rfl) :
    va_Run p l e R s m args below meth c H locs cells slots mc ms (F0 m pc ls st0) rest (Qc As.toArray) free :=
  va_runS X hM (va_cwS n X.2.2.2.2 hG rfl hrc hrs hd hR) ⟨xPc.blind, fun U hU hW => ⟨rfl, hk.warm hW, by rw [hU]; exact hw⟩⟩ rfl hnn hls hst (lv_room hrm) hdg hf
end XI
end
section
section XJ
variable {p : Program} {l : Launch} {e : Env} {R : Room} {s : State} {m : MethodId} {args : Array Value} {below : List Frame} {meth : Method} {c : Code} {H : Heap} {locs : List Loc} {cells slots : Nat} {Q : State → Prop}
variable {cc : ByteArray} {pc nL : Nat} {ls : Array Slot} {rest : List Value} {Z : xz_T} {et : Nat → Nat} {S : xs_T} {c0 : Cond} {own : String}
theorem xw_get (X : CallFix p m c cc nL s args (c0 :: TB) own) (hk : xk Z s) (hw : wd Z et S H) {C : String} {T : u_T} {N ci index i : Nat} (k : Nat) {fs : List Value} {v : Value} (hE : xE Z et S i = some (.inr (ci, fs))) (hc : vwCl[ci]? = some (C, T, N)) (hin : ∀ w ∈ u_ws C T N, w ∈ TB) (hkN : k < N) (hv : fs[k]? = some v) (hlink : Cond.fieldLink own index (T k).1 (T k).2.1 (T k).2.2.1 ∈ TB) (hdg : decode cc pc = .ok (.getfield index, 3))
    (kk : W p l e R s m args below meth c H locs cells slots Q (F0 m (pc + 3) ls (v :: rest))) : W p l e R s m args below meth c H locs cells slots Q (F0 m pc ls (.ref (et i) :: rest)) :=
  xg_get (G := xE Z et S) X hk hw k hE hc hin hkN hv hlink hdg kk
theorem xw_getN (X : CallFix p m c cc nL s args (c0 :: TB) own) (hk : xk Z s) (hw : wd Z et S H) {C host : String} {T : u_T} {N ci index i : Nat} (k : Nat) {fs : List Value} {v : Value} (hE : xE Z et S i = some (.inr (ci, fs))) (hc : vwCl[ci]? = some (C, T, N)) (hin : ∀ w ∈ u_ws C T N, w ∈ TB) (hkN : k < N) (hv : fs[k]? = some v) (hlink : Cond.fieldLinkNest own index (T k).1 (T k).2.1 (T k).2.2.1 host ∈ xk_ng) (hdg : decode cc pc = .ok (.getfield index, 3))
    (kk : W p l e R s m args below meth c H locs cells slots Q (F0 m (pc + 3) ls (v :: rest))) : W p l e R s m args below meth c H locs cells slots Q (F0 m pc ls (.ref (et i) :: rest)) :=
  xg_getN (G := xE Z et S) X hk hw k hE hc hin hkN hv hlink hdg kk
theorem xw_put (X : CallFix p m c cc nL s args (c0 :: TB) own) (hk : xk Z s) (hw : wd Z et S H) (hl : xl Z locs) {C : String} {T : u_T} {N ci index i : Nat} (k : Nat) {fs : List Value} {v : Int32} (hE : xE Z et S i = some (.inr (ci, fs))) (hE' : xE Z et (sF S i k v) i = some (.inr (ci, fs.set k (.int v)))) (hc : vwCl[ci]? = some (C, T, N)) (hin : ∀ w ∈ u_ws C T N, w ∈ TB) (ty0 : Nat → FieldType) (hty : ∀ k, k < N → parseFieldDescriptor (T k).2.2.1 = some (ty0 k)) (hnm : ∀ a, a < N → ∀ b, b < N → a ≠ b → (T a).2.1 ≠ (T b).2.1) (hkN : k < N) (hlink : Cond.fieldLink own index (T k).1 (T k).2.1 (T k).2.2.1 ∈ TB) (hfin : (T k).2.2.2 = false) (hn : ty0 k = .int) (hlk : k < fs.length) (hdg : decode cc pc = .ok (.putfield index, 3))
    (kk : ∀ (H1 : Heap) (locs1 : List Loc), wd Z et (sF S i k v) H1 → xl Z locs1 → W p l e R s m args below meth c H1 locs1 cells slots Q (F0 m (pc + 3) ls rest)) : W p l e R s m args below meth c H locs cells slots Q (F0 m pc ls (.int v :: .ref (et i) :: rest)) :=
  xg_put (G := xE Z et S) X hk hw hl k hE hc hin ty0 hty hnm hkN hlink hfin (by rw [hn]; rfl) (by rw [hn]; rfl) hlk hdg (fun H1 locs1 hw1 hl1 => kk H1 locs1 (ww.at hw1 hE' (fun j hj => xE_F hj)) hl1)
theorem xw_putN (X : CallFix p m c cc nL s args (c0 :: TB) own) (hk : xk Z s) (hw : wd Z et S H) (hl : xl Z locs) {C host : String} {T : u_T} {N ci index i : Nat} (k : Nat) {fs : List Value} {v : Int32} (hE : xE Z et S i = some (.inr (ci, fs))) (hE' : xE Z et (sF S i k v) i = some (.inr (ci, fs.set k (.int v)))) (hc : vwCl[ci]? = some (C, T, N)) (hin : ∀ w ∈ u_ws C T N, w ∈ TB) (ty0 : Nat → FieldType) (hty : ∀ k, k < N → parseFieldDescriptor (T k).2.2.1 = some (ty0 k)) (hnm : ∀ a, a < N → ∀ b, b < N → a ≠ b → (T a).2.1 ≠ (T b).2.1) (hkN : k < N) (hlink : Cond.fieldLinkNest own index (T k).1 (T k).2.1 (T k).2.2.1 host ∈ xk_ng) (hfin : (T k).2.2.2 = false) (hn : ty0 k = .int) (hlk : k < fs.length) (hdg : decode cc pc = .ok (.putfield index, 3))
    (kk : ∀ (H1 : Heap) (locs1 : List Loc), wd Z et (sF S i k v) H1 → xl Z locs1 → W p l e R s m args below meth c H1 locs1 cells slots Q (F0 m (pc + 3) ls rest)) : W p l e R s m args below meth c H locs cells slots Q (F0 m pc ls (.int v :: .ref (et i) :: rest)) :=
  xg_putN (G := xE Z et S) X hk hw hl k hE hc hin ty0 hty hnm hkN hlink hfin (by rw [hn]; rfl) (by rw [hn]; rfl) hlk hdg (fun H1 locs1 hw1 hl1 => kk H1 locs1 (ww.at hw1 hE' (fun j hj => xE_F hj)) hl1)
theorem xw_putF (X : CallFix p m c cc nL s args (c0 :: TB) own) (hk : xk Z s) (hw : wd Z et S H) (hl : xl Z locs) (hin2 : meth.name = "<init>") {C : String} {T : u_T} {N ci index i : Nat} (k : Nat) {fs : List Value} {v : Int32} (hE : xE Z et S i = some (.inr (ci, fs))) (hE' : xE Z et (sF S i k v) i = some (.inr (ci, fs.set k (.int v)))) (hc : vwCl[ci]? = some (C, T, N)) (hin : ∀ w ∈ u_ws C T N, w ∈ TB) (ty0 : Nat → FieldType) (hty : ∀ k, k < N → parseFieldDescriptor (T k).2.2.1 = some (ty0 k)) (hnm : ∀ a, a < N → ∀ b, b < N → a ≠ b → (T a).2.1 ≠ (T b).2.1) (hkN : k < N) (hlink : Cond.fieldLink own index (T k).1 (T k).2.1 (T k).2.2.1 ∈ TB) (hfin : (T k).2.2.2 = true) (hdecl : (T k).1 = own) (hn : ty0 k = .int) (hlk : k < fs.length) (hdg : decode cc pc = .ok (.putfield index, 3))
    (kk : ∀ (H1 : Heap) (locs1 : List Loc), wd Z et (sF S i k v) H1 → xl Z locs1 → W p l e R s m args below meth c H1 locs1 cells slots Q (F0 m (pc + 3) ls rest)) : W p l e R s m args below meth c H locs cells slots Q (F0 m pc ls (.int v :: .ref (et i) :: rest)) :=
  xg_putF (G := xE Z et S) X hk hw hl hin2 k hE hc hin ty0 hty hnm hkN hlink hfin hdecl (by rw [hn]; rfl) (by rw [hn]; rfl) hlk hdg (fun H1 locs1 hw1 hl1 => kk H1 locs1 (ww.at hw1 hE' (fun j hj => xE_F hj)) hl1)
theorem xw_ild (X : CallFix p m c cc nL s args (c0 :: TB) own) (hk : xk Z s) (hw : wd Z et S H) {i n j : Nat} {x : Int32} (hE : xE Z et S i = ai Z n (xI S i)) (hx : x = nI j) (hj : j < n) (hn : n < 2 ^ 31) (hdg : decode cc pc = .ok (.iaload, 1))
    (kk : W p l e R s m args below meth c H locs cells slots Q (F0 m (pc + 1) ls (.int (xI S i j) :: rest))) : W p l e R s m args below meth c H locs cells slots Q (F0 m pc ls (.int x :: .ref (et i) :: rest)) := xg_ild (G := xE Z et S) X hk hw hE hx hj hn hdg kk
theorem xw_lld (X : CallFix p m c cc nL s args (c0 :: TB) own) (hk : xk Z s) (hw : wd Z et S H) {i n j : Nat} {x : Int32} (hE : xE Z et S i = al Z n (xL S i)) (hx : x = nI j) (hj : j < n) (hn : n < 2 ^ 31) (hdg : decode cc pc = .ok (.laload, 1))
    (kk : W p l e R s m args below meth c H locs cells slots Q (F0 m (pc + 1) ls (.long (xL S i j) :: rest))) : W p l e R s m args below meth c H locs cells slots Q (F0 m pc ls (.int x :: .ref (et i) :: rest)) := xg_lld (G := xE Z et S) X hk hw hE hx hj hn hdg kk
theorem xI_self (S : xs_T) (i k : Nat) (v : Int32) : xI (sI S i k v) i = va_up (xI S i) k v := va_up_self _ _ _
theorem xL_self (S : xs_T) (i k : Nat) (v : Int64) : xL (sL S i k v) i = va_up (xL S i) k v := va_up_self _ _ _
theorem xL_selft (S : xs_T) (i : Nat) (f : Nat → Int64) : xL (tL S i f) i = f := va_up_self _ _ _
theorem xQ_self (S : xs_T) (i k : Nat) (v : Option Nat) : xQ (sQ S i k v) i = va_up (xQ S i) k v := va_up_self _ _ _
theorem xw_ist (X : CallFix p m c cc nL s args (c0 :: TB) own) (hk : xk Z s) (hw : wd Z et S H) (hl : xl Z locs) {i n j : Nat} {x y : Int32} (hE : xE Z et S i = ai Z n (xI S i)) (hE' : xE Z et (sI S i j y) i = ai Z n (xI (sI S i j y) i)) (hx : x = nI j) (hj : j < n) (hn : n < 2 ^ 31) (hdg : decode cc pc = .ok (.iastore, 1))
    (kk : ∀ (H1 : Heap) (locs1 : List Loc), wd Z et (sI S i j y) H1 → xl Z locs1 → W p l e R s m args below meth c H1 locs1 cells slots Q (F0 m (pc + 1) ls rest)) : W p l e R s m args below meth c H locs cells slots Q (F0 m pc ls (.int y :: .int x :: .ref (et i) :: rest)) :=
  xg_ist (G := xE Z et S) X hk hw hl hE hx hj hn hdg (fun H1 locs1 hw1 hl1 => kk H1 locs1 (ww.at hw1 (by rw [hE', xI_self]) (fun j hj => xE_I hj)) hl1)
theorem xw_lst (X : CallFix p m c cc nL s args (c0 :: TB) own) (hk : xk Z s) (hw : wd Z et S H) (hl : xl Z locs) {i n j : Nat} {x : Int32} {y : Int64} (hE : xE Z et S i = al Z n (xL S i)) (hE' : xE Z et (sL S i j y) i = al Z n (xL (sL S i j y) i)) (hx : x = nI j) (hj : j < n) (hn : n < 2 ^ 31) (hdg : decode cc pc = .ok (.lastore, 1))
    (kk : ∀ (H1 : Heap) (locs1 : List Loc), wd Z et (sL S i j y) H1 → xl Z locs1 → W p l e R s m args below meth c H1 locs1 cells slots Q (F0 m (pc + 1) ls rest)) : W p l e R s m args below meth c H locs cells slots Q (F0 m pc ls (.long y :: .int x :: .ref (et i) :: rest)) :=
  xg_lst (G := xE Z et S) X hk hw hl hE hx hj hn hdg (fun H1 locs1 hw1 hl1 => kk H1 locs1 (ww.at hw1 (by rw [hE', xL_self]) (fun j hj => xE_L hj)) hl1)
theorem xw_len (X : CallFix p m c cc nL s args (c0 :: TB) own) (hk : xk Z s) (hw : wd Z et S H) {i n : Nat} (hE : xE Z et S i = al Z n (xL S i)) (hdg : decode cc pc = .ok (.arraylength, 1))
    (kk : W p l e R s m args below meth c H locs cells slots Q (F0 m (pc + 1) ls (.int (nI n) :: rest))) : W p l e R s m args below meth c H locs cells slots Q (F0 m pc ls (.ref (et i) :: rest)) := xg_len (G := xE Z et S) X hk hw hE hdg kk
theorem xw_cpy (X : CallFix p m c cc nL s args (c0 :: TB) own) (hk : xk Z s) (hw : wd Z et S H) (hl : xl Z locs) (hls : ls.size = nL) {i i2 n n2 sp dp k index : Nat} {x y z : Int32} (hE : xE Z et S i = al Z n (xL S i)) (hE2 : xE Z et S i2 = al Z n2 (xL S i2)) (hE' : ∀ f, xE Z et (tL S i2 f) i2 = al Z n2 (xL (tL S i2 f) i2)) (hx : x = nI sp) (hy : y = nI dp) (hz : z = nI k) (h4 : sp + k ≤ n) (h5 : dp + k ≤ n2) (hn : n < 2 ^ 31) (hn2 : n2 < 2 ^ 31)
    (hlink : Cond.methodLink own index arraycopyName ∈ TB) (hframes : 1 ≤ R.frames) (hlocals : (rest.map fun v => v.category).sum + (nativeFrameWords "java/lang/System" "arraycopy" 5 + 11) ≤ R.locals) (hdg : decode cc pc = .ok (.invokestatic index, 3))
    (kk : ∀ (H1 : Heap) (locs1 : List Loc), wd Z et (tL S i2 (va_cpy (xL S i) (xL S i2) sp dp k)) H1 → xl Z locs1 → W p l e R s m args below meth c H1 locs1 cells slots Q (F0 m (pc + 3) ls rest)) : W p l e R s m args below meth c H locs cells slots Q (F0 m pc ls (.int z :: .int y :: .ref (et i2) :: .int x :: .ref (et i) :: rest)) :=
  xg_cpy (G := xE Z et S) X hk hw hl hls hE hE2 hx hy hz h4 h5 hn hn2 hlink hframes hlocals hdg (fun H1 locs1 hw1 hl1 => kk H1 locs1 (ww.at hw1 (by rw [hE', xL_selft]) (fun j hj => xE_tL hj)) hl1)
theorem xw_qld (X : CallFix p m c cc nL s args (c0 :: TB) own) (hk : xk Z s) (hw : wd Z et S H) {i n j t0 : Nat} {C : String} {x : Int32} (hE : xE Z et S i = aq Z t0 n (fun k => (xQ S i k).map et)) (ht : [(Z.2.1 0, FieldType.int), (Z.2.1 1, .long), (Z.2.1 2, .object RX7), (Z.2.1 3, .object RX3), (Z.2.1 4, .object RX5)][t0]? = some (Z.2.1 t0, .object C)) (hx : x = nI j) (hj : j < n) (hn : n < 2 ^ 31) (hdg : decode cc pc = .ok (.aaload, 1))
    (kk : W p l e R s m args below meth c H locs cells slots Q (F0 m (pc + 1) ls (va_rf ((xQ S i j).map et) :: rest))) : W p l e R s m args below meth c H locs cells slots Q (F0 m pc ls (.int x :: .ref (et i) :: rest)) := xg_qld (G := xE Z et S) X hk hw hE ht hx hj hn hdg kk
theorem sQ_map (S : xs_T) (i j : Nat) (q : Option Nat) (et : Nat → Nat) : (fun k => (xQ (sQ S i j q) i k).map et) = va_up (fun k => (xQ S i k).map et) j (q.map et) := by
  funext k
  rw [xQ_self]
  by_cases h : k = j
  · subst h
    rw [va_up_self, va_up_self]
  · rw [va_up_ne _ _ h, va_up_ne _ _ h]
/-- what may be laid into a row of references of class E -/
def oS (E : String) (Z : xz_T) (et : Nat → Nat) (S : xs_T) (q : Option Nat) : Prop := q = none ∨ ∃ (u ci : Nat) (vs : List Value) (r : vw_C), q = some u ∧ xE Z et S u = some (.inr (ci, vs)) ∧ vwCl[ci]? = some r ∧ Cond.castable r.1 E ∈ xk_ng
theorem xw_qst (X : CallFix p m c cc nL s args (c0 :: TB) own) (hk : xk Z s) (hw : wd Z et S H) (hl : xl Z locs) {i n j t0 : Nat} {E : String} {x : Int32} (q : Option Nat) (hq : oS E Z et S q) (hE : xE Z et S i = aq Z t0 n (fun k => (xQ S i k).map et)) (hE' : xE Z et (sQ S i j q) i = aq Z t0 n (fun k => (xQ (sQ S i j q) i k).map et)) (ht : [(Z.2.1 0, FieldType.int), (Z.2.1 1, .long), (Z.2.1 2, .object RX7), (Z.2.1 3, .object RX3), (Z.2.1 4, .object RX5)][t0]? = some (Z.2.1 t0, .object E)) (hx : x = nI j) (hj : j < n) (hn : n < 2 ^ 31) (hdg : decode cc pc = .ok (.aastore, 1))
    (kk : ∀ (H1 : Heap) (locs1 : List Loc), wd Z et (sQ S i j q) H1 → xl Z locs1 → W p l e R s m args below meth c H1 locs1 cells slots Q (F0 m (pc + 1) ls rest)) : W p l e R s m args below meth c H locs cells slots Q (F0 m pc ls (va_rf (q.map et) :: .int x :: .ref (et i) :: rest)) := by
  have fin : ∀ (H1 : Heap) (locs1 : List Loc), ww Z et (va_up (xE Z et S) i (some (.inl (Z.2.1 t0, n, .inr (.inr (.inr (.inr (va_up (fun k => (xQ S i k).map et) j (q.map et))))))))) H1 → xl Z locs1 → W p l e R s m args below meth c H1 locs1 cells slots Q (F0 m (pc + 1) ls rest) := fun H1 locs1 hw1 hl1 => kk H1 locs1 (ww.at hw1 (by rw [hE', sQ_map]) (fun j hj => xE_Q hj)) hl1
  rcases hq with rfl | ⟨u, ci, vs, r, rfl, hu, hc, hca⟩
  · exact xg_qsn (G := xE Z et S) X hk hw hl hE ht hx hj hn hdg fin
  · exact xg_qst (G := xE Z et S) X hk hw hl hE ht hu hc hca hx hj hn hdg fin
theorem oS_row {S : xs_T} {u : Nat} (h : oR S u) : oS RX5 Z et S (some u) := Or.inr ⟨u, 4, _, (RX5, TX5, 2), rfl, xE_row h, rfl, xn_29⟩
theorem oS_fig {S : xs_T} {u : Nat} (h : oG S u) : oS RX3 Z et S (some u) := Or.inr ⟨u, 3, _, (RX3, TX3, 2), rfl, xE_fig h, rfl, xn_30⟩
theorem oS_T {S : xs_T} {q : Option Nat} (h : oT S q) : oS RX7 Z et S q := by
  rcases h with h | ⟨u, h, h1 | h1 | h1⟩
  · exact Or.inl h
  · exact Or.inr ⟨u, 4, _, (RX5, TX5, 2), h, xE_row h1, rfl, xn_33⟩
  · exact Or.inr ⟨u, 3, _, (RX3, TX3, 2), h, xE_fig h1, rfl, xn_32⟩
  · exact Or.inr ⟨u, 2, _, (RX2, TX2, 0), h, xE_crk h1, rfl, xn_31⟩
/-- references that may be null -/
theorem xv_aload_n (hexec : p.tables.exec = Jvm.exec) (hb : c.code = cc) {k : Fin 4} {i : Nat} {x : Option Nat} (hdg : decode cc pc = .ok (.aload_n k, 1)) (hi : (k : Nat) = i) (hl : ls[i]? = some (.val (va_rf x)))
    (kk : W p l e R s m args below meth c H locs cells slots Q (F0 m (pc + 1) ls (va_rf x :: rest))) : W p l e R s m args below meth c H locs cells slots Q (F0 m pc ls rest) := by
  cases x with
  | none => exact lv_aload_nN hexec hb hdg hi hl kk
  | some a => exact lv_aload_n hexec hb hdg hi hl kk
theorem xv_aload (hexec : p.tables.exec = Jvm.exec) (hb : c.code = cc) {i : Nat} {x : Option Nat} (hdg : decode cc pc = .ok (.aload i, 2)) (hl : ls[i]? = some (.val (va_rf x)))
    (kk : W p l e R s m args below meth c H locs cells slots Q (F0 m (pc + 2) ls (va_rf x :: rest))) : W p l e R s m args below meth c H locs cells slots Q (F0 m pc ls rest) := by
  cases x with
  | none => exact lv_aloadN hexec hb hdg hl kk
  | some a => exact lv_aload hexec hb hdg hl kk
theorem xv_astore_n (hexec : p.tables.exec = Jvm.exec) (hb : c.code = cc) {k : Fin 4} {i nL : Nat} {x : Option Nat} {lv lv' : List (Nat × Value)} (hdg : decode cc pc = .ok (.astore_n k, 1)) (hi : (k : Nat) = i) (h : lv_has ls nL lv) (hn : i < nL) (hl : (i, va_rf x) :: lv.filter (fun q => !(q.1 == i) && !(q.1 + 1 == i && q.2.category == 2)) = lv')
    (kk : ∀ ls' : Array Slot, lv_has ls' nL lv' → W p l e R s m args below meth c H locs cells slots Q (F0 m (pc + 1) ls' rest)) : W p l e R s m args below meth c H locs cells slots Q (F0 m pc ls (va_rf x :: rest)) := by
  cases x with
  | none => exact lv_astore_nN hexec hb hdg hi h hn hl kk
  | some a => exact lv_astore_n hexec hb hdg hi h hn hl kk
theorem xv_astore (hexec : p.tables.exec = Jvm.exec) (hb : c.code = cc) {i nL : Nat} {x : Option Nat} {lv lv' : List (Nat × Value)} (hdg : decode cc pc = .ok (.astore i, 2)) (h : lv_has ls nL lv) (hn : i < nL) (hl : (i, va_rf x) :: lv.filter (fun q => !(q.1 == i) && !(q.1 + 1 == i && q.2.category == 2)) = lv')
    (kk : ∀ ls' : Array Slot, lv_has ls' nL lv' → W p l e R s m args below meth c H locs cells slots Q (F0 m (pc + 2) ls' rest)) : W p l e R s m args below meth c H locs cells slots Q (F0 m pc ls (va_rf x :: rest)) := by
  cases x with
  | none => exact lv_astoreN hexec hb hdg h hn hl kk
  | some a => exact lv_astore hexec hb hdg h hn hl kk
theorem xv_ifnull (hexec : p.tables.exec = Jvm.exec) (hb : c.code = cc) {q : Option Nat} {off : Int} {tgt : Nat} (hdg : decode cc pc = .ok (.ifnull off, 3)) (ht : (pc : Int) + off = (tgt : Int))
    (kt : q = none → W p l e R s m args below meth c H locs cells slots Q (F0 m tgt ls rest)) (kf : ∀ u, q = some u → W p l e R s m args below meth c H locs cells slots Q (F0 m (pc + 3) ls rest)) : W p l e R s m args below meth c H locs cells slots Q (F0 m pc ls (va_rf (q.map et) :: rest)) := by
  cases q with
  | none => exact lv_ifnullN hexec hb hdg ht (kt rfl)
  | some u => exact lv_ifnull hexec hb hdg (kf u rfl)
theorem xv_ifnonnull (hexec : p.tables.exec = Jvm.exec) (hb : c.code = cc) {q : Option Nat} {off : Int} {tgt : Nat} (hdg : decode cc pc = .ok (.ifnonnull off, 3)) (ht : (pc : Int) + off = (tgt : Int))
    (kt : ∀ u, q = some u → W p l e R s m args below meth c H locs cells slots Q (F0 m tgt ls rest)) (kf : q = none → W p l e R s m args below meth c H locs cells slots Q (F0 m (pc + 3) ls rest)) : W p l e R s m args below meth c H locs cells slots Q (F0 m pc ls (va_rf (q.map et) :: rest)) := by
  cases q with
  | none => exact lv_ifnonnullN hexec hb hdg (kf rfl)
  | some u => exact lv_ifnonnull hexec hb hdg ht (kt u rfl)
theorem xw_instR (X : CallFix p m c cc nL s args (c0 :: TB) own) (hk : xk Z s) (hw : wd Z et S H) {q : Option Nat} {index : Nat} (hq : oT S q) (hlink : Cond.classLink own index RX5 ∈ TB) (hdg : decode cc pc = .ok (.instanceof index, 3))
    (kt : ∀ u, q = some u → oR S u → W p l e R s m args below meth c H locs cells slots Q (F0 m (pc + 3) ls (.int 1 :: rest))) (kf : ¬ iR S q → W p l e R s m args below meth c H locs cells slots Q (F0 m (pc + 3) ls (.int 0 :: rest))) : W p l e R s m args below meth c H locs cells slots Q (F0 m pc ls (va_rf (q.map et) :: rest)) := by
  have hL := X.2.2.2.2 _ (List.mem_cons_of_mem _ hlink)
  rcases hq with rfl | ⟨u, rfl, h1 | h1 | h1⟩
  · exact lv_instN X.1 X.2.1 hdg (kf (fun ⟨u, h, _⟩ => by cases h))
  · exact va_instS X.1 X.2.1 X.2.2.2.1 hL (hk.1.1 4 _ rfl).2 (va_recv hk.1 (ww.P1 hw (xE_row h1)) (ci := 4) (q0 := 0) rfl rfl) hdg (kt u rfl h1)
  · exact va_instNo X.1 X.2.1 X.2.2.2.1 hL hk.2.2.2.2.1 (va_recv hk.1 (ww.P1 hw (xE_fig h1)) (ci := 3) (q0 := 0) rfl rfl) hdg (kf (fun ⟨u', h, h2⟩ => by cases h; have := h1.1; have := h2.2.1; omega))
  · exact va_instNo X.1 X.2.1 X.2.2.2.1 hL hk.2.2.2.1 (va_recv hk.1 (ww.P1 hw (xE_crk h1)) (ci := 2) (q0 := 0) rfl rfl) hdg (kf (fun ⟨u', h, h2⟩ => by cases h; have := h1.1; have := h2.2.1; omega))
theorem xw_instG (X : CallFix p m c cc nL s args (c0 :: TB) own) (hk : xk Z s) (hw : wd Z et S H) {q : Option Nat} {index : Nat} (hq : oT S q) (hlink : Cond.classLink own index RX3 ∈ TB) (hdg : decode cc pc = .ok (.instanceof index, 3))
    (kt : ∀ u, q = some u → oG S u → W p l e R s m args below meth c H locs cells slots Q (F0 m (pc + 3) ls (.int 1 :: rest))) (kf : ¬ iG S q → W p l e R s m args below meth c H locs cells slots Q (F0 m (pc + 3) ls (.int 0 :: rest))) : W p l e R s m args below meth c H locs cells slots Q (F0 m pc ls (va_rf (q.map et) :: rest)) := by
  have hL := X.2.2.2.2 _ (List.mem_cons_of_mem _ hlink)
  rcases hq with rfl | ⟨u, rfl, h1 | h1 | h1⟩
  · exact lv_instN X.1 X.2.1 hdg (kf (fun ⟨u, h, _⟩ => by cases h))
  · exact va_instNo X.1 X.2.1 X.2.2.2.1 hL hk.2.2.2.2.2.1 (va_recv hk.1 (ww.P1 hw (xE_row h1)) (ci := 4) (q0 := 0) rfl rfl) hdg (kf (fun ⟨u', h, h2⟩ => by cases h; have := h2.1; have := h1.2.1; omega))
  · exact va_instS X.1 X.2.1 X.2.2.2.1 hL (hk.1.1 3 _ rfl).2 (va_recv hk.1 (ww.P1 hw (xE_fig h1)) (ci := 3) (q0 := 0) rfl rfl) hdg (kt u rfl h1)
  · exact va_instNo X.1 X.2.1 X.2.2.2.1 hL hk.2.2.2.2.2.2 (va_recv hk.1 (ww.P1 hw (xE_crk h1)) (ci := 2) (q0 := 0) rfl rfl) hdg (kf (fun ⟨u', h, h2⟩ => by cases h; have := h1.1; have := h2.2.1; omega))
theorem xw_castR (X : CallFix p m c cc nL s args (c0 :: TB) own) (hk : xk Z s) (hw : wd Z et S H) {u index : Nat} (h1 : oR S u) (hlink : Cond.classLink own index RX5 ∈ TB) (hdg : decode cc pc = .ok (.checkcast index, 3))
    (kk : W p l e R s m args below meth c H locs cells slots Q (F0 m (pc + 3) ls (.ref (et u) :: rest))) : W p l e R s m args below meth c H locs cells slots Q (F0 m pc ls (.ref (et u) :: rest)) :=
  va_castS X.1 X.2.1 X.2.2.2.1 (X.2.2.2.2 _ (List.mem_cons_of_mem _ hlink)) (hk.1.1 4 _ rfl).2 (va_recv hk.1 (ww.P1 hw (xE_row h1)) (ci := 4) (q0 := 0) rfl rfl) hdg kk
theorem xw_castG (X : CallFix p m c cc nL s args (c0 :: TB) own) (hk : xk Z s) (hw : wd Z et S H) {u index : Nat} (h1 : oG S u) (hlink : Cond.classLink own index RX3 ∈ TB) (hdg : decode cc pc = .ok (.checkcast index, 3))
    (kk : W p l e R s m args below meth c H locs cells slots Q (F0 m (pc + 3) ls (.ref (et u) :: rest))) : W p l e R s m args below meth c H locs cells slots Q (F0 m pc ls (.ref (et u) :: rest)) :=
  va_castS X.1 X.2.1 X.2.2.2.1 (X.2.2.2.2 _ (List.mem_cons_of_mem _ hlink)) (hk.1.1 3 _ rfl).2 (va_recv hk.1 (ww.P1 hw (xE_fig h1)) (ci := 3) (q0 := 0) rfl rfl) hdg kk
theorem oT_ne {S : xs_T} {u : Nat} (h : oT S (some u)) : xE Z et S u ≠ none := by
  rcases h with h | ⟨v, h, h1 | h1 | h1⟩
  · cases h
  · cases h; rw [xE_row h1]; exact fun h => by cases h
  · cases h; rw [xE_fig h1]; exact fun h => by cases h
  · cases h; rw [xE_crk h1]; exact fun h => by cases h
theorem oT_inj (hw : wd Z et S H) {a b : Option Nat} (ha : oT S a) (hb : oT S b) : a.map et = b.map et ↔ a = b := by
  refine ⟨fun h => ?_, fun h => by rw [h]⟩
  cases a with
  | none => cases b with
    | none => rfl
    | some v => cases h
  | some u => cases b with
    | none => cases h
    | some v =>
      have h1 : et u = et v := Option.some.inj h
      rw [hw.2.1 u v (oT_ne ha) (oT_ne hb) h1]
theorem xw_acmpne (X : CallFix p m c cc nL s args (c0 :: TB) own) (hw : wd Z et S H) {a b : Option Nat} (ha : oT S a) (hb : oT S b) {off : Int} {tgt : Nat} (hdg : decode cc pc = .ok (.if_acmp .ne off, 3)) (ht : (pc : Int) + off = (tgt : Int))
    (kt : ¬ a = b → W p l e R s m args below meth c H locs cells slots Q (F0 m tgt ls rest)) (kf : a = b → W p l e R s m args below meth c H locs cells slots Q (F0 m (pc + 3) ls rest)) : W p l e R s m args below meth c H locs cells slots Q (F0 m pc ls (va_rf (b.map et) :: va_rf (a.map et) :: rest)) :=
  lv_acmp_ne X.1 X.2.1 hdg ht (fun h => kt (fun q => h ((oT_inj hw ha hb).mpr q))) (fun h => kf ((oT_inj hw ha hb).mp h))
/-! RETURNS -/
variable {free : Addr → Prop}
theorem xt_i {Nn : Nat → Nat} {K : Int32 → xs_T → Prop} {v : Int32} (X : CallFix p m c cc nL s args (c0 :: TB) own) (hr : meth.sig.returnType = some .int) (hlocks : meth.locks = false) (hN : S.2.2.2.2 = Nn) (hw : wd Z et S H) (hl : xl Z locs) (h : K v S) (hdg : decode cc pc = .ok (.ireturn, 1)) : W p l e R s m args below meth c H locs cells slots (MQ below (xQi Z et Nn K) args s cells slots (fun q => Z.2.2.1 ≤ q)) (F0 m pc ls [.int v]) :=
  W.iret X.1 X.2.1 hr (fun t ht _ => ⟨v, S, rfl, h, hN, by rw [ht]; exact hw⟩) hl hdg hlocks
theorem xt_z {Nn : Nat → Nat} {K : Int32 → xs_T → Prop} {v : Int32} (X : CallFix p m c cc nL s args (c0 :: TB) own) (hr : meth.sig.returnType = some .boolean) (hlocks : meth.locks = false) (hN : S.2.2.2.2 = Nn) (hw : wd Z et S H) (hl : xl Z locs) (hv : v = 0 ∨ v = 1) (h : K v S) (hdg : decode cc pc = .ok (.ireturn, 1)) : W p l e R s m args below meth c H locs cells slots (MQ below (xQi Z et Nn K) args s cells slots (fun q => Z.2.2.1 ≤ q)) (F0 m pc ls [.int v]) :=
  W.zret X.1 X.2.1 hr (by rcases hv with rfl | rfl <;> rfl) (fun t ht _ => ⟨v, S, rfl, h, hN, by rw [ht]; exact hw⟩) hl hdg hlocks
theorem xt_l {Nn : Nat → Nat} {K : Int64 → xs_T → Prop} {v : Int64} (X : CallFix p m c cc nL s args (c0 :: TB) own) (hr : meth.sig.returnType = some .long) (hlocks : meth.locks = false) (hN : S.2.2.2.2 = Nn) (hw : wd Z et S H) (hl : xl Z locs) (h : K v S) (hdg : decode cc pc = .ok (.lreturn, 1)) : W p l e R s m args below meth c H locs cells slots (MQ below (xQl Z et Nn K) args s cells slots (fun q => Z.2.2.1 ≤ q)) (F0 m pc ls [.long v]) :=
  W.lret X.1 X.2.1 hr (fun t ht _ => ⟨v, S, rfl, h, hN, by rw [ht]; exact hw⟩) hl hdg hlocks
theorem xt_v {Nn : Nat → Nat} {K : xs_T → Prop} (X : CallFix p m c cc nL s args (c0 :: TB) own) (hr : meth.sig.returnType = none) (hlocks : meth.locks = false) (hN : S.2.2.2.2 = Nn) (hw : wd Z et S H) (hl : xl Z locs) (h : K S) (hdg : decode cc pc = .ok (.return_, 1)) : W p l e R s m args below meth c H locs cells slots (MQ below (xQv Z et Nn K) args s cells slots (fun q => Z.2.2.1 ≤ q)) (F0 m pc ls []) :=
  W.vret X.1 X.2.1 hr (fun t ht _ => ⟨S, rfl, h, hN, by rw [ht]; exact hw⟩) hl hdg hlocks
theorem xt_q {Nn : Nat → Nat} {K : Option Nat → xs_T → Prop} {n : String} (q : Option Nat) (X : CallFix p m c cc nL s args (c0 :: TB) own) (hr : meth.sig.returnType = some (.object n)) (hlocks : meth.locks = false) (hN : S.2.2.2.2 = Nn) (hw : wd Z et S H) (hl : xl Z locs) (h : K q S) (hdg : decode cc pc = .ok (.areturn, 1)) : W p l e R s m args below meth c H locs cells slots (MQ below (xQq Z et Nn K) args s cells slots (fun q => Z.2.2.1 ≤ q)) (F0 m pc ls [va_rf (q.map et)]) :=
  W.aret X.1 X.2.1 hr (Or.inl ⟨n, rfl⟩) (va_rf_or _) (fun t ht _ => ⟨q, S, rfl, h, hN, by rw [ht]; exact hw⟩) hl hdg hlocks
variable {S0 : xs_T} {et0 : Nat → Nat}
theorem xt_ai {K : Int32 → xs_T → Prop} {v : Int32} (X : CallFix p m c cc nL s args (c0 :: TB) own) (hr : meth.sig.returnType = some .int) (hlocks : meth.locks = false) (hst : xst Z et0 S0 et) (hg : xgr S0 S) (hw : wd Z et S H) (hl : xl Z locs) (h : K v S) (hdg : decode cc pc = .ok (.ireturn, 1)) : W p l e R s m args below meth c H locs cells slots (MQ below (xAi Z et0 S0 K) args s cells slots (fun q => Z.2.2.1 ≤ q)) (F0 m pc ls [.int v]) :=
  W.iret X.1 X.2.1 hr (fun t ht _ => ⟨v, S, et, rfl, h, hst, hg, by rw [ht]; exact hw⟩) hl hdg hlocks
theorem xt_av {K : xs_T → Prop} (X : CallFix p m c cc nL s args (c0 :: TB) own) (hr : meth.sig.returnType = none) (hlocks : meth.locks = false) (hst : xst Z et0 S0 et) (hg : xgr S0 S) (hw : wd Z et S H) (hl : xl Z locs) (h : K S) (hdg : decode cc pc = .ok (.return_, 1)) : W p l e R s m args below meth c H locs cells slots (MQ below (xAv Z et0 S0 K) args s cells slots (fun q => Z.2.2.1 ≤ q)) (F0 m pc ls []) :=
  W.vret X.1 X.2.1 hr (fun t ht _ => ⟨S, et, rfl, h, hst, hg, by rw [ht]; exact hw⟩) hl hdg hlocks
theorem xt_aq {K : Option Nat → xs_T → Prop} {n : String} (q : Option Nat) (X : CallFix p m c cc nL s args (c0 :: TB) own) (hr : meth.sig.returnType = some (.object n)) (hlocks : meth.locks = false) (hst : xst Z et0 S0 et) (hg : xgr S0 S) (hw : wd Z et S H) (hl : xl Z locs) (h : K q S) (hdg : decode cc pc = .ok (.areturn, 1)) : W p l e R s m args below meth c H locs cells slots (MQ below (xAq Z et0 S0 K) args s cells slots (fun q => Z.2.2.1 ≤ q)) (F0 m pc ls [va_rf (q.map et)]) :=
  W.aret X.1 X.2.1 hr (Or.inl ⟨n, rfl⟩) (va_rf_or _) (fun t ht _ => ⟨q, S, et, rfl, h, hst, hg, by rw [ht]; exact hw⟩) hl hdg hlocks
end XJ

/-! facts that stay -/
theorem oR_N {S S1 : xs_T} {u : Nat} (h : S1.2.2.2.2 = S.2.2.2.2) (o : oR S u) : oR S1 u := by
  unfold oR xN at *
  rw [h]; exact o
theorem oG_N {S S1 : xs_T} {u : Nat} (h : S1.2.2.2.2 = S.2.2.2.2) (o : oG S u) : oG S1 u := by
  unfold oG xN at *
  rw [h]; exact o
theorem oC_N {S S1 : xs_T} {u : Nat} (h : S1.2.2.2.2 = S.2.2.2.2) (o : oC S u) : oC S1 u := by
  unfold oC xN at *
  rw [h]; exact o
theorem oA_N {S S1 : xs_T} {u : Nat} (h : S1.2.2.2.2 = S.2.2.2.2) (o : oA S u) : oA S1 u := by
  rcases o with o | o | ⟨v, h1, h2⟩
  · exact Or.inl o
  · exact Or.inr (Or.inl o)
  · exact Or.inr (Or.inr ⟨v, h1, oR_N h h2⟩)
theorem oT_N {S S1 : xs_T} {q : Option Nat} (h : S1.2.2.2.2 = S.2.2.2.2) (o : oT S q) : oT S1 q := by
  rcases o with o | ⟨v, h1, h2 | h2 | h2⟩
  · exact Or.inl o
  · exact Or.inr ⟨v, h1, Or.inl (oR_N h h2)⟩
  · exact Or.inr ⟨v, h1, Or.inr (Or.inl (oG_N h h2))⟩
  · exact Or.inr ⟨v, h1, Or.inr (Or.inr (oC_N h h2))⟩
theorem oR_g {S S1 : xs_T} {u : Nat} (h : xgr S S1) (o : oR S u) : oR S1 u := by
  obtain ⟨h1, h2, h3, h4⟩ := o
  refine ⟨h1, h2, by have := h.1; omega, ?_⟩
  rw [h.2.2.2.2 (u + 120) (by omega) (by omega)]
  exact h4
theorem oG_g {S S1 : xs_T} {u : Nat} (h : xgr S S1) (o : oG S u) : oG S1 u := ⟨o.1, o.2.1, Nat.lt_of_lt_of_le o.2.2 (Nat.add_le_add_left h.2.1 _)⟩
theorem oC_g {S S1 : xs_T} {u : Nat} (h : xgr S S1) (o : oC S u) : oC S1 u := ⟨o.1, Nat.lt_of_lt_of_le o.2 (Nat.add_le_add_left h.2.2.1 _)⟩
theorem oT_g {S S1 : xs_T} {q : Option Nat} (h : xgr S S1) (o : oT S q) : oT S1 q := by
  rcases o with o | ⟨v, h1, h2 | h2 | h2⟩
  · exact Or.inl o
  · exact Or.inr ⟨v, h1, Or.inl (oR_g h h2)⟩
  · exact Or.inr ⟨v, h1, Or.inr (Or.inl (oG_g h h2))⟩
  · exact Or.inr ⟨v, h1, Or.inr (Or.inr (oC_g h h2))⟩
theorem xgr.trans {A B C : xs_T} (h : xgr A B) (g : xgr B C) : xgr A C := ⟨Nat.le_trans h.1 g.1, Nat.le_trans h.2.1 g.2.1, Nat.le_trans h.2.2.1 g.2.2.1, g.2.2.2.1, fun i h1 h2 => (g.2.2.2.2 i h1 (Nat.lt_of_lt_of_le h2 (Nat.add_le_add_left h.1 _))).trans (h.2.2.2.2 i h1 h2)⟩
theorem xgr.N {A B C : xs_T} (h : xgr A B) (g : C.2.2.2.2 = B.2.2.2.2) : xgr A C := by
  unfold xgr xN at *
  rw [g]; exact h
theorem xgr.refl {A : xs_T} (h : xN A 5 = 0) : xgr A A := ⟨Nat.le_refl _, Nat.le_refl _, Nat.le_refl _, h, fun _ _ _ => rfl⟩
theorem xE_dom {Z : xz_T} {et et' : Nat → Nat} {S S' : xs_T} {i : Nat} (h5 : xN S 5 = 0) (h : xgr S S') (hi : xE Z et S i ≠ none) : xE Z et' S' i ≠ none := by
  by_cases h1 : i < 64
  · intro hn
    apply hi
    unfold xE at hn ⊢
    by_cases h2 : i < 32
    · rw [if_pos h2] at hn ⊢
      unfold xEm at hn ⊢
      repeat' split at hn
      all_goals first | (cases hn; done) | (repeat rw [if_neg (by assumption)])
    · rw [if_neg h2, if_pos h1] at hn ⊢
      have hc : i = 32 ∨ i = 33 ∨ i = 34 ∨ i = 35 ∨ i = 36 ∨ i = 37 ∨ i = 38 ∨ i = 39 ∨ i = 40 ∨ i = 41 ∨ i = 42 ∨ i = 43 ∨ i = 44 ∨ i = 45 ∨ i = 46 ∨ i = 47 ∨ i = 48 ∨ i = 49 ∨ i = 50 ∨ i = 51 ∨ i = 52 ∨ i = 53 ∨ i = 54 ∨ i = 55 ∨ i = 56 ∨ i = 57 ∨ i = 58 ∨ i = 59 ∨ i = 60 ∨ i = 61 ∨ i = 62 ∨ i = 63 := by omega
      rcases hc with rfl | rfl | rfl | rfl | rfl | rfl | rfl | rfl | rfl | rfl | rfl | rfl | rfl | rfl | rfl | rfl | rfl | rfl | rfl | rfl | rfl | rfl | rfl | rfl | rfl | rfl | rfl | rfl | rfl | rfl | rfl | rfl
      all_goals first | rfl | (cases hn; done)
  · have e : ∀ (e0 : Nat → Nat) (T : xs_T), xE Z e0 T i = xEp Z e0 (xF T i) (xL T i) (xN T) i := fun e0 T => by
      unfold xE
      rw [if_neg (by omega), if_neg h1]
    rw [e] at hi ⊢
    obtain ⟨g0, g1, g2, g3, g4⟩ := h
    unfold xEp at hi ⊢
    rw [if_neg h1] at hi ⊢
    by_cases c1 : i < 184
    · rw [if_pos c1] at hi ⊢
      by_cases c2 : i < 64 + xN S 0
      · rw [if_pos (by omega)]
        exact fun h => by cases h
      · rw [if_neg c2, if_neg (by omega)] at hi
        exact absurd rfl hi
    · rw [if_neg c1] at hi ⊢
      by_cases c3 : i < 304
      · rw [if_pos c3] at hi ⊢
        by_cases c2 : i < 184 + xN S 0
        · rw [if_pos (Or.inl (by omega))]
          exact fun h => by cases h
        · rw [if_neg (by omega)] at hi
          exact absurd rfl hi
      · rw [if_neg c3] at hi ⊢
        by_cases c4 : i < 704
        · rw [if_pos c4] at hi ⊢
          by_cases c2 : i < 304 + xN S 1
          · rw [if_pos (by omega)]
            exact fun h => by cases h
          · rw [if_neg c2] at hi
            exact absurd rfl hi
        · rw [if_neg c4] at hi ⊢
          by_cases c2 : i < 704 + xN S 2
          · rw [if_pos (by omega)]
            exact fun h => by cases h
          · rw [if_neg c2] at hi
            exact absurd rfl hi
theorem xst.trans {Z : xz_T} {e0 e1 e2 : Nat → Nat} {S0 S : xs_T} (h5 : xN S0 5 = 0) (hg : xgr S0 S) (h : xst Z e0 S0 e1) (g : xst Z e1 S e2) : xst Z e0 S0 e2 := fun i hi => (g i (xE_dom h5 hg hi)).trans (h i hi)
end
section
theorem xe_0 {Z : xz_T} {et : Nat → Nat} {S : xs_T} : xE Z et S 0 = some (.inr (8, [.int (xF S 0 0), .ref (et 1), .ref (et 2), .ref (et 3), .int (xF S 0 4), .ref (et 5), .int (xF S 0 6), .ref (et 7), .int (xF S 0 8), .ref (et 9), .ref (et 10), .ref (et 11), .int (xF S 0 12), .ref (et 13), .ref (et 14), .ref (et 15), .ref (et 16), .ref (et 17), .int (xF S 0 18), .ref (et 19), .ref (et 20), .ref (et 21), .ref (et 22), .int (xF S 0 23), .int (xF S 0 24), .int (xF S 0 25), .int (xF S 0 26), .int (xF S 0 27)])) := rfl
theorem xe_32 {Z : xz_T} {et : Nat → Nat} {S : xs_T} : xE Z et S 32 = some (.inr (7, [.ref (et 33), .ref (et 34), .ref (et 35), .ref (et 36), .int (xF S 32 4), .int (xF S 32 5), .int (xF S 32 6), .int (xF S 32 7), .int (xF S 32 8)])) := rfl
theorem xe_33 {Z : xz_T} {et : Nat → Nat} {S : xs_T} : xE Z et S 33 = some (.inr (0, [.ref (et 37), .ref (et 38), .ref (et 39), .ref (et 40)])) := rfl
theorem xe_34 {Z : xz_T} {et : Nat → Nat} {S : xs_T} : xE Z et S 34 = some (.inr (6, [.ref (et 42), .ref (et 43), .ref (et 44), .ref (et 45), .ref (et 46), .int (xF S 34 5)])) := rfl
theorem xe_35 {Z : xz_T} {et : Nat → Nat} {S : xs_T} : xE Z et S 35 = some (.inr (1, [.ref (et 47), .ref (et 48), .int (xF S 35 2), .int (xF S 35 3)])) := rfl
theorem xe_40 {Z : xz_T} {et : Nat → Nat} {S : xs_T} : xE Z et S 40 = some (.inr (5, [.ref (et 41), .int (xF S 40 1), .int (xF S 40 2), .int (xF S 40 3)])) := rfl
theorem xe_1 {Z : xz_T} {et : Nat → Nat} {S : xs_T} : xE Z et S 1 = ai Z 120 (xI S 1) := rfl
theorem xe_2 {Z : xz_T} {et : Nat → Nat} {S : xs_T} : xE Z et S 2 = ai Z 120 (xI S 2) := rfl
theorem xe_3 {Z : xz_T} {et : Nat → Nat} {S : xs_T} : xE Z et S 3 = ai Z 120 (xI S 3) := rfl
theorem xe_5 {Z : xz_T} {et : Nat → Nat} {S : xs_T} : xE Z et S 5 = al Z 3000 (xL S 5) := rfl
theorem xe_7 {Z : xz_T} {et : Nat → Nat} {S : xs_T} : xE Z et S 7 = ai Z 401 (xI S 7) := rfl
theorem xe_9 {Z : xz_T} {et : Nat → Nat} {S : xs_T} : xE Z et S 9 = ai Z 10 (xI S 9) := rfl
theorem xe_10 {Z : xz_T} {et : Nat → Nat} {S : xs_T} : xE Z et S 10 = ai Z 10 (xI S 10) := rfl
theorem xe_11 {Z : xz_T} {et : Nat → Nat} {S : xs_T} : xE Z et S 11 = ai Z 10 (xI S 11) := rfl
theorem xe_13 {Z : xz_T} {et : Nat → Nat} {S : xs_T} : xE Z et S 13 = ai Z 60 (xI S 13) := rfl
theorem xe_14 {Z : xz_T} {et : Nat → Nat} {S : xs_T} : xE Z et S 14 = ai Z 60 (xI S 14) := rfl
theorem xe_15 {Z : xz_T} {et : Nat → Nat} {S : xs_T} : xE Z et S 15 = ai Z 60 (xI S 15) := rfl
theorem xe_16 {Z : xz_T} {et : Nat → Nat} {S : xs_T} : xE Z et S 16 = ai Z 60 (xI S 16) := rfl
theorem xe_17 {Z : xz_T} {et : Nat → Nat} {S : xs_T} : xE Z et S 17 = ai Z 60 (xI S 17) := rfl
theorem xe_19 {Z : xz_T} {et : Nat → Nat} {S : xs_T} : xE Z et S 19 = ai Z 20 (xI S 19) := rfl
theorem xe_20 {Z : xz_T} {et : Nat → Nat} {S : xs_T} : xE Z et S 20 = al Z 1280 (xL S 20) := rfl
theorem xe_21 {Z : xz_T} {et : Nat → Nat} {S : xs_T} : xE Z et S 21 = al Z 64 (xL S 21) := rfl
theorem xe_22 {Z : xz_T} {et : Nat → Nat} {S : xs_T} : xE Z et S 22 = al Z 64 (xL S 22) := rfl
theorem xe_36 {Z : xz_T} {et : Nat → Nat} {S : xs_T} : xE Z et S 36 = al Z 64 (xL S 36) := rfl
theorem xe_39 {Z : xz_T} {et : Nat → Nat} {S : xs_T} : xE Z et S 39 = al Z 64 (xL S 39) := rfl
theorem xe_37 {Z : xz_T} {et : Nat → Nat} {S : xs_T} : xE Z et S 37 = aq Z 2 10 (fun k => (xQ S 37 k).map et) := rfl
theorem xe_38 {Z : xz_T} {et : Nat → Nat} {S : xs_T} : xE Z et S 38 = ai Z 10 (xI S 38) := rfl
theorem xe_41 {Z : xz_T} {et : Nat → Nat} {S : xs_T} : xE Z et S 41 = aq Z 3 400 (fun k => (xQ S 41 k).map et) := rfl
theorem xe_42 {Z : xz_T} {et : Nat → Nat} {S : xs_T} : xE Z et S 42 = ai Z 60 (xI S 42) := rfl
theorem xe_43 {Z : xz_T} {et : Nat → Nat} {S : xs_T} : xE Z et S 43 = ai Z 60 (xI S 43) := rfl
theorem xe_44 {Z : xz_T} {et : Nat → Nat} {S : xs_T} : xE Z et S 44 = ai Z 60 (xI S 44) := rfl
theorem xe_45 {Z : xz_T} {et : Nat → Nat} {S : xs_T} : xE Z et S 45 = ai Z 60 (xI S 45) := rfl
theorem xe_46 {Z : xz_T} {et : Nat → Nat} {S : xs_T} : xE Z et S 46 = ai Z 60 (xI S 46) := rfl
theorem xe_47 {Z : xz_T} {et : Nat → Nat} {S : xs_T} : xE Z et S 47 = aq Z 4 20 (fun k => (xQ S 47 k).map et) := rfl
theorem xe_48 {Z : xz_T} {et : Nat → Nat} {S : xs_T} : xE Z et S 48 = al Z 1280 (xL S 48) := rfl
section XR
variable {p : Program} {l : Launch} {e : Env} {R : Room} {s : State} {m : MethodId} {args : Array Value} {below : List Frame} {meth : Method} {c : Code} {H : Heap} {locs : List Loc} {cells slots : Nat}
variable {cc : ByteArray} {pc nL : Nat} {ls : Array Slot} {rest : List Value} {Z : xz_T} {et : Nat → Nat} {S : xs_T} {c0 : Cond} {own : String} {mc ms : Nat} {st0 : List Value}
variable {y : MethodName} {bytes : ByteArray} {maxL n index : Nat} {ret : Option FieldType} {rm : Room} {Qc : Array Value → State → Outcome → State → Prop} {free : Addr → Prop}
theorem xr_I {As : List Value} {i : Nat} (X : CallFix p m c cc nL s args (c0 :: TB) own) (hk : xk Z s) (hw : wd Z et S H) (hls : ls.size = nL) (hM : Met l y (wq y bytes maxL none) rm (xPc Z et S (.ref (et i) :: As)) Qc mc ms free) (hG : GoodIn (c0 :: TB) (wq y bytes maxL none)) (hini : Cond.initialized y.cls ∈ TB) (hlk : Cond.methodLink own index y ∈ TB) (hin : Cond.instanceMethod y ∈ TB) (hy1 : y.name = "<init>") (hrc : rm.cells = mc) (hrs : rm.slots = ms)
    (hd : y.cls ≠ "java/lang/invoke/MethodHandle" ∧ y.cls ≠ "java/lang/invoke/VarHandle" ∧ (parseMethodDescriptor y.desc).map (fun d => d.parameters.length) = some n) (hR : rm.frames + 1 ≤ R.frames ∧ 8 + (maxL + 11) + rm.locals ≤ R.locals) (hst : st0 = As.reverse ++ .ref (et i) :: rest) (hrm : (rest.map fun v => v.category).sum ≤ 8) (hdg : decode cc pc = .ok (.invokespecial index, 3)) (hf : cells + mc ≤ R.cells ∧ slots + ms ≤ R.slots) (hnn : As.length = n := by rfl) :
    va_Run p l e R s m args below meth c H locs cells slots mc ms (F0 m pc ls st0) rest (Qc (Value.ref (et i) :: As).toArray) free :=
  va_runI X hM (cwI n X.2.2.2.2 hG rfl hrc hrs (X.2.2.2.2 _ (List.mem_cons_of_mem _ hini)) (X.2.2.2.2 _ (List.mem_cons_of_mem _ hlk)) (X.2.2.2.2 _ (List.mem_cons_of_mem _ hin)) hy1 hd hR) ⟨xPc.blind, fun U hU hW => ⟨rfl, hk.warm hW, by rw [hU]; exact hw⟩⟩ rfl hnn hls hst (lv_room hrm) hdg hf
theorem xr_IN {As : List Value} {i : Nat} {host : String} (X : CallFix p m c cc nL s args (c0 :: TB) own) (hk : xk Z s) (hw : wd Z et S H) (hls : ls.size = nL) (hM : Met l y (wq y bytes maxL none) rm (xPc Z et S (.ref (et i) :: As)) Qc mc ms free) (hG : GoodIn (c0 :: TB) (wq y bytes maxL none)) (hini : Cond.initialized y.cls ∈ TB) (hlk : Cond.methodLinkNest own index y host ∈ xk_ng) (hin : Cond.instanceMethod y ∈ TB) (hy1 : y.name = "<init>") (hrc : rm.cells = mc) (hrs : rm.slots = ms)
    (hd : y.cls ≠ "java/lang/invoke/MethodHandle" ∧ y.cls ≠ "java/lang/invoke/VarHandle" ∧ (parseMethodDescriptor y.desc).map (fun d => d.parameters.length) = some n) (hR : rm.frames + 1 ≤ R.frames ∧ 8 + (maxL + 11) + rm.locals ≤ R.locals) (hst : st0 = As.reverse ++ .ref (et i) :: rest) (hrm : (rest.map fun v => v.category).sum ≤ 8) (hdg : decode cc pc = .ok (.invokespecial index, 3)) (hf : cells + mc ≤ R.cells ∧ slots + ms ≤ R.slots) (hnn : As.length = n := by rfl) :
    va_Run p l e R s m args below meth c H locs cells slots mc ms (F0 m pc ls st0) rest (Qc (Value.ref (et i) :: As).toArray) free :=
  va_runIN X hM ⟨va_cnB n X.2.2.2.2 hG rfl hrc hrs (hk.2.1 _ hlk) (X.2.2.2.2 _ (List.mem_cons_of_mem _ hini)) hd hR, hy1, X.2.2.2.2 _ (List.mem_cons_of_mem _ hin)⟩ ⟨xPc.blind, fun U hU hW => ⟨rfl, hk.warm hW, by rw [hU]; exact hw⟩⟩ rfl hnn hls hst (lv_room hrm) hdg hf
end XR
end
section
def v_J9_floorMod_7cf53 (x1 : Int32) (x2 : Int32) (S : xs_T) (K : Int32 → xs_T → Prop) : Prop := (¬ x2 = 0) ∧ ((0 ≤ (x1 ^^^ x2) → K ((x1 - x1 / x2 * x2)) S) ∧ (¬ 0 ≤ (x1 ^^^ x2) → (((x1 - x1 / x2 * x2) = 0 → K ((x1 - x1 / x2 * x2)) S) ∧ (¬ (x1 - x1 / x2 * x2) = 0 → K (((x1 - x1 / x2 * x2) + x2)) S))))
set_option maxHeartbeats 4000000 in
set_option maxRecDepth 100000 in
theorem c_J9_floorMod_7cf53 (l : Launch) (Z : xz_T) (et : Nat → Nat) (S : xs_T) (x1 : Int32) (x2 : Int32) (K : Int32 → xs_T → Prop) (h : v_J9_floorMod_7cf53 x1 x2 S K) : Met l yJ9_floorMod_7cf53 (wq yJ9_floorMod_7cf53 cJ9_floorMod_7cf53 3 (some .int)) { frames := 0, cells := 0, slots := 0, locals := 0 } (xPc Z et S [.int (x1), .int (x2)]) (xQi Z et S.2.2.2.2 K) 0 0 (fun q => Z.2.2.1 ≤ q) := by
  refine va_MetF (cc := cJ9_floorMod_7cf53) (maxL := 3) (ret := (some .int)) (by decide +kernel) rfl ?_
  intro p e s m args below meth c s₁ B hml hv0
  obtain ⟨rfl, hk, hw⟩ := hv0
  have X : CallFix p m c cJ9_floorMod_7cf53 3 s _ (wq yJ9_floorMod_7cf53 cJ9_floorMod_7cf53 3 (some .int)) RJ9 := ⟨B.exec, B.bytes, hml, findClass_of_methodNamed B.named, atoms_spec (ws := (wq yJ9_floorMod_7cf53 cJ9_floorMod_7cf53 3 (some .int))) B.pre⟩
  have hr := B.returns
  have hlocks := B.notSynchronized
  have hl : xl Z [] := fun _ h => by cases h
  have hNN : S.2.2.2.2 = S.2.2.2.2 := rfl
  have hv := lv_entry [.int (x1), .int (x2)] (n := 3) (Nat.le_of_ble_eq_true rfl)
  rw [lg_entry_eq]
  generalize (lg_sl [.int (x1), .int (x2)] ++ List.replicate (3 - (lg_sl [.int (x1), .int (x2)]).length) Slot.unset).toArray = ls at hv ⊢
  replace hv : lv_has ls 3 [(0, .int (x1)), (1, .int (x2))] := hv
  unfold v_J9_floorMod_7cf53 at h
  refine lv_iload_n X.1 X.2.1 dJ9_floorMod_7cf53_0 rfl (lv_at hv 0 rfl) ?_
  refine lv_iload_n X.1 X.2.1 dJ9_floorMod_7cf53_1 rfl (lv_at hv 1 rfl) ?_
  obtain ⟨c_1, h⟩ := h
  refine lv_irem X.1 X.2.1 dJ9_floorMod_7cf53_2 c_1 ?_
  refine lv_istore_n (lv' := [(2, .int ((x1 - x1 / x2 * x2))), (0, .int (x1)), (1, .int (x2))]) X.1 X.2.1 dJ9_floorMod_7cf53_3 rfl hv (by decide) rfl (fun ls hv => ?_)
  refine lv_iload_n X.1 X.2.1 dJ9_floorMod_7cf53_4 rfl (lv_at hv 1 rfl) ?_
  refine lv_iload_n X.1 X.2.1 dJ9_floorMod_7cf53_5 rfl (lv_at hv 2 rfl) ?_
  refine lv_ixor X.1 X.2.1 dJ9_floorMod_7cf53_6 ?_
  refine lv_if_ge (tgt := 18) X.1 X.2.1 dJ9_floorMod_7cf53_7 (by decide) (fun c_2 => ?_) (fun c_2 => ?_)
  · skip
    replace h := h.1 c_2
    refine lv_iload_n X.1 X.2.1 dJ9_floorMod_7cf53_18 rfl (lv_at hv 0 rfl) ?_
    exact xt_i X hr hlocks hNN hw hl h dJ9_floorMod_7cf53_19
  · skip
    replace h := h.2 c_2
    refine lv_iload_n X.1 X.2.1 dJ9_floorMod_7cf53_10 rfl (lv_at hv 0 rfl) ?_
    refine lv_if_eq (tgt := 18) X.1 X.2.1 dJ9_floorMod_7cf53_11 (by decide) (fun c_3 => ?_) (fun c_3 => ?_)
    · skip
      replace h := h.1 c_3
      refine lv_iload_n X.1 X.2.1 dJ9_floorMod_7cf53_18 rfl (lv_at hv 0 rfl) ?_
      exact xt_i X hr hlocks hNN hw hl h dJ9_floorMod_7cf53_19
    · skip
      replace h := h.2 c_3
      refine lv_iload_n X.1 X.2.1 dJ9_floorMod_7cf53_14 rfl (lv_at hv 0 rfl) ?_
      refine lv_iload_n X.1 X.2.1 dJ9_floorMod_7cf53_15 rfl (lv_at hv 2 rfl) ?_
      refine lv_iadd X.1 X.2.1 dJ9_floorMod_7cf53_16 ?_
      exact xt_i X hr hlocks hNN hw hl h dJ9_floorMod_7cf53_17
def v_J9_abs_067f4 (x1 : Int64) (S : xs_T) (K : Int64 → xs_T → Prop) : Prop := ((0 ≤ x1 → K (x1) S) ∧ (¬ 0 ≤ x1 → K ((-x1)) S))
set_option maxHeartbeats 4000000 in
set_option maxRecDepth 100000 in
theorem c_J9_abs_067f4 (l : Launch) (Z : xz_T) (et : Nat → Nat) (S : xs_T) (x1 : Int64) (K : Int64 → xs_T → Prop) (h : v_J9_abs_067f4 x1 S K) : Met l yJ9_abs_067f4 (wq yJ9_abs_067f4 cJ9_abs_067f4 2 (some .long)) { frames := 0, cells := 0, slots := 0, locals := 0 } (xPc Z et S [.long (x1)]) (xQl Z et S.2.2.2.2 K) 0 0 (fun q => Z.2.2.1 ≤ q) := by
  refine va_MetF (cc := cJ9_abs_067f4) (maxL := 2) (ret := (some .long)) (by decide +kernel) rfl ?_
  intro p e s m args below meth c s₁ B hml hv0
  obtain ⟨rfl, hk, hw⟩ := hv0
  have X : CallFix p m c cJ9_abs_067f4 2 s _ (wq yJ9_abs_067f4 cJ9_abs_067f4 2 (some .long)) RJ9 := ⟨B.exec, B.bytes, hml, findClass_of_methodNamed B.named, atoms_spec (ws := (wq yJ9_abs_067f4 cJ9_abs_067f4 2 (some .long))) B.pre⟩
  have hr := B.returns
  have hlocks := B.notSynchronized
  have hl : xl Z [] := fun _ h => by cases h
  have hNN : S.2.2.2.2 = S.2.2.2.2 := rfl
  have hv := lv_entry [.long (x1)] (n := 2) (Nat.le_of_ble_eq_true rfl)
  rw [lg_entry_eq]
  generalize (lg_sl [.long (x1)] ++ List.replicate (2 - (lg_sl [.long (x1)]).length) Slot.unset).toArray = ls at hv ⊢
  replace hv : lv_has ls 2 [(0, .long (x1))] := hv
  unfold v_J9_abs_067f4 at h
  refine lv_lload_n X.1 X.2.1 dJ9_abs_067f4_0 rfl (lv_at hv 0 rfl) ?_
  refine lv_lconst (v := 0) X.1 X.2.1 dJ9_abs_067f4_1 rfl ?_
  refine W.lcmp X.1 X.2.1 dJ9_abs_067f4_2 ?_
  refine lv_if_ge (tgt := 11) X.1 X.2.1 dJ9_abs_067f4_3 (by decide) (fun c_1 => ?_) (fun c_1 => ?_)
  · skip
    replace c_1 := (lg_cmp_ge _ _).mp c_1
    replace h := h.1 c_1
    refine lv_lload_n X.1 X.2.1 dJ9_abs_067f4_11 rfl (lv_at hv 0 rfl) ?_
    exact xt_l X hr hlocks hNN hw hl h dJ9_abs_067f4_12
  · skip
    replace c_1 := fun q => c_1 ((lg_cmp_ge _ _).mpr q)
    replace h := h.2 c_1
    refine lv_lload_n X.1 X.2.1 dJ9_abs_067f4_6 rfl (lv_at hv 0 rfl) ?_
    refine lv_lneg X.1 X.2.1 dJ9_abs_067f4_7 ?_
    refine lv_goto (tgt := 12) X.1 X.2.1 dJ9_abs_067f4_8 (by decide) ?_
    exact xt_l X hr hlocks hNN hw hl h dJ9_abs_067f4_12
def v_J9_min_7cf53 (x1 : Int32) (x2 : Int32) (S : xs_T) (K : Int32 → xs_T → Prop) : Prop := ((x2 < x1 → K (x2) S) ∧ (¬ x2 < x1 → K (x1) S))
set_option maxHeartbeats 4000000 in
set_option maxRecDepth 100000 in
theorem c_J9_min_7cf53 (l : Launch) (Z : xz_T) (et : Nat → Nat) (S : xs_T) (x1 : Int32) (x2 : Int32) (K : Int32 → xs_T → Prop) (h : v_J9_min_7cf53 x1 x2 S K) : Met l yJ9_min_7cf53 (wq yJ9_min_7cf53 cJ9_min_7cf53 2 (some .int)) { frames := 0, cells := 0, slots := 0, locals := 0 } (xPc Z et S [.int (x1), .int (x2)]) (xQi Z et S.2.2.2.2 K) 0 0 (fun q => Z.2.2.1 ≤ q) := by
  refine va_MetF (cc := cJ9_min_7cf53) (maxL := 2) (ret := (some .int)) (by decide +kernel) rfl ?_
  intro p e s m args below meth c s₁ B hml hv0
  obtain ⟨rfl, hk, hw⟩ := hv0
  have X : CallFix p m c cJ9_min_7cf53 2 s _ (wq yJ9_min_7cf53 cJ9_min_7cf53 2 (some .int)) RJ9 := ⟨B.exec, B.bytes, hml, findClass_of_methodNamed B.named, atoms_spec (ws := (wq yJ9_min_7cf53 cJ9_min_7cf53 2 (some .int))) B.pre⟩
  have hr := B.returns
  have hlocks := B.notSynchronized
  have hl : xl Z [] := fun _ h => by cases h
  have hNN : S.2.2.2.2 = S.2.2.2.2 := rfl
  have hv := lv_entry [.int (x1), .int (x2)] (n := 2) (Nat.le_of_ble_eq_true rfl)
  rw [lg_entry_eq]
  generalize (lg_sl [.int (x1), .int (x2)] ++ List.replicate (2 - (lg_sl [.int (x1), .int (x2)]).length) Slot.unset).toArray = ls at hv ⊢
  replace hv : lv_has ls 2 [(0, .int (x1)), (1, .int (x2))] := hv
  unfold v_J9_min_7cf53 at h
  refine lv_iload_n X.1 X.2.1 dJ9_min_7cf53_0 rfl (lv_at hv 0 rfl) ?_
  refine lv_iload_n X.1 X.2.1 dJ9_min_7cf53_1 rfl (lv_at hv 1 rfl) ?_
  refine lv_icmp_gt (tgt := 9) X.1 X.2.1 dJ9_min_7cf53_2 (by decide) (fun c_1 => ?_) (fun c_1 => ?_)
  · skip
    replace h := h.1 c_1
    refine lv_iload_n X.1 X.2.1 dJ9_min_7cf53_9 rfl (lv_at hv 1 rfl) ?_
    exact xt_i X hr hlocks hNN hw hl h dJ9_min_7cf53_10
  · skip
    replace h := h.2 c_1
    refine lv_iload_n X.1 X.2.1 dJ9_min_7cf53_5 rfl (lv_at hv 0 rfl) ?_
    refine lv_goto (tgt := 10) X.1 X.2.1 dJ9_min_7cf53_6 (by decide) ?_
    exact xt_i X hr hlocks hNN hw hl h dJ9_min_7cf53_10
def v_J9_max_7cf53 (x1 : Int32) (x2 : Int32) (S : xs_T) (K : Int32 → xs_T → Prop) : Prop := ((x1 < x2 → K (x2) S) ∧ (¬ x1 < x2 → K (x1) S))
set_option maxHeartbeats 4000000 in
set_option maxRecDepth 100000 in
theorem c_J9_max_7cf53 (l : Launch) (Z : xz_T) (et : Nat → Nat) (S : xs_T) (x1 : Int32) (x2 : Int32) (K : Int32 → xs_T → Prop) (h : v_J9_max_7cf53 x1 x2 S K) : Met l yJ9_max_7cf53 (wq yJ9_max_7cf53 cJ9_max_7cf53 2 (some .int)) { frames := 0, cells := 0, slots := 0, locals := 0 } (xPc Z et S [.int (x1), .int (x2)]) (xQi Z et S.2.2.2.2 K) 0 0 (fun q => Z.2.2.1 ≤ q) := by
  refine va_MetF (cc := cJ9_max_7cf53) (maxL := 2) (ret := (some .int)) (by decide +kernel) rfl ?_
  intro p e s m args below meth c s₁ B hml hv0
  obtain ⟨rfl, hk, hw⟩ := hv0
  have X : CallFix p m c cJ9_max_7cf53 2 s _ (wq yJ9_max_7cf53 cJ9_max_7cf53 2 (some .int)) RJ9 := ⟨B.exec, B.bytes, hml, findClass_of_methodNamed B.named, atoms_spec (ws := (wq yJ9_max_7cf53 cJ9_max_7cf53 2 (some .int))) B.pre⟩
  have hr := B.returns
  have hlocks := B.notSynchronized
  have hl : xl Z [] := fun _ h => by cases h
  have hNN : S.2.2.2.2 = S.2.2.2.2 := rfl
  have hv := lv_entry [.int (x1), .int (x2)] (n := 2) (Nat.le_of_ble_eq_true rfl)
  rw [lg_entry_eq]
  generalize (lg_sl [.int (x1), .int (x2)] ++ List.replicate (2 - (lg_sl [.int (x1), .int (x2)]).length) Slot.unset).toArray = ls at hv ⊢
  replace hv : lv_has ls 2 [(0, .int (x1)), (1, .int (x2))] := hv
  unfold v_J9_max_7cf53 at h
  refine lv_iload_n X.1 X.2.1 dJ9_max_7cf53_0 rfl (lv_at hv 0 rfl) ?_
  refine lv_iload_n X.1 X.2.1 dJ9_max_7cf53_1 rfl (lv_at hv 1 rfl) ?_
  refine lv_icmp_lt (tgt := 9) X.1 X.2.1 dJ9_max_7cf53_2 (by decide) (fun c_1 => ?_) (fun c_1 => ?_)
  · skip
    replace h := h.1 c_1
    refine lv_iload_n X.1 X.2.1 dJ9_max_7cf53_9 rfl (lv_at hv 1 rfl) ?_
    exact xt_i X hr hlocks hNN hw hl h dJ9_max_7cf53_10
  · skip
    replace h := h.2 c_1
    refine lv_iload_n X.1 X.2.1 dJ9_max_7cf53_5 rfl (lv_at hv 0 rfl) ?_
    refine lv_goto (tgt := 10) X.1 X.2.1 dJ9_max_7cf53_6 (by decide) ?_
    exact xt_i X hr hlocks hNN hw hl h dJ9_max_7cf53_10
def v_Jxf58ca_isNaN_12338 (x1 : UInt32) (S : xs_T) (K : Int32 → xs_T → Prop) : Prop := ((Op.cmpValue (FP.fcmp (x1) (x1)) .l = 0 → K (0) S) ∧ (¬ Op.cmpValue (FP.fcmp (x1) (x1)) .l = 0 → K (1) S))
set_option maxHeartbeats 4000000 in
set_option maxRecDepth 100000 in
theorem c_Jxf58ca_isNaN_12338 (l : Launch) (Z : xz_T) (et : Nat → Nat) (S : xs_T) (x1 : UInt32) (K : Int32 → xs_T → Prop) (h : v_Jxf58ca_isNaN_12338 x1 S K) : Met l yJxf58ca_isNaN_12338 (wq yJxf58ca_isNaN_12338 cJxf58ca_isNaN_12338 1 (some .boolean)) { frames := 0, cells := 0, slots := 0, locals := 0 } (xPc Z et S [.float (x1)]) (xQi Z et S.2.2.2.2 K) 0 0 (fun q => Z.2.2.1 ≤ q) := by
  refine va_MetF (cc := cJxf58ca_isNaN_12338) (maxL := 1) (ret := (some .boolean)) (by decide +kernel) rfl ?_
  intro p e s m args below meth c s₁ B hml hv0
  obtain ⟨rfl, hk, hw⟩ := hv0
  have X : CallFix p m c cJxf58ca_isNaN_12338 1 s _ (wq yJxf58ca_isNaN_12338 cJxf58ca_isNaN_12338 1 (some .boolean)) RJxf58ca := ⟨B.exec, B.bytes, hml, findClass_of_methodNamed B.named, atoms_spec (ws := (wq yJxf58ca_isNaN_12338 cJxf58ca_isNaN_12338 1 (some .boolean))) B.pre⟩
  have hr := B.returns
  have hlocks := B.notSynchronized
  have hl : xl Z [] := fun _ h => by cases h
  have hNN : S.2.2.2.2 = S.2.2.2.2 := rfl
  have hv := lv_entry [.float (x1)] (n := 1) (Nat.le_of_ble_eq_true rfl)
  rw [lg_entry_eq]
  generalize (lg_sl [.float (x1)] ++ List.replicate (1 - (lg_sl [.float (x1)]).length) Slot.unset).toArray = ls at hv ⊢
  replace hv : lv_has ls 1 [(0, .float (x1))] := hv
  unfold v_Jxf58ca_isNaN_12338 at h
  refine lv_fload_n X.1 X.2.1 dJxf58ca_isNaN_12338_0 rfl (lv_at hv 0 rfl) ?_
  refine lv_fload_n X.1 X.2.1 dJxf58ca_isNaN_12338_1 rfl (lv_at hv 0 rfl) ?_
  refine lv_fcmp X.1 X.2.1 dJxf58ca_isNaN_12338_2 ?_
  refine lv_if_eq (tgt := 10) X.1 X.2.1 dJxf58ca_isNaN_12338_3 (by decide) (fun c_1 => ?_) (fun c_1 => ?_)
  · skip
    replace h := h.1 c_1
    refine lv_iconst (v := 0) X.1 X.2.1 dJxf58ca_isNaN_12338_10 (by decide) ?_
    exact xt_z X hr hlocks hNN hw hl (by decide) h dJxf58ca_isNaN_12338_11
  · skip
    replace h := h.2 c_1
    refine lv_iconst (v := 1) X.1 X.2.1 dJxf58ca_isNaN_12338_6 (by decide) ?_
    refine lv_goto (tgt := 11) X.1 X.2.1 dJxf58ca_isNaN_12338_7 (by decide) ?_
    exact xt_z X hr hlocks hNN hw hl (by decide) h dJxf58ca_isNaN_12338_11
def v_Jxf58ca_floatToIntBits_5c35a (x1 : UInt32) (S : xs_T) (K : Int32 → xs_T → Prop) : Prop := v_Jxf58ca_isNaN_12338 (x1) S (fun (r_2 : Int32) (S_1 : xs_T) => ((¬ r_2 = 0 → K (2143289344) S_1) ∧ (r_2 = 0 → K ((x1).toInt32) S_1)))
set_option maxHeartbeats 4000000 in
set_option maxRecDepth 100000 in
theorem c_Jxf58ca_floatToIntBits_5c35a (l : Launch) (Z : xz_T) (et : Nat → Nat) (S : xs_T) (x1 : UInt32) (K : Int32 → xs_T → Prop) (h : v_Jxf58ca_floatToIntBits_5c35a x1 S K) : Met l yJxf58ca_floatToIntBits_5c35a (wq yJxf58ca_floatToIntBits_5c35a cJxf58ca_floatToIntBits_5c35a 1 (some .int)) { frames := 1, cells := 0, slots := 0, locals := 30 } (xPc Z et S [.float (x1)]) (xQi Z et S.2.2.2.2 K) 0 0 (fun q => Z.2.2.1 ≤ q) := by
  refine va_MetF (cc := cJxf58ca_floatToIntBits_5c35a) (maxL := 1) (ret := (some .int)) (by decide +kernel) rfl ?_
  intro p e s m args below meth c s₁ B hml hv0
  obtain ⟨rfl, hk, hw⟩ := hv0
  have X : CallFix p m c cJxf58ca_floatToIntBits_5c35a 1 s _ (wq yJxf58ca_floatToIntBits_5c35a cJxf58ca_floatToIntBits_5c35a 1 (some .int)) RJxf58ca := ⟨B.exec, B.bytes, hml, findClass_of_methodNamed B.named, atoms_spec (ws := (wq yJxf58ca_floatToIntBits_5c35a cJxf58ca_floatToIntBits_5c35a 1 (some .int))) B.pre⟩
  have hr := B.returns
  have hlocks := B.notSynchronized
  have hl : xl Z [] := fun _ h => by cases h
  have hNN : S.2.2.2.2 = S.2.2.2.2 := rfl
  have hv := lv_entry [.float (x1)] (n := 1) (Nat.le_of_ble_eq_true rfl)
  rw [lg_entry_eq]
  generalize (lg_sl [.float (x1)] ++ List.replicate (1 - (lg_sl [.float (x1)]).length) Slot.unset).toArray = ls at hv ⊢
  replace hv : lv_has ls 1 [(0, .float (x1))] := hv
  unfold v_Jxf58ca_floatToIntBits_5c35a at h
  refine lv_fload_n X.1 X.2.1 dJxf58ca_floatToIntBits_5c35a_0 rfl (lv_at hv 0 rfl) ?_
  refine xc_i (xr_S (n := 1) X hk hw hv.1 (c_Jxf58ca_isNaN_12338 l Z et S (x1) _ h) (tb_S tw_691 tw_689 tw_690 tw_52) rfl rfl (by decide +kernel) ⟨Nat.le_of_ble_eq_true rfl, Nat.le_of_ble_eq_true rfl⟩ rfl (Nat.le_of_ble_eq_true rfl) dJxf58ca_floatToIntBits_5c35a_1 ⟨Nat.le_of_ble_eq_true rfl, Nat.le_of_ble_eq_true rfl⟩) hl (fun r_2 S_1 H locs h hN hw hl => ?_)
  replace hNN := hN.trans hNN
  refine lv_if_ne (tgt := 12) X.1 X.2.1 dJxf58ca_floatToIntBits_5c35a_4 (by decide) (fun c_3 => ?_) (fun c_3 => ?_)
  · skip
    replace h := h.1 c_3
    refine lv_ldc X.1 X.2.1 X.2.2.2.1 (X.2.2.2.2 _ (List.mem_cons_of_mem _ tw_695)) dJxf58ca_floatToIntBits_5c35a_12 ?_
    exact xt_i X hr hlocks hNN hw hl h dJxf58ca_floatToIntBits_5c35a_14
  · skip
    replace h := h.2 c_3
    refine lv_fload_n X.1 X.2.1 dJxf58ca_floatToIntBits_5c35a_7 rfl (lv_at hv 0 rfl) ?_
    refine vn_f2i X.1 X.2.1 (by rw [X.2.2.1]; exact hv.1.symm) X.2.2.2.1 (X.2.2.2.2 _ (List.mem_cons_of_mem _ tw_692)) (X.2.2.2.2 _ (List.mem_cons_of_mem _ tw_694)) (X.2.2.2.2 _ (List.mem_cons_of_mem _ tw_693)) (X.2.2.2.2 _ (List.mem_cons_of_mem _ tw_52)) (Nat.le_of_ble_eq_true rfl) (Nat.le_of_ble_eq_true rfl) dJxf58ca_floatToIntBits_5c35a_8 ?_
    exact xt_i X hr hlocks hNN hw hl h dJxf58ca_floatToIntBits_5c35a_11
def v_Jxe99ae_isNaN_b9ae7 (x1 : UInt64) (S : xs_T) (K : Int32 → xs_T → Prop) : Prop := ((Op.cmpValue (FP.dcmp (x1) (x1)) .l = 0 → K (0) S) ∧ (¬ Op.cmpValue (FP.dcmp (x1) (x1)) .l = 0 → K (1) S))
set_option maxHeartbeats 4000000 in
set_option maxRecDepth 100000 in
theorem c_Jxe99ae_isNaN_b9ae7 (l : Launch) (Z : xz_T) (et : Nat → Nat) (S : xs_T) (x1 : UInt64) (K : Int32 → xs_T → Prop) (h : v_Jxe99ae_isNaN_b9ae7 x1 S K) : Met l yJxe99ae_isNaN_b9ae7 (wq yJxe99ae_isNaN_b9ae7 cJxe99ae_isNaN_b9ae7 2 (some .boolean)) { frames := 0, cells := 0, slots := 0, locals := 0 } (xPc Z et S [.double (x1)]) (xQi Z et S.2.2.2.2 K) 0 0 (fun q => Z.2.2.1 ≤ q) := by
  refine va_MetF (cc := cJxe99ae_isNaN_b9ae7) (maxL := 2) (ret := (some .boolean)) (by decide +kernel) rfl ?_
  intro p e s m args below meth c s₁ B hml hv0
  obtain ⟨rfl, hk, hw⟩ := hv0
  have X : CallFix p m c cJxe99ae_isNaN_b9ae7 2 s _ (wq yJxe99ae_isNaN_b9ae7 cJxe99ae_isNaN_b9ae7 2 (some .boolean)) RJxe99ae := ⟨B.exec, B.bytes, hml, findClass_of_methodNamed B.named, atoms_spec (ws := (wq yJxe99ae_isNaN_b9ae7 cJxe99ae_isNaN_b9ae7 2 (some .boolean))) B.pre⟩
  have hr := B.returns
  have hlocks := B.notSynchronized
  have hl : xl Z [] := fun _ h => by cases h
  have hNN : S.2.2.2.2 = S.2.2.2.2 := rfl
  have hv := lv_entry [.double (x1)] (n := 2) (Nat.le_of_ble_eq_true rfl)
  rw [lg_entry_eq]
  generalize (lg_sl [.double (x1)] ++ List.replicate (2 - (lg_sl [.double (x1)]).length) Slot.unset).toArray = ls at hv ⊢
  replace hv : lv_has ls 2 [(0, .double (x1))] := hv
  unfold v_Jxe99ae_isNaN_b9ae7 at h
  refine lv_dload_n X.1 X.2.1 dJxe99ae_isNaN_b9ae7_0 rfl (lv_at hv 0 rfl) ?_
  refine lv_dload_n X.1 X.2.1 dJxe99ae_isNaN_b9ae7_1 rfl (lv_at hv 0 rfl) ?_
  refine lv_dcmp X.1 X.2.1 dJxe99ae_isNaN_b9ae7_2 ?_
  refine lv_if_eq (tgt := 10) X.1 X.2.1 dJxe99ae_isNaN_b9ae7_3 (by decide) (fun c_1 => ?_) (fun c_1 => ?_)
  · skip
    replace h := h.1 c_1
    refine lv_iconst (v := 0) X.1 X.2.1 dJxe99ae_isNaN_b9ae7_10 (by decide) ?_
    exact xt_z X hr hlocks hNN hw hl (by decide) h dJxe99ae_isNaN_b9ae7_11
  · skip
    replace h := h.2 c_1
    refine lv_iconst (v := 1) X.1 X.2.1 dJxe99ae_isNaN_b9ae7_6 (by decide) ?_
    refine lv_goto (tgt := 11) X.1 X.2.1 dJxe99ae_isNaN_b9ae7_7 (by decide) ?_
    exact xt_z X hr hlocks hNN hw hl (by decide) h dJxe99ae_isNaN_b9ae7_11
def v_Jxe99ae_doubleToLongBits_ccdee (x1 : UInt64) (S : xs_T) (K : Int64 → xs_T → Prop) : Prop := v_Jxe99ae_isNaN_b9ae7 (x1) S (fun (r_2 : Int32) (S_1 : xs_T) => ((¬ r_2 = 0 → K (9221120237041090560) S_1) ∧ (r_2 = 0 → K ((x1).toInt64) S_1)))
set_option maxHeartbeats 4000000 in
set_option maxRecDepth 100000 in
theorem c_Jxe99ae_doubleToLongBits_ccdee (l : Launch) (Z : xz_T) (et : Nat → Nat) (S : xs_T) (x1 : UInt64) (K : Int64 → xs_T → Prop) (h : v_Jxe99ae_doubleToLongBits_ccdee x1 S K) : Met l yJxe99ae_doubleToLongBits_ccdee (wq yJxe99ae_doubleToLongBits_ccdee cJxe99ae_doubleToLongBits_ccdee 2 (some .long)) { frames := 1, cells := 0, slots := 0, locals := 30 } (xPc Z et S [.double (x1)]) (xQl Z et S.2.2.2.2 K) 0 0 (fun q => Z.2.2.1 ≤ q) := by
  refine va_MetF (cc := cJxe99ae_doubleToLongBits_ccdee) (maxL := 2) (ret := (some .long)) (by decide +kernel) rfl ?_
  intro p e s m args below meth c s₁ B hml hv0
  obtain ⟨rfl, hk, hw⟩ := hv0
  have X : CallFix p m c cJxe99ae_doubleToLongBits_ccdee 2 s _ (wq yJxe99ae_doubleToLongBits_ccdee cJxe99ae_doubleToLongBits_ccdee 2 (some .long)) RJxe99ae := ⟨B.exec, B.bytes, hml, findClass_of_methodNamed B.named, atoms_spec (ws := (wq yJxe99ae_doubleToLongBits_ccdee cJxe99ae_doubleToLongBits_ccdee 2 (some .long))) B.pre⟩
  have hr := B.returns
  have hlocks := B.notSynchronized
  have hl : xl Z [] := fun _ h => by cases h
  have hNN : S.2.2.2.2 = S.2.2.2.2 := rfl
  have hv := lv_entry [.double (x1)] (n := 2) (Nat.le_of_ble_eq_true rfl)
  rw [lg_entry_eq]
  generalize (lg_sl [.double (x1)] ++ List.replicate (2 - (lg_sl [.double (x1)]).length) Slot.unset).toArray = ls at hv ⊢
  replace hv : lv_has ls 2 [(0, .double (x1))] := hv
  unfold v_Jxe99ae_doubleToLongBits_ccdee at h
  refine lv_dload_n X.1 X.2.1 dJxe99ae_doubleToLongBits_ccdee_0 rfl (lv_at hv 0 rfl) ?_
  refine xc_i (xr_S (n := 1) X hk hw hv.1 (c_Jxe99ae_isNaN_b9ae7 l Z et S (x1) _ h) (tb_S tw_701 tw_699 tw_700 tw_53) rfl rfl (by decide +kernel) ⟨Nat.le_of_ble_eq_true rfl, Nat.le_of_ble_eq_true rfl⟩ rfl (Nat.le_of_ble_eq_true rfl) dJxe99ae_doubleToLongBits_ccdee_1 ⟨Nat.le_of_ble_eq_true rfl, Nat.le_of_ble_eq_true rfl⟩) hl (fun r_2 S_1 H locs h hN hw hl => ?_)
  replace hNN := hN.trans hNN
  refine lv_if_ne (tgt := 12) X.1 X.2.1 dJxe99ae_doubleToLongBits_ccdee_4 (by decide) (fun c_3 => ?_) (fun c_3 => ?_)
  · skip
    replace h := h.1 c_3
    refine lv_ldc2 X.1 X.2.1 X.2.2.2.1 (X.2.2.2.2 _ (List.mem_cons_of_mem _ tw_705)) dJxe99ae_doubleToLongBits_ccdee_12 ?_
    exact xt_l X hr hlocks hNN hw hl h dJxe99ae_doubleToLongBits_ccdee_15
  · skip
    replace h := h.2 c_3
    refine lv_dload_n X.1 X.2.1 dJxe99ae_doubleToLongBits_ccdee_7 rfl (lv_at hv 0 rfl) ?_
    refine vn_d2l X.1 X.2.1 (by rw [X.2.2.1]; exact hv.1.symm) X.2.2.2.1 (X.2.2.2.2 _ (List.mem_cons_of_mem _ tw_702)) (X.2.2.2.2 _ (List.mem_cons_of_mem _ tw_704)) (X.2.2.2.2 _ (List.mem_cons_of_mem _ tw_703)) (X.2.2.2.2 _ (List.mem_cons_of_mem _ tw_53)) (Nat.le_of_ble_eq_true rfl) (Nat.le_of_ble_eq_true rfl) dJxe99ae_doubleToLongBits_ccdee_8 ?_
    exact xt_l X hr hlocks hNN hw hl h dJxe99ae_doubleToLongBits_ccdee_11
def v_X10_in (x1 : Int32) (x2 : Int32) (x3 : Int32) (S : xs_T) (K : Int32 → xs_T → Prop) : Prop := ((x1 < x2 → K (0) S) ∧ (¬ x1 < x2 → ((x3 < x1 → K (0) S) ∧ (¬ x3 < x1 → K (1) S))))
set_option maxHeartbeats 4000000 in
set_option maxRecDepth 100000 in
theorem c_X10_in (l : Launch) (Z : xz_T) (et : Nat → Nat) (S : xs_T) (x1 : Int32) (x2 : Int32) (x3 : Int32) (K : Int32 → xs_T → Prop) (h : v_X10_in x1 x2 x3 S K) : Met l yX10_in (wq yX10_in cX10_in 3 (some .boolean)) { frames := 0, cells := 0, slots := 0, locals := 0 } (xPc Z et S [.int (x1), .int (x2), .int (x3)]) (xQi Z et S.2.2.2.2 K) 0 0 (fun q => Z.2.2.1 ≤ q) := by
  refine Met.ofW (cc := cX10_in) (maxL := 3) (ret := (some .boolean)) (by decide +kernel) rfl ?_
  intro p e s m args below meth c s₁ B hml hv0
  obtain ⟨rfl, hk, hw⟩ := hv0
  have X : CallFix p m c cX10_in 3 s _ (wq yX10_in cX10_in 3 (some .boolean)) RX10 := ⟨B.exec, B.bytes, hml, findClass_of_methodNamed B.named, atoms_spec (ws := (wq yX10_in cX10_in 3 (some .boolean))) B.pre⟩
  have hr := B.returns
  have hlocks := B.notSynchronized
  have hl : xl Z [] := fun _ h => by cases h
  have hNN : S.2.2.2.2 = S.2.2.2.2 := rfl
  have hv := lv_entry [.int (x1), .int (x2), .int (x3)] (n := 3) (Nat.le_of_ble_eq_true rfl)
  rw [lg_entry_eq]
  generalize (lg_sl [.int (x1), .int (x2), .int (x3)] ++ List.replicate (3 - (lg_sl [.int (x1), .int (x2), .int (x3)]).length) Slot.unset).toArray = ls at hv ⊢
  replace hv : lv_has ls 3 [(0, .int (x1)), (1, .int (x2)), (2, .int (x3))] := hv
  unfold v_X10_in at h
  refine lv_iload_n X.1 X.2.1 dX10_in_0 rfl (lv_at hv 0 rfl) ?_
  refine lv_iload_n X.1 X.2.1 dX10_in_1 rfl (lv_at hv 1 rfl) ?_
  refine lv_icmp_lt (tgt := 14) X.1 X.2.1 dX10_in_2 (by decide) (fun c_1 => ?_) (fun c_1 => ?_)
  · skip
    replace h := h.1 c_1
    refine lv_iconst (v := 0) X.1 X.2.1 dX10_in_14 (by decide) ?_
    exact xt_z X hr hlocks hNN hw hl (by decide) h dX10_in_15
  · skip
    replace h := h.2 c_1
    refine lv_iload_n X.1 X.2.1 dX10_in_5 rfl (lv_at hv 0 rfl) ?_
    refine lv_iload_n X.1 X.2.1 dX10_in_6 rfl (lv_at hv 2 rfl) ?_
    refine lv_icmp_gt (tgt := 14) X.1 X.2.1 dX10_in_7 (by decide) (fun c_2 => ?_) (fun c_2 => ?_)
    · skip
      replace h := h.1 c_2
      refine lv_iconst (v := 0) X.1 X.2.1 dX10_in_14 (by decide) ?_
      exact xt_z X hr hlocks hNN hw hl (by decide) h dX10_in_15
    · skip
      replace h := h.2 c_2
      refine lv_iconst (v := 1) X.1 X.2.1 dX10_in_10 (by decide) ?_
      refine lv_goto (tgt := 15) X.1 X.2.1 dX10_in_11 (by decide) ?_
      exact xt_z X hr hlocks hNN hw hl (by decide) h dX10_in_15
def v_X10_isOrder_155 (K : Int32 → xs_T → Prop) (a0 : Int32) (a1 : Int32) (t0 : Int32) (S : xs_T) : Prop := v_X10_in (a0) (0) (12) S (fun (r_32 : Int32) (S_31 : xs_T) => ((r_32 = 0 → K (0) S_31) ∧ (¬ r_32 = 0 → v_X10_in (a1) (0) (9) S_31 (fun (r_35 : Int32) (S_34 : xs_T) => ((r_35 = 0 → K (0) S_34) ∧ (¬ r_35 = 0 → ((t0 = 0 → K (0) S_34) ∧ (¬ t0 = 0 → K (1) S_34))))))))
def v_X10_isOrder_150 (K : Int32 → xs_T → Prop) (a0 : Int32) (a1 : Int32) (S : xs_T) : Prop := v_X10_isOrder_155 K (a0) (a1) (1) S
def v_X10_isOrder_103 (K : Int32 → xs_T → Prop) (a0 : Int32) (a1 : Int32) (a2 : Int32) (t0 : Int32) (S : xs_T) : Prop := ((t0 = 0 → ((¬ a0 = 5 → ((¬ a0 = 9 → v_X10_isOrder_150 K (a0) (a1) S) ∧ (a0 = 9 → v_X10_in (a2) (0) (5) S (fun (r_25 : Int32) (S_24 : xs_T) => ((r_25 = 0 → v_X10_isOrder_155 K (a0) (a1) (0) S_24) ∧ (¬ r_25 = 0 → v_X10_isOrder_150 K (a0) (a1) S_24)))))) ∧ (a0 = 5 → v_X10_in (a2) (0) (11) S (fun (r_28 : Int32) (S_27 : xs_T) => v_X10_isOrder_155 K (a0) (a1) (r_28) S_27)))) ∧ (¬ t0 = 0 → v_X10_in (a2) (0) (9) S (fun (r_30 : Int32) (S_29 : xs_T) => v_X10_isOrder_155 K (a0) (a1) (r_30) S_29)))
def v_X10_isOrder_98 (K : Int32 → xs_T → Prop) (a0 : Int32) (a1 : Int32) (a2 : Int32) (S : xs_T) : Prop := v_X10_isOrder_103 K (a0) (a1) (a2) (1) S
def v_X10_isOrder (x1 : Int32) (x2 : Int32) (x3 : Int32) (x4 : Int32) (S : xs_T) (K : Int32 → xs_T → Prop) : Prop := ((¬ x1 = 13 → ((¬ x1 = 14 → ((x1 = 1 → v_X10_isOrder_98 K (x1) (x2) (x3) S) ∧ (¬ x1 = 1 → ((x1 = 6 → v_X10_isOrder_98 K (x1) (x2) (x3) S) ∧ (¬ x1 = 6 → ((x1 = 7 → v_X10_isOrder_98 K (x1) (x2) (x3) S) ∧ (¬ x1 = 7 → ((x1 = 8 → v_X10_isOrder_98 K (x1) (x2) (x3) S) ∧ (¬ x1 = 8 → ((x1 = 11 → v_X10_isOrder_98 K (x1) (x2) (x3) S) ∧ (¬ x1 = 11 → ((¬ x1 = 12 → v_X10_isOrder_103 K (x1) (x2) (x3) (0) S) ∧ (x1 = 12 → v_X10_isOrder_98 K (x1) (x2) (x3) S))))))))))))) ∧ (x1 = 14 → v_X10_in (x3) (1) (60) S (fun (r_10 : Int32) (S_9 : xs_T) => ((r_10 = 0 → K (0) S_9) ∧ (¬ r_10 = 0 → v_X10_in (x4) (0) (20) S_9 (fun (r_13 : Int32) (S_12 : xs_T) => ((r_13 = 0 → K (0) S_12) ∧ (¬ r_13 = 0 → K (1) S_12))))))))) ∧ (x1 = 13 → v_X10_in (x2) (0) (5) S (fun (r_16 : Int32) (S_15 : xs_T) => ((r_16 = 0 → K (0) S_15) ∧ (¬ r_16 = 0 → v_X10_in (x4) (0) (60) S_15 (fun (r_19 : Int32) (S_18 : xs_T) => ((r_19 = 0 → K (0) S_18) ∧ (¬ r_19 = 0 → K (1) S_18))))))))
set_option maxHeartbeats 4000000 in
set_option maxRecDepth 100000 in
theorem j_X10_isOrder_155 {l : Launch} {p : Program} {e : Env} {s : State} {m : MethodId} {args : Array Value} {below : List Frame} {meth : Method} {c : Code} {Z : xz_T} {et : Nat → Nat} {Nn : Nat → Nat} {K : Int32 → xs_T → Prop} (X : CallFix p m c cX10_isOrder 6 s args (wq yX10_isOrder cX10_isOrder 6 (some .boolean)) RX10) (hk : xk Z s) (hr : meth.sig.returnType = (some .boolean)) (hlocks : meth.locks = false) : ∀ (a0 : Int32) (a1 : Int32) (t0 : Int32) (S : xs_T) (H : Heap) (locs : List Loc) (ls : Array Slot), v_X10_isOrder_155 K a0 a1 t0 S → S.2.2.2.2 = Nn → wd Z et S H → xl Z locs → lv_has ls 6 [(0, .int (a0)), (1, .int (a1))] → W p l e (headSpec (wq yX10_isOrder cX10_isOrder 6 (some .boolean)) { frames := 1, cells := 0, slots := 0, locals := 22 }).room s m args below meth c H locs 0 0 (MQ below (xQi Z et Nn K) args s 0 0 (fun q => Z.2.2.1 ≤ q)) (F0 m 155 ls [.int (t0)]) := by
  intro a0 a1 t0 S H locs ls h hNN hw hl hv
  unfold v_X10_isOrder_155 at h
  refine lv_istore (lv' := [(5, .int (t0)), (0, .int (a0)), (1, .int (a1))]) X.1 X.2.1 dX10_isOrder_155 hv (by decide) rfl (fun ls hv => ?_)
  refine lv_iload_n X.1 X.2.1 dX10_isOrder_157 rfl (lv_at hv 1 rfl) ?_
  refine lv_iconst (v := 0) X.1 X.2.1 dX10_isOrder_158 (by decide) ?_
  refine lv_bipush (v := 12) X.1 X.2.1 dX10_isOrder_159 (by decide) ?_
  refine xc_i (xr_S (n := 3) X hk hw hv.1 (c_X10_in l Z et S (a0) (0) (12) _ h) (tb_S tw_613 tw_611 tw_612 tw_44) rfl rfl (by decide +kernel) ⟨Nat.le_of_ble_eq_true rfl, Nat.le_of_ble_eq_true rfl⟩ rfl (Nat.le_of_ble_eq_true rfl) dX10_isOrder_161 ⟨Nat.le_of_ble_eq_true rfl, Nat.le_of_ble_eq_true rfl⟩) hl (fun r_32 S_31 H locs h hN hw hl => ?_)
  replace hNN := hN.trans hNN
  refine lv_if_eq (tgt := 186) X.1 X.2.1 dX10_isOrder_164 (by decide) (fun c_33 => ?_) (fun c_33 => ?_)
  · skip
    replace h := h.1 c_33
    refine lv_iconst (v := 0) X.1 X.2.1 dX10_isOrder_186 (by decide) ?_
    exact xt_z X hr hlocks hNN hw hl (by decide) h dX10_isOrder_187
  · skip
    replace h := h.2 c_33
    refine lv_iload_n X.1 X.2.1 dX10_isOrder_167 rfl (lv_at hv 2 rfl) ?_
    refine lv_iconst (v := 0) X.1 X.2.1 dX10_isOrder_168 (by decide) ?_
    refine lv_bipush (v := 9) X.1 X.2.1 dX10_isOrder_169 (by decide) ?_
    refine xc_i (xr_S (n := 3) X hk hw hv.1 (c_X10_in l Z et S_31 (a1) (0) (9) _ h) (tb_S tw_613 tw_611 tw_612 tw_44) rfl rfl (by decide +kernel) ⟨Nat.le_of_ble_eq_true rfl, Nat.le_of_ble_eq_true rfl⟩ rfl (Nat.le_of_ble_eq_true rfl) dX10_isOrder_171 ⟨Nat.le_of_ble_eq_true rfl, Nat.le_of_ble_eq_true rfl⟩) hl (fun r_35 S_34 H locs h hN hw hl => ?_)
    replace hNN := hN.trans hNN
    refine lv_if_eq (tgt := 186) X.1 X.2.1 dX10_isOrder_174 (by decide) (fun c_36 => ?_) (fun c_36 => ?_)
    · skip
      replace h := h.1 c_36
      refine lv_iconst (v := 0) X.1 X.2.1 dX10_isOrder_186 (by decide) ?_
      exact xt_z X hr hlocks hNN hw hl (by decide) h dX10_isOrder_187
    · skip
      replace h := h.2 c_36
      refine lv_iload X.1 X.2.1 dX10_isOrder_177 (lv_at hv 0 rfl) ?_
      refine lv_if_eq (tgt := 186) X.1 X.2.1 dX10_isOrder_179 (by decide) (fun c_37 => ?_) (fun c_37 => ?_)
      · skip
        replace h := h.1 c_37
        refine lv_iconst (v := 0) X.1 X.2.1 dX10_isOrder_186 (by decide) ?_
        exact xt_z X hr hlocks hNN hw hl (by decide) h dX10_isOrder_187
      · skip
        replace h := h.2 c_37
        refine lv_iconst (v := 1) X.1 X.2.1 dX10_isOrder_182 (by decide) ?_
        refine lv_goto (tgt := 187) X.1 X.2.1 dX10_isOrder_183 (by decide) ?_
        exact xt_z X hr hlocks hNN hw hl (by decide) h dX10_isOrder_187
set_option maxHeartbeats 4000000 in
set_option maxRecDepth 100000 in
theorem j_X10_isOrder_150 {l : Launch} {p : Program} {e : Env} {s : State} {m : MethodId} {args : Array Value} {below : List Frame} {meth : Method} {c : Code} {Z : xz_T} {et : Nat → Nat} {Nn : Nat → Nat} {K : Int32 → xs_T → Prop} (X : CallFix p m c cX10_isOrder 6 s args (wq yX10_isOrder cX10_isOrder 6 (some .boolean)) RX10) (hk : xk Z s) (hr : meth.sig.returnType = (some .boolean)) (hlocks : meth.locks = false) : ∀ (a0 : Int32) (a1 : Int32) (S : xs_T) (H : Heap) (locs : List Loc) (ls : Array Slot), v_X10_isOrder_150 K a0 a1 S → S.2.2.2.2 = Nn → wd Z et S H → xl Z locs → lv_has ls 6 [(0, .int (a0)), (1, .int (a1))] → W p l e (headSpec (wq yX10_isOrder cX10_isOrder 6 (some .boolean)) { frames := 1, cells := 0, slots := 0, locals := 22 }).room s m args below meth c H locs 0 0 (MQ below (xQi Z et Nn K) args s 0 0 (fun q => Z.2.2.1 ≤ q)) (F0 m 150 ls []) := by
  intro a0 a1 S H locs ls h hNN hw hl hv
  unfold v_X10_isOrder_150 at h
  refine lv_iconst (v := 1) X.1 X.2.1 dX10_isOrder_150 (by decide) ?_
  refine lv_goto (tgt := 155) X.1 X.2.1 dX10_isOrder_151 (by decide) ?_
  exact j_X10_isOrder_155 X hk hr hlocks (a0) (a1) (1) S _ _ _ h hNN hw hl (lv_sub hv [0, 1] rfl)
set_option maxHeartbeats 4000000 in
set_option maxRecDepth 100000 in
theorem j_X10_isOrder_103 {l : Launch} {p : Program} {e : Env} {s : State} {m : MethodId} {args : Array Value} {below : List Frame} {meth : Method} {c : Code} {Z : xz_T} {et : Nat → Nat} {Nn : Nat → Nat} {K : Int32 → xs_T → Prop} (X : CallFix p m c cX10_isOrder 6 s args (wq yX10_isOrder cX10_isOrder 6 (some .boolean)) RX10) (hk : xk Z s) (hr : meth.sig.returnType = (some .boolean)) (hlocks : meth.locks = false) : ∀ (a0 : Int32) (a1 : Int32) (a2 : Int32) (t0 : Int32) (S : xs_T) (H : Heap) (locs : List Loc) (ls : Array Slot), v_X10_isOrder_103 K a0 a1 a2 t0 S → S.2.2.2.2 = Nn → wd Z et S H → xl Z locs → lv_has ls 6 [(0, .int (a0)), (1, .int (a1)), (2, .int (a2))] → W p l e (headSpec (wq yX10_isOrder cX10_isOrder 6 (some .boolean)) { frames := 1, cells := 0, slots := 0, locals := 22 }).room s m args below meth c H locs 0 0 (MQ below (xQi Z et Nn K) args s 0 0 (fun q => Z.2.2.1 ≤ q)) (F0 m 103 ls [.int (t0)]) := by
  intro a0 a1 a2 t0 S H locs ls h hNN hw hl hv
  unfold v_X10_isOrder_103 at h
  refine lv_istore (lv' := [(4, .int (t0)), (0, .int (a0)), (1, .int (a1)), (2, .int (a2))]) X.1 X.2.1 dX10_isOrder_103 hv (by decide) rfl (fun ls hv => ?_)
  refine lv_iload X.1 X.2.1 dX10_isOrder_105 (lv_at hv 0 rfl) ?_
  refine lv_if_eq (tgt := 120) X.1 X.2.1 dX10_isOrder_107 (by decide) (fun c_21 => ?_) (fun c_21 => ?_)
  · skip
    replace h := h.1 c_21
    refine lv_iload_n X.1 X.2.1 dX10_isOrder_120 rfl (lv_at hv 1 rfl) ?_
    refine lv_iconst (v := 5) X.1 X.2.1 dX10_isOrder_121 (by decide) ?_
    refine lv_icmp_ne (tgt := 135) X.1 X.2.1 dX10_isOrder_122 (by decide) (fun c_22 => ?_) (fun c_22 => ?_)
    · skip
      replace h := h.1 c_22
      refine lv_iload_n X.1 X.2.1 dX10_isOrder_135 rfl (lv_at hv 1 rfl) ?_
      refine lv_bipush (v := 9) X.1 X.2.1 dX10_isOrder_136 (by decide) ?_
      refine lv_icmp_ne (tgt := 150) X.1 X.2.1 dX10_isOrder_138 (by decide) (fun c_23 => ?_) (fun c_23 => ?_)
      · skip
        replace h := h.1 c_23
        exact j_X10_isOrder_150 X hk hr hlocks (a0) (a1) S _ _ _ h hNN hw hl (lv_sub hv [1, 2] rfl)
      · skip
        replace h := h.2 c_23
        refine lv_iload_n X.1 X.2.1 dX10_isOrder_141 rfl (lv_at hv 3 rfl) ?_
        refine lv_iconst (v := 0) X.1 X.2.1 dX10_isOrder_142 (by decide) ?_
        refine lv_iconst (v := 5) X.1 X.2.1 dX10_isOrder_143 (by decide) ?_
        refine xc_i (xr_S (n := 3) X hk hw hv.1 (c_X10_in l Z et S (a2) (0) (5) _ h) (tb_S tw_613 tw_611 tw_612 tw_44) rfl rfl (by decide +kernel) ⟨Nat.le_of_ble_eq_true rfl, Nat.le_of_ble_eq_true rfl⟩ rfl (Nat.le_of_ble_eq_true rfl) dX10_isOrder_144 ⟨Nat.le_of_ble_eq_true rfl, Nat.le_of_ble_eq_true rfl⟩) hl (fun r_25 S_24 H locs h hN hw hl => ?_)
        replace hNN := hN.trans hNN
        refine lv_if_eq (tgt := 154) X.1 X.2.1 dX10_isOrder_147 (by decide) (fun c_26 => ?_) (fun c_26 => ?_)
        · skip
          replace h := h.1 c_26
          refine lv_iconst (v := 0) X.1 X.2.1 dX10_isOrder_154 (by decide) ?_
          exact j_X10_isOrder_155 X hk hr hlocks (a0) (a1) (0) S_24 _ _ _ h hNN hw hl (lv_sub hv [1, 2] rfl)
        · skip
          replace h := h.2 c_26
          exact j_X10_isOrder_150 X hk hr hlocks (a0) (a1) S_24 _ _ _ h hNN hw hl (lv_sub hv [1, 2] rfl)
    · skip
      replace h := h.2 c_22
      refine lv_iload_n X.1 X.2.1 dX10_isOrder_125 rfl (lv_at hv 3 rfl) ?_
      refine lv_iconst (v := 0) X.1 X.2.1 dX10_isOrder_126 (by decide) ?_
      refine lv_bipush (v := 11) X.1 X.2.1 dX10_isOrder_127 (by decide) ?_
      refine xc_i (xr_S (n := 3) X hk hw hv.1 (c_X10_in l Z et S (a2) (0) (11) _ h) (tb_S tw_613 tw_611 tw_612 tw_44) rfl rfl (by decide +kernel) ⟨Nat.le_of_ble_eq_true rfl, Nat.le_of_ble_eq_true rfl⟩ rfl (Nat.le_of_ble_eq_true rfl) dX10_isOrder_129 ⟨Nat.le_of_ble_eq_true rfl, Nat.le_of_ble_eq_true rfl⟩) hl (fun r_28 S_27 H locs h hN hw hl => ?_)
      replace hNN := hN.trans hNN
      refine lv_goto (tgt := 155) X.1 X.2.1 dX10_isOrder_132 (by decide) ?_
      exact j_X10_isOrder_155 X hk hr hlocks (a0) (a1) (r_28) S_27 _ _ _ h hNN hw hl (lv_sub hv [1, 2] rfl)
  · skip
    replace h := h.2 c_21
    refine lv_iload_n X.1 X.2.1 dX10_isOrder_110 rfl (lv_at hv 3 rfl) ?_
    refine lv_iconst (v := 0) X.1 X.2.1 dX10_isOrder_111 (by decide) ?_
    refine lv_bipush (v := 9) X.1 X.2.1 dX10_isOrder_112 (by decide) ?_
    refine xc_i (xr_S (n := 3) X hk hw hv.1 (c_X10_in l Z et S (a2) (0) (9) _ h) (tb_S tw_613 tw_611 tw_612 tw_44) rfl rfl (by decide +kernel) ⟨Nat.le_of_ble_eq_true rfl, Nat.le_of_ble_eq_true rfl⟩ rfl (Nat.le_of_ble_eq_true rfl) dX10_isOrder_114 ⟨Nat.le_of_ble_eq_true rfl, Nat.le_of_ble_eq_true rfl⟩) hl (fun r_30 S_29 H locs h hN hw hl => ?_)
    replace hNN := hN.trans hNN
    refine lv_goto (tgt := 155) X.1 X.2.1 dX10_isOrder_117 (by decide) ?_
    exact j_X10_isOrder_155 X hk hr hlocks (a0) (a1) (r_30) S_29 _ _ _ h hNN hw hl (lv_sub hv [1, 2] rfl)
set_option maxHeartbeats 4000000 in
set_option maxRecDepth 100000 in
theorem j_X10_isOrder_98 {l : Launch} {p : Program} {e : Env} {s : State} {m : MethodId} {args : Array Value} {below : List Frame} {meth : Method} {c : Code} {Z : xz_T} {et : Nat → Nat} {Nn : Nat → Nat} {K : Int32 → xs_T → Prop} (X : CallFix p m c cX10_isOrder 6 s args (wq yX10_isOrder cX10_isOrder 6 (some .boolean)) RX10) (hk : xk Z s) (hr : meth.sig.returnType = (some .boolean)) (hlocks : meth.locks = false) : ∀ (a0 : Int32) (a1 : Int32) (a2 : Int32) (S : xs_T) (H : Heap) (locs : List Loc) (ls : Array Slot), v_X10_isOrder_98 K a0 a1 a2 S → S.2.2.2.2 = Nn → wd Z et S H → xl Z locs → lv_has ls 6 [(0, .int (a0)), (1, .int (a1)), (2, .int (a2))] → W p l e (headSpec (wq yX10_isOrder cX10_isOrder 6 (some .boolean)) { frames := 1, cells := 0, slots := 0, locals := 22 }).room s m args below meth c H locs 0 0 (MQ below (xQi Z et Nn K) args s 0 0 (fun q => Z.2.2.1 ≤ q)) (F0 m 98 ls []) := by
  intro a0 a1 a2 S H locs ls h hNN hw hl hv
  unfold v_X10_isOrder_98 at h
  refine lv_iconst (v := 1) X.1 X.2.1 dX10_isOrder_98 (by decide) ?_
  refine lv_goto (tgt := 103) X.1 X.2.1 dX10_isOrder_99 (by decide) ?_
  exact j_X10_isOrder_103 X hk hr hlocks (a0) (a1) (a2) (1) S _ _ _ h hNN hw hl (lv_sub hv [0, 1, 2] rfl)
set_option maxHeartbeats 4000000 in
set_option maxRecDepth 100000 in
theorem c_X10_isOrder (l : Launch) (Z : xz_T) (et : Nat → Nat) (S : xs_T) (x1 : Int32) (x2 : Int32) (x3 : Int32) (x4 : Int32) (K : Int32 → xs_T → Prop) (h : v_X10_isOrder x1 x2 x3 x4 S K) : Met l yX10_isOrder (wq yX10_isOrder cX10_isOrder 6 (some .boolean)) { frames := 1, cells := 0, slots := 0, locals := 22 } (xPc Z et S [.int (x1), .int (x2), .int (x3), .int (x4)]) (xQi Z et S.2.2.2.2 K) 0 0 (fun q => Z.2.2.1 ≤ q) := by
  refine Met.ofW (cc := cX10_isOrder) (maxL := 6) (ret := (some .boolean)) (by decide +kernel) rfl ?_
  intro p e s m args below meth c s₁ B hml hv0
  obtain ⟨rfl, hk, hw⟩ := hv0
  have X : CallFix p m c cX10_isOrder 6 s _ (wq yX10_isOrder cX10_isOrder 6 (some .boolean)) RX10 := ⟨B.exec, B.bytes, hml, findClass_of_methodNamed B.named, atoms_spec (ws := (wq yX10_isOrder cX10_isOrder 6 (some .boolean))) B.pre⟩
  have hr := B.returns
  have hlocks := B.notSynchronized
  have hl : xl Z [] := fun _ h => by cases h
  have hNN : S.2.2.2.2 = S.2.2.2.2 := rfl
  have hv := lv_entry [.int (x1), .int (x2), .int (x3), .int (x4)] (n := 6) (Nat.le_of_ble_eq_true rfl)
  rw [lg_entry_eq]
  generalize (lg_sl [.int (x1), .int (x2), .int (x3), .int (x4)] ++ List.replicate (6 - (lg_sl [.int (x1), .int (x2), .int (x3), .int (x4)]).length) Slot.unset).toArray = ls at hv ⊢
  replace hv : lv_has ls 6 [(0, .int (x1)), (1, .int (x2)), (2, .int (x3)), (3, .int (x4))] := hv
  unfold v_X10_isOrder at h
  refine lv_iload_n X.1 X.2.1 dX10_isOrder_0 rfl (lv_at hv 0 rfl) ?_
  refine lv_bipush (v := 13) X.1 X.2.1 dX10_isOrder_1 (by decide) ?_
  refine lv_icmp_ne (tgt := 31) X.1 X.2.1 dX10_isOrder_3 (by decide) (fun c_1 => ?_) (fun c_1 => ?_)
  · skip
    replace h := h.1 c_1
    refine lv_iload_n X.1 X.2.1 dX10_isOrder_31 rfl (lv_at hv 0 rfl) ?_
    refine lv_bipush (v := 14) X.1 X.2.1 dX10_isOrder_32 (by decide) ?_
    refine lv_icmp_ne (tgt := 63) X.1 X.2.1 dX10_isOrder_34 (by decide) (fun c_2 => ?_) (fun c_2 => ?_)
    · skip
      replace h := h.1 c_2
      refine lv_iload_n X.1 X.2.1 dX10_isOrder_63 rfl (lv_at hv 0 rfl) ?_
      refine lv_iconst (v := 1) X.1 X.2.1 dX10_isOrder_64 (by decide) ?_
      refine lv_icmp_eq (tgt := 98) X.1 X.2.1 dX10_isOrder_65 (by decide) (fun c_3 => ?_) (fun c_3 => ?_)
      · skip
        replace h := h.1 c_3
        exact j_X10_isOrder_98 X hk hr hlocks (x1) (x2) (x3) S _ _ _ h hNN hw hl (lv_sub hv [0, 1, 2] rfl)
      · skip
        replace h := h.2 c_3
        refine lv_iload_n X.1 X.2.1 dX10_isOrder_68 rfl (lv_at hv 0 rfl) ?_
        refine lv_bipush (v := 6) X.1 X.2.1 dX10_isOrder_69 (by decide) ?_
        refine lv_icmp_eq (tgt := 98) X.1 X.2.1 dX10_isOrder_71 (by decide) (fun c_4 => ?_) (fun c_4 => ?_)
        · skip
          replace h := h.1 c_4
          exact j_X10_isOrder_98 X hk hr hlocks (x1) (x2) (x3) S _ _ _ h hNN hw hl (lv_sub hv [0, 1, 2] rfl)
        · skip
          replace h := h.2 c_4
          refine lv_iload_n X.1 X.2.1 dX10_isOrder_74 rfl (lv_at hv 0 rfl) ?_
          refine lv_bipush (v := 7) X.1 X.2.1 dX10_isOrder_75 (by decide) ?_
          refine lv_icmp_eq (tgt := 98) X.1 X.2.1 dX10_isOrder_77 (by decide) (fun c_5 => ?_) (fun c_5 => ?_)
          · skip
            replace h := h.1 c_5
            exact j_X10_isOrder_98 X hk hr hlocks (x1) (x2) (x3) S _ _ _ h hNN hw hl (lv_sub hv [0, 1, 2] rfl)
          · skip
            replace h := h.2 c_5
            refine lv_iload_n X.1 X.2.1 dX10_isOrder_80 rfl (lv_at hv 0 rfl) ?_
            refine lv_bipush (v := 8) X.1 X.2.1 dX10_isOrder_81 (by decide) ?_
            refine lv_icmp_eq (tgt := 98) X.1 X.2.1 dX10_isOrder_83 (by decide) (fun c_6 => ?_) (fun c_6 => ?_)
            · skip
              replace h := h.1 c_6
              exact j_X10_isOrder_98 X hk hr hlocks (x1) (x2) (x3) S _ _ _ h hNN hw hl (lv_sub hv [0, 1, 2] rfl)
            · skip
              replace h := h.2 c_6
              refine lv_iload_n X.1 X.2.1 dX10_isOrder_86 rfl (lv_at hv 0 rfl) ?_
              refine lv_bipush (v := 11) X.1 X.2.1 dX10_isOrder_87 (by decide) ?_
              refine lv_icmp_eq (tgt := 98) X.1 X.2.1 dX10_isOrder_89 (by decide) (fun c_7 => ?_) (fun c_7 => ?_)
              · skip
                replace h := h.1 c_7
                exact j_X10_isOrder_98 X hk hr hlocks (x1) (x2) (x3) S _ _ _ h hNN hw hl (lv_sub hv [0, 1, 2] rfl)
              · skip
                replace h := h.2 c_7
                refine lv_iload_n X.1 X.2.1 dX10_isOrder_92 rfl (lv_at hv 0 rfl) ?_
                refine lv_bipush (v := 12) X.1 X.2.1 dX10_isOrder_93 (by decide) ?_
                refine lv_icmp_ne (tgt := 102) X.1 X.2.1 dX10_isOrder_95 (by decide) (fun c_8 => ?_) (fun c_8 => ?_)
                · skip
                  replace h := h.1 c_8
                  refine lv_iconst (v := 0) X.1 X.2.1 dX10_isOrder_102 (by decide) ?_
                  exact j_X10_isOrder_103 X hk hr hlocks (x1) (x2) (x3) (0) S _ _ _ h hNN hw hl (lv_sub hv [0, 1, 2] rfl)
                · skip
                  replace h := h.2 c_8
                  exact j_X10_isOrder_98 X hk hr hlocks (x1) (x2) (x3) S _ _ _ h hNN hw hl (lv_sub hv [0, 1, 2] rfl)
    · skip
      replace h := h.2 c_2
      refine lv_iload_n X.1 X.2.1 dX10_isOrder_37 rfl (lv_at hv 2 rfl) ?_
      refine lv_iconst (v := 1) X.1 X.2.1 dX10_isOrder_38 (by decide) ?_
      refine lv_bipush (v := 60) X.1 X.2.1 dX10_isOrder_39 (by decide) ?_
      refine xc_i (xr_S (n := 3) X hk hw hv.1 (c_X10_in l Z et S (x3) (1) (60) _ h) (tb_S tw_613 tw_611 tw_612 tw_44) rfl rfl (by decide +kernel) ⟨Nat.le_of_ble_eq_true rfl, Nat.le_of_ble_eq_true rfl⟩ rfl (Nat.le_of_ble_eq_true rfl) dX10_isOrder_41 ⟨Nat.le_of_ble_eq_true rfl, Nat.le_of_ble_eq_true rfl⟩) hl (fun r_10 S_9 H locs h hN hw hl => ?_)
      replace hNN := hN.trans hNN
      refine lv_if_eq (tgt := 61) X.1 X.2.1 dX10_isOrder_44 (by decide) (fun c_11 => ?_) (fun c_11 => ?_)
      · skip
        replace h := h.1 c_11
        refine lv_iconst (v := 0) X.1 X.2.1 dX10_isOrder_61 (by decide) ?_
        exact xt_z X hr hlocks hNN hw hl (by decide) h dX10_isOrder_62
      · skip
        replace h := h.2 c_11
        refine lv_iload_n X.1 X.2.1 dX10_isOrder_47 rfl (lv_at hv 3 rfl) ?_
        refine lv_iconst (v := 0) X.1 X.2.1 dX10_isOrder_48 (by decide) ?_
        refine lv_bipush (v := 20) X.1 X.2.1 dX10_isOrder_49 (by decide) ?_
        refine xc_i (xr_S (n := 3) X hk hw hv.1 (c_X10_in l Z et S_9 (x4) (0) (20) _ h) (tb_S tw_613 tw_611 tw_612 tw_44) rfl rfl (by decide +kernel) ⟨Nat.le_of_ble_eq_true rfl, Nat.le_of_ble_eq_true rfl⟩ rfl (Nat.le_of_ble_eq_true rfl) dX10_isOrder_51 ⟨Nat.le_of_ble_eq_true rfl, Nat.le_of_ble_eq_true rfl⟩) hl (fun r_13 S_12 H locs h hN hw hl => ?_)
        replace hNN := hN.trans hNN
        refine lv_if_eq (tgt := 61) X.1 X.2.1 dX10_isOrder_54 (by decide) (fun c_14 => ?_) (fun c_14 => ?_)
        · skip
          replace h := h.1 c_14
          refine lv_iconst (v := 0) X.1 X.2.1 dX10_isOrder_61 (by decide) ?_
          exact xt_z X hr hlocks hNN hw hl (by decide) h dX10_isOrder_62
        · skip
          replace h := h.2 c_14
          refine lv_iconst (v := 1) X.1 X.2.1 dX10_isOrder_57 (by decide) ?_
          refine lv_goto (tgt := 62) X.1 X.2.1 dX10_isOrder_58 (by decide) ?_
          exact xt_z X hr hlocks hNN hw hl (by decide) h dX10_isOrder_62
  · skip
    replace h := h.2 c_1
    refine lv_iload_n X.1 X.2.1 dX10_isOrder_6 rfl (lv_at hv 1 rfl) ?_
    refine lv_iconst (v := 0) X.1 X.2.1 dX10_isOrder_7 (by decide) ?_
    refine lv_iconst (v := 5) X.1 X.2.1 dX10_isOrder_8 (by decide) ?_
    refine xc_i (xr_S (n := 3) X hk hw hv.1 (c_X10_in l Z et S (x2) (0) (5) _ h) (tb_S tw_613 tw_611 tw_612 tw_44) rfl rfl (by decide +kernel) ⟨Nat.le_of_ble_eq_true rfl, Nat.le_of_ble_eq_true rfl⟩ rfl (Nat.le_of_ble_eq_true rfl) dX10_isOrder_9 ⟨Nat.le_of_ble_eq_true rfl, Nat.le_of_ble_eq_true rfl⟩) hl (fun r_16 S_15 H locs h hN hw hl => ?_)
    replace hNN := hN.trans hNN
    refine lv_if_eq (tgt := 29) X.1 X.2.1 dX10_isOrder_12 (by decide) (fun c_17 => ?_) (fun c_17 => ?_)
    · skip
      replace h := h.1 c_17
      refine lv_iconst (v := 0) X.1 X.2.1 dX10_isOrder_29 (by decide) ?_
      exact xt_z X hr hlocks hNN hw hl (by decide) h dX10_isOrder_30
    · skip
      replace h := h.2 c_17
      refine lv_iload_n X.1 X.2.1 dX10_isOrder_15 rfl (lv_at hv 3 rfl) ?_
      refine lv_iconst (v := 0) X.1 X.2.1 dX10_isOrder_16 (by decide) ?_
      refine lv_bipush (v := 60) X.1 X.2.1 dX10_isOrder_17 (by decide) ?_
      refine xc_i (xr_S (n := 3) X hk hw hv.1 (c_X10_in l Z et S_15 (x4) (0) (60) _ h) (tb_S tw_613 tw_611 tw_612 tw_44) rfl rfl (by decide +kernel) ⟨Nat.le_of_ble_eq_true rfl, Nat.le_of_ble_eq_true rfl⟩ rfl (Nat.le_of_ble_eq_true rfl) dX10_isOrder_19 ⟨Nat.le_of_ble_eq_true rfl, Nat.le_of_ble_eq_true rfl⟩) hl (fun r_19 S_18 H locs h hN hw hl => ?_)
      replace hNN := hN.trans hNN
      refine lv_if_eq (tgt := 29) X.1 X.2.1 dX10_isOrder_22 (by decide) (fun c_20 => ?_) (fun c_20 => ?_)
      · skip
        replace h := h.1 c_20
        refine lv_iconst (v := 0) X.1 X.2.1 dX10_isOrder_29 (by decide) ?_
        exact xt_z X hr hlocks hNN hw hl (by decide) h dX10_isOrder_30
      · skip
        replace h := h.2 c_20
        refine lv_iconst (v := 1) X.1 X.2.1 dX10_isOrder_25 (by decide) ?_
        refine lv_goto (tgt := 30) X.1 X.2.1 dX10_isOrder_26 (by decide) ?_
        exact xt_z X hr hlocks hNN hw hl (by decide) h dX10_isOrder_30
def v_X10_order (x1 : Int32) (x2 : Int32) (x3 : Int32) (x4 : Int32) (S : xs_T) (K : Int32 → xs_T → Prop) : Prop := (((xF S 0 12) = 60 → K ((-1)) S) ∧ (¬ (xF S 0 12) = 60 → v_X10_isOrder (x1) (x2) (x3) (x4) S (fun (r_3 : Int32) (S_2 : xs_T) => ((¬ r_3 = 0 → ∃ j_5 : Nat, (xF S_2 0 12) = nI j_5 ∧ j_5 < 60 ∧ ∀ S_8 : xs_T, S_8 = sI S_2 13 j_5 (x1) → ∃ j_10 : Nat, (xF S_8 0 12) = nI j_10 ∧ j_10 < 60 ∧ ∀ S_13 : xs_T, S_13 = sI S_8 14 j_10 (x2) → ∃ j_15 : Nat, (xF S_13 0 12) = nI j_15 ∧ j_15 < 60 ∧ ∀ S_18 : xs_T, S_18 = sI S_13 15 j_15 (x3) → ∃ j_20 : Nat, (xF S_18 0 12) = nI j_20 ∧ j_20 < 60 ∧ ∀ S_23 : xs_T, S_23 = sI S_18 16 j_20 (x4) → ∀ S_25 : xs_T, S_25 = sF S_23 0 12 (((xF S_23 0 12) + 1)) → K (((xF S_25 0 12) - 1)) S_25) ∧ (r_3 = 0 → K ((-1)) S_2)))))
set_option maxHeartbeats 4000000 in
set_option maxRecDepth 100000 in
theorem c_X10_order (l : Launch) (Z : xz_T) (et : Nat → Nat) (S : xs_T) (x1 : Int32) (x2 : Int32) (x3 : Int32) (x4 : Int32) (K : Int32 → xs_T → Prop) (h : v_X10_order x1 x2 x3 x4 S K) : Met l yX10_order (wq yX10_order cX10_order 5 (some .int)) { frames := 2, cells := 0, slots := 0, locals := 47 } (xPc Z et S [.ref (et (0)), .int (x1), .int (x2), .int (x3), .int (x4)]) (xQi Z et S.2.2.2.2 K) 0 0 (fun q => Z.2.2.1 ≤ q) := by
  refine Met.ofW (cc := cX10_order) (maxL := 5) (ret := (some .int)) (by decide +kernel) rfl ?_
  intro p e s m args below meth c s₁ B hml hv0
  obtain ⟨rfl, hk, hw⟩ := hv0
  have X : CallFix p m c cX10_order 5 s _ (wq yX10_order cX10_order 5 (some .int)) RX10 := ⟨B.exec, B.bytes, hml, findClass_of_methodNamed B.named, atoms_spec (ws := (wq yX10_order cX10_order 5 (some .int))) B.pre⟩
  have hr := B.returns
  have hlocks := B.notSynchronized
  have hl : xl Z [] := fun _ h => by cases h
  have hNN : S.2.2.2.2 = S.2.2.2.2 := rfl
  have hv := lv_entry [.ref (et (0)), .int (x1), .int (x2), .int (x3), .int (x4)] (n := 5) (Nat.le_of_ble_eq_true rfl)
  rw [lg_entry_eq]
  generalize (lg_sl [.ref (et (0)), .int (x1), .int (x2), .int (x3), .int (x4)] ++ List.replicate (5 - (lg_sl [.ref (et (0)), .int (x1), .int (x2), .int (x3), .int (x4)]).length) Slot.unset).toArray = ls at hv ⊢
  replace hv : lv_has ls 5 [(0, .ref (et (0))), (1, .int (x1)), (2, .int (x2)), (3, .int (x3)), (4, .int (x4))] := hv
  unfold v_X10_order at h
  refine lv_aload_n X.1 X.2.1 dX10_order_0 rfl (lv_at hv 0 rfl) ?_
  refine xw_get X hk hw (i := 0) 12 xe_0 rfl tlX10 (by decide) rfl tw_531 dX10_order_1 ?_
  refine lv_bipush (v := 60) X.1 X.2.1 dX10_order_4 (by decide) ?_
  refine lv_icmp_eq (tgt := 20) X.1 X.2.1 dX10_order_6 (by decide) (fun c_1 => ?_) (fun c_1 => ?_)
  · skip
    replace h := h.1 c_1
    refine lv_iconst (v := (-1)) X.1 X.2.1 dX10_order_20 (by decide) ?_
    exact xt_i X hr hlocks hNN hw hl h dX10_order_21
  · skip
    replace h := h.2 c_1
    refine lv_iload_n X.1 X.2.1 dX10_order_9 rfl (lv_at hv 1 rfl) ?_
    refine lv_iload_n X.1 X.2.1 dX10_order_10 rfl (lv_at hv 2 rfl) ?_
    refine lv_iload_n X.1 X.2.1 dX10_order_11 rfl (lv_at hv 3 rfl) ?_
    refine lv_iload X.1 X.2.1 dX10_order_12 (lv_at hv 4 rfl) ?_
    refine xc_i (xr_S (n := 4) X hk hw hv.1 (c_X10_isOrder l Z et S (x1) (x2) (x3) (x4) _ h) (tb_S tw_610 tw_608 tw_609 tw_44) rfl rfl (by decide +kernel) ⟨Nat.le_of_ble_eq_true rfl, Nat.le_of_ble_eq_true rfl⟩ rfl (Nat.le_of_ble_eq_true rfl) dX10_order_14 ⟨Nat.le_of_ble_eq_true rfl, Nat.le_of_ble_eq_true rfl⟩) hl (fun r_3 S_2 H locs h hN hw hl => ?_)
    replace hNN := hN.trans hNN
    refine lv_if_ne (tgt := 22) X.1 X.2.1 dX10_order_17 (by decide) (fun c_4 => ?_) (fun c_4 => ?_)
    · skip
      replace h := h.1 c_4
      refine lv_aload_n X.1 X.2.1 dX10_order_22 rfl (lv_at hv 0 rfl) ?_
      refine xw_get X hk hw (i := 0) 13 xe_0 rfl tlX10 (by decide) rfl tw_532 dX10_order_23 ?_
      refine lv_aload_n X.1 X.2.1 dX10_order_26 rfl (lv_at hv 0 rfl) ?_
      refine xw_get X hk hw (i := 0) 12 xe_0 rfl tlX10 (by decide) rfl tw_531 dX10_order_27 ?_
      refine lv_iload_n X.1 X.2.1 dX10_order_30 rfl (lv_at hv 1 rfl) ?_
      obtain ⟨j_5, e_6, b_7, h⟩ := h
      refine xw_ist X hk hw hl xe_13 rfl e_6 b_7 (by decide) dX10_order_31 (fun H locs hw hl => ?_)
      obtain ⟨S_8, e_9⟩ : ∃ T : xs_T, T = sI S_2 13 j_5 (x1) := ⟨_, rfl⟩
      rw [← e_9] at hw
      replace h := h S_8 e_9
      have hN : S_8.2.2.2.2 = S_2.2.2.2.2 := by rw [e_9]; rfl
      replace hNN := hN.trans hNN
      refine lv_aload_n X.1 X.2.1 dX10_order_32 rfl (lv_at hv 0 rfl) ?_
      refine xw_get X hk hw (i := 0) 14 xe_0 rfl tlX10 (by decide) rfl tw_533 dX10_order_33 ?_
      refine lv_aload_n X.1 X.2.1 dX10_order_36 rfl (lv_at hv 0 rfl) ?_
      refine xw_get X hk hw (i := 0) 12 xe_0 rfl tlX10 (by decide) rfl tw_531 dX10_order_37 ?_
      refine lv_iload_n X.1 X.2.1 dX10_order_40 rfl (lv_at hv 2 rfl) ?_
      obtain ⟨j_10, e_11, b_12, h⟩ := h
      refine xw_ist X hk hw hl xe_14 rfl e_11 b_12 (by decide) dX10_order_41 (fun H locs hw hl => ?_)
      obtain ⟨S_13, e_14⟩ : ∃ T : xs_T, T = sI S_8 14 j_10 (x2) := ⟨_, rfl⟩
      rw [← e_14] at hw
      replace h := h S_13 e_14
      have hN : S_13.2.2.2.2 = S_8.2.2.2.2 := by rw [e_14]; rfl
      replace hNN := hN.trans hNN
      refine lv_aload_n X.1 X.2.1 dX10_order_42 rfl (lv_at hv 0 rfl) ?_
      refine xw_get X hk hw (i := 0) 15 xe_0 rfl tlX10 (by decide) rfl tw_534 dX10_order_43 ?_
      refine lv_aload_n X.1 X.2.1 dX10_order_46 rfl (lv_at hv 0 rfl) ?_
      refine xw_get X hk hw (i := 0) 12 xe_0 rfl tlX10 (by decide) rfl tw_531 dX10_order_47 ?_
      refine lv_iload_n X.1 X.2.1 dX10_order_50 rfl (lv_at hv 3 rfl) ?_
      obtain ⟨j_15, e_16, b_17, h⟩ := h
      refine xw_ist X hk hw hl xe_15 rfl e_16 b_17 (by decide) dX10_order_51 (fun H locs hw hl => ?_)
      obtain ⟨S_18, e_19⟩ : ∃ T : xs_T, T = sI S_13 15 j_15 (x3) := ⟨_, rfl⟩
      rw [← e_19] at hw
      replace h := h S_18 e_19
      have hN : S_18.2.2.2.2 = S_13.2.2.2.2 := by rw [e_19]; rfl
      replace hNN := hN.trans hNN
      refine lv_aload_n X.1 X.2.1 dX10_order_52 rfl (lv_at hv 0 rfl) ?_
      refine xw_get X hk hw (i := 0) 16 xe_0 rfl tlX10 (by decide) rfl tw_535 dX10_order_53 ?_
      refine lv_aload_n X.1 X.2.1 dX10_order_56 rfl (lv_at hv 0 rfl) ?_
      refine xw_get X hk hw (i := 0) 12 xe_0 rfl tlX10 (by decide) rfl tw_531 dX10_order_57 ?_
      refine lv_iload X.1 X.2.1 dX10_order_60 (lv_at hv 4 rfl) ?_
      obtain ⟨j_20, e_21, b_22, h⟩ := h
      refine xw_ist X hk hw hl xe_16 rfl e_21 b_22 (by decide) dX10_order_62 (fun H locs hw hl => ?_)
      obtain ⟨S_23, e_24⟩ : ∃ T : xs_T, T = sI S_18 16 j_20 (x4) := ⟨_, rfl⟩
      rw [← e_24] at hw
      replace h := h S_23 e_24
      have hN : S_23.2.2.2.2 = S_18.2.2.2.2 := by rw [e_24]; rfl
      replace hNN := hN.trans hNN
      refine lv_aload_n X.1 X.2.1 dX10_order_63 rfl (lv_at hv 0 rfl) ?_
      refine lv_dup X.1 X.2.1 dX10_order_64 rfl ?_
      refine xw_get X hk hw (i := 0) 12 xe_0 rfl tlX10 (by decide) rfl tw_531 dX10_order_65 ?_
      refine lv_iconst (v := 1) X.1 X.2.1 dX10_order_68 (by decide) ?_
      refine lv_iadd X.1 X.2.1 dX10_order_69 ?_
      refine xw_put X hk hw hl (i := 0) 12 xe_0 rfl rfl tlX10 tyX10 tyX10_ok nmX10 (by decide) tw_531 rfl rfl (Nat.le_of_ble_eq_true rfl) dX10_order_70 (fun H locs hw hl => ?_)
      obtain ⟨S_25, e_26⟩ : ∃ T : xs_T, T = sF S_23 0 12 (((xF S_23 0 12) + 1)) := ⟨_, rfl⟩
      rw [← e_26] at hw
      replace h := h S_25 e_26
      have hN : S_25.2.2.2.2 = S_23.2.2.2.2 := by rw [e_26]; rfl
      replace hNN := hN.trans hNN
      refine lv_aload_n X.1 X.2.1 dX10_order_73 rfl (lv_at hv 0 rfl) ?_
      refine xw_get X hk hw (i := 0) 12 xe_0 rfl tlX10 (by decide) rfl tw_531 dX10_order_74 ?_
      refine lv_iconst (v := 1) X.1 X.2.1 dX10_order_77 (by decide) ?_
      refine lv_isub X.1 X.2.1 dX10_order_78 ?_
      exact xt_i X hr hlocks hNN hw hl h dX10_order_79
    · skip
      replace h := h.2 c_4
      refine lv_iconst (v := (-1)) X.1 X.2.1 dX10_order_20 (by decide) ?_
      exact xt_i X hr hlocks hNN hw hl h dX10_order_21
def v_X10_cut (x1 : Int32) (S : xs_T) (K : Int32 → xs_T → Prop) : Prop := v_X10_in (x1) (0) ((xF S 0 12)) S (fun (r_2 : Int32) (S_1 : xs_T) => ((¬ r_2 = 0 → ∀ S_4 : xs_T, S_4 = sF S_1 0 12 (x1) → K (1) S_4) ∧ (r_2 = 0 → K (0) S_1)))
set_option maxHeartbeats 4000000 in
set_option maxRecDepth 100000 in
theorem c_X10_cut (l : Launch) (Z : xz_T) (et : Nat → Nat) (S : xs_T) (x1 : Int32) (K : Int32 → xs_T → Prop) (h : v_X10_cut x1 S K) : Met l yX10_cut (wq yX10_cut cX10_cut 2 (some .boolean)) { frames := 1, cells := 0, slots := 0, locals := 22 } (xPc Z et S [.ref (et (0)), .int (x1)]) (xQi Z et S.2.2.2.2 K) 0 0 (fun q => Z.2.2.1 ≤ q) := by
  refine Met.ofW (cc := cX10_cut) (maxL := 2) (ret := (some .boolean)) (by decide +kernel) rfl ?_
  intro p e s m args below meth c s₁ B hml hv0
  obtain ⟨rfl, hk, hw⟩ := hv0
  have X : CallFix p m c cX10_cut 2 s _ (wq yX10_cut cX10_cut 2 (some .boolean)) RX10 := ⟨B.exec, B.bytes, hml, findClass_of_methodNamed B.named, atoms_spec (ws := (wq yX10_cut cX10_cut 2 (some .boolean))) B.pre⟩
  have hr := B.returns
  have hlocks := B.notSynchronized
  have hl : xl Z [] := fun _ h => by cases h
  have hNN : S.2.2.2.2 = S.2.2.2.2 := rfl
  have hv := lv_entry [.ref (et (0)), .int (x1)] (n := 2) (Nat.le_of_ble_eq_true rfl)
  rw [lg_entry_eq]
  generalize (lg_sl [.ref (et (0)), .int (x1)] ++ List.replicate (2 - (lg_sl [.ref (et (0)), .int (x1)]).length) Slot.unset).toArray = ls at hv ⊢
  replace hv : lv_has ls 2 [(0, .ref (et (0))), (1, .int (x1))] := hv
  unfold v_X10_cut at h
  refine lv_iload_n X.1 X.2.1 dX10_cut_0 rfl (lv_at hv 1 rfl) ?_
  refine lv_iconst (v := 0) X.1 X.2.1 dX10_cut_1 (by decide) ?_
  refine lv_aload_n X.1 X.2.1 dX10_cut_2 rfl (lv_at hv 0 rfl) ?_
  refine xw_get X hk hw (i := 0) 12 xe_0 rfl tlX10 (by decide) rfl tw_531 dX10_cut_3 ?_
  refine xc_i (xr_S (n := 3) X hk hw hv.1 (c_X10_in l Z et S (x1) (0) ((xF S 0 12)) _ h) (tb_S tw_613 tw_611 tw_612 tw_44) rfl rfl (by decide +kernel) ⟨Nat.le_of_ble_eq_true rfl, Nat.le_of_ble_eq_true rfl⟩ rfl (Nat.le_of_ble_eq_true rfl) dX10_cut_6 ⟨Nat.le_of_ble_eq_true rfl, Nat.le_of_ble_eq_true rfl⟩) hl (fun r_2 S_1 H locs h hN hw hl => ?_)
  replace hNN := hN.trans hNN
  refine lv_if_ne (tgt := 14) X.1 X.2.1 dX10_cut_9 (by decide) (fun c_3 => ?_) (fun c_3 => ?_)
  · skip
    replace h := h.1 c_3
    refine lv_aload_n X.1 X.2.1 dX10_cut_14 rfl (lv_at hv 0 rfl) ?_
    refine lv_iload_n X.1 X.2.1 dX10_cut_15 rfl (lv_at hv 1 rfl) ?_
    refine xw_put X hk hw hl (i := 0) 12 xe_0 rfl rfl tlX10 tyX10 tyX10_ok nmX10 (by decide) tw_531 rfl rfl (Nat.le_of_ble_eq_true rfl) dX10_cut_16 (fun H locs hw hl => ?_)
    obtain ⟨S_4, e_5⟩ : ∃ T : xs_T, T = sF S_1 0 12 (x1) := ⟨_, rfl⟩
    rw [← e_5] at hw
    replace h := h S_4 e_5
    have hN : S_4.2.2.2.2 = S_1.2.2.2.2 := by rw [e_5]; rfl
    replace hNN := hN.trans hNN
    refine lv_iconst (v := 1) X.1 X.2.1 dX10_cut_19 (by decide) ?_
    exact xt_z X hr hlocks hNN hw hl (by decide) h dX10_cut_20
  · skip
    replace h := h.2 c_3
    refine lv_iconst (v := 0) X.1 X.2.1 dX10_cut_12 (by decide) ?_
    exact xt_z X hr hlocks hNN hw hl (by decide) h dX10_cut_13
def v_X10_hold (x1 : Int32) (x2 : Int32) (x3 : Int32) (S : xs_T) (K : xs_T → Prop) : Prop := ∃ j_1 : Nat, x1 = nI j_1 ∧ j_1 < 10 ∧ ∀ S_4 : xs_T, S_4 = sI S 9 j_1 (x2) → ∃ j_6 : Nat, x1 = nI j_6 ∧ j_6 < 10 ∧ ∀ S_9 : xs_T, S_9 = sI S_4 10 j_6 (x3) → K S_9
set_option maxHeartbeats 4000000 in
set_option maxRecDepth 100000 in
theorem c_X10_hold (l : Launch) (Z : xz_T) (et : Nat → Nat) (S : xs_T) (x1 : Int32) (x2 : Int32) (x3 : Int32) (K : xs_T → Prop) (h : v_X10_hold x1 x2 x3 S K) : Met l yX10_hold (wq yX10_hold cX10_hold 4 none) { frames := 0, cells := 0, slots := 0, locals := 0 } (xPc Z et S [.ref (et (0)), .int (x1), .int (x2), .int (x3)]) (xQv Z et S.2.2.2.2 K) 0 0 (fun q => Z.2.2.1 ≤ q) := by
  refine Met.ofW (cc := cX10_hold) (maxL := 4) (ret := none) (by decide +kernel) rfl ?_
  intro p e s m args below meth c s₁ B hml hv0
  obtain ⟨rfl, hk, hw⟩ := hv0
  have X : CallFix p m c cX10_hold 4 s _ (wq yX10_hold cX10_hold 4 none) RX10 := ⟨B.exec, B.bytes, hml, findClass_of_methodNamed B.named, atoms_spec (ws := (wq yX10_hold cX10_hold 4 none)) B.pre⟩
  have hr := B.returns
  have hlocks := B.notSynchronized
  have hl : xl Z [] := fun _ h => by cases h
  have hNN : S.2.2.2.2 = S.2.2.2.2 := rfl
  have hv := lv_entry [.ref (et (0)), .int (x1), .int (x2), .int (x3)] (n := 4) (Nat.le_of_ble_eq_true rfl)
  rw [lg_entry_eq]
  generalize (lg_sl [.ref (et (0)), .int (x1), .int (x2), .int (x3)] ++ List.replicate (4 - (lg_sl [.ref (et (0)), .int (x1), .int (x2), .int (x3)]).length) Slot.unset).toArray = ls at hv ⊢
  replace hv : lv_has ls 4 [(0, .ref (et (0))), (1, .int (x1)), (2, .int (x2)), (3, .int (x3))] := hv
  unfold v_X10_hold at h
  refine lv_aload_n X.1 X.2.1 dX10_hold_0 rfl (lv_at hv 0 rfl) ?_
  refine xw_get X hk hw (i := 0) 9 xe_0 rfl tlX10 (by decide) rfl tw_528 dX10_hold_1 ?_
  refine lv_iload_n X.1 X.2.1 dX10_hold_4 rfl (lv_at hv 1 rfl) ?_
  refine lv_iload_n X.1 X.2.1 dX10_hold_5 rfl (lv_at hv 2 rfl) ?_
  obtain ⟨j_1, e_2, b_3, h⟩ := h
  refine xw_ist X hk hw hl xe_9 rfl e_2 b_3 (by decide) dX10_hold_6 (fun H locs hw hl => ?_)
  obtain ⟨S_4, e_5⟩ : ∃ T : xs_T, T = sI S 9 j_1 (x2) := ⟨_, rfl⟩
  rw [← e_5] at hw
  replace h := h S_4 e_5
  have hN : S_4.2.2.2.2 = S.2.2.2.2 := by rw [e_5]; rfl
  replace hNN := hN.trans hNN
  refine lv_aload_n X.1 X.2.1 dX10_hold_7 rfl (lv_at hv 0 rfl) ?_
  refine xw_get X hk hw (i := 0) 10 xe_0 rfl tlX10 (by decide) rfl tw_529 dX10_hold_8 ?_
  refine lv_iload_n X.1 X.2.1 dX10_hold_11 rfl (lv_at hv 1 rfl) ?_
  refine lv_iload_n X.1 X.2.1 dX10_hold_12 rfl (lv_at hv 3 rfl) ?_
  obtain ⟨j_6, e_7, b_8, h⟩ := h
  refine xw_ist X hk hw hl xe_10 rfl e_7 b_8 (by decide) dX10_hold_13 (fun H locs hw hl => ?_)
  obtain ⟨S_9, e_10⟩ : ∃ T : xs_T, T = sI S_4 10 j_6 (x3) := ⟨_, rfl⟩
  rw [← e_10] at hw
  replace h := h S_9 e_10
  have hN : S_9.2.2.2.2 = S_4.2.2.2.2 := by rw [e_10]; rfl
  replace hNN := hN.trans hNN
  exact xt_v X hr hlocks hNN hw hl h dX10_hold_14
def v_X10_hang_17 (K : Int32 → xs_T → Prop) (a1 : Int32) (a2 : Int32) (S : xs_T) : Prop := ((¬ a2 = 0 → ((¬ a2 = 1 → ∀ S_5 : xs_T, S_5 = sF S 0 6 (((xF S 0 6) + 1)) → ∃ j_7 : Nat, (xF S_5 0 6) = nI j_7 ∧ j_7 < 401 ∧ ∀ S_10 : xs_T, S_10 = sI S_5 7 j_7 ((a2 - 1)) → v_X10_hold (a1) (3) ((xF S_10 0 6)) S_10 (fun (S_12 : xs_T) => K (0) S_12)) ∧ (a2 = 1 → ∀ S_14 : xs_T, S_14 = sF S 0 8 (((xF S 0 8) + 1)) → v_X10_hold (a1) (2) ((xF S_14 0 8)) S_14 (fun (S_16 : xs_T) => K (0) S_16)))) ∧ (a2 = 0 → v_X10_hold (a1) (0) (0) S (fun (S_18 : xs_T) => K (0) S_18)))
def v_X10_hang (x1 : Int32) (x2 : Int32) (S : xs_T) (K : Int32 → xs_T → Prop) : Prop := ((x2 ≤ 1 → v_X10_hang_17 K (x1) (x2) S) ∧ (¬ x2 ≤ 1 → ((¬ (xF S 0 6) = 400 → v_X10_hang_17 K (x1) (x2) S) ∧ ((xF S 0 6) = 400 → K (4) S))))
set_option maxHeartbeats 4000000 in
set_option maxRecDepth 100000 in
theorem j_X10_hang_17 {l : Launch} {p : Program} {e : Env} {s : State} {m : MethodId} {args : Array Value} {below : List Frame} {meth : Method} {c : Code} {Z : xz_T} {et : Nat → Nat} {Nn : Nat → Nat} {K : Int32 → xs_T → Prop} (X : CallFix p m c cX10_hang 3 s args (wq yX10_hang cX10_hang 3 (some .int)) RX10) (hk : xk Z s) (hr : meth.sig.returnType = (some .int)) (hlocks : meth.locks = false) : ∀ (a1 : Int32) (a2 : Int32) (S : xs_T) (H : Heap) (locs : List Loc) (ls : Array Slot), v_X10_hang_17 K a1 a2 S → S.2.2.2.2 = Nn → wd Z et S H → xl Z locs → lv_has ls 3 [(0, .ref (et (0))), (1, .int (a1)), (2, .int (a2))] → W p l e (headSpec (wq yX10_hang cX10_hang 3 (some .int)) { frames := 1, cells := 0, slots := 0, locals := 23 }).room s m args below meth c H locs 0 0 (MQ below (xQi Z et Nn K) args s 0 0 (fun q => Z.2.2.1 ≤ q)) (F0 m 17 ls []) := by
  intro a1 a2 S H locs ls h hNN hw hl hv
  unfold v_X10_hang_17 at h
  refine lv_iload_n X.1 X.2.1 dX10_hang_17 rfl (lv_at hv 2 rfl) ?_
  refine lv_if_ne (tgt := 31) X.1 X.2.1 dX10_hang_18 (by decide) (fun c_3 => ?_) (fun c_3 => ?_)
  · skip
    replace h := h.1 c_3
    refine lv_iload_n X.1 X.2.1 dX10_hang_31 rfl (lv_at hv 2 rfl) ?_
    refine lv_iconst (v := 1) X.1 X.2.1 dX10_hang_32 (by decide) ?_
    refine lv_icmp_ne (tgt := 59) X.1 X.2.1 dX10_hang_33 (by decide) (fun c_4 => ?_) (fun c_4 => ?_)
    · skip
      replace h := h.1 c_4
      refine lv_aload_n X.1 X.2.1 dX10_hang_59 rfl (lv_at hv 0 rfl) ?_
      refine lv_dup X.1 X.2.1 dX10_hang_60 rfl ?_
      refine xw_get X hk hw (i := 0) 6 xe_0 rfl tlX10 (by decide) rfl tw_525 dX10_hang_61 ?_
      refine lv_iconst (v := 1) X.1 X.2.1 dX10_hang_64 (by decide) ?_
      refine lv_iadd X.1 X.2.1 dX10_hang_65 ?_
      refine xw_put X hk hw hl (i := 0) 6 xe_0 rfl rfl tlX10 tyX10 tyX10_ok nmX10 (by decide) tw_525 rfl rfl (Nat.le_of_ble_eq_true rfl) dX10_hang_66 (fun H locs hw hl => ?_)
      obtain ⟨S_5, e_6⟩ : ∃ T : xs_T, T = sF S 0 6 (((xF S 0 6) + 1)) := ⟨_, rfl⟩
      rw [← e_6] at hw
      replace h := h S_5 e_6
      have hN : S_5.2.2.2.2 = S.2.2.2.2 := by rw [e_6]; rfl
      replace hNN := hN.trans hNN
      refine lv_aload_n X.1 X.2.1 dX10_hang_69 rfl (lv_at hv 0 rfl) ?_
      refine xw_get X hk hw (i := 0) 7 xe_0 rfl tlX10 (by decide) rfl tw_526 dX10_hang_70 ?_
      refine lv_aload_n X.1 X.2.1 dX10_hang_73 rfl (lv_at hv 0 rfl) ?_
      refine xw_get X hk hw (i := 0) 6 xe_0 rfl tlX10 (by decide) rfl tw_525 dX10_hang_74 ?_
      refine lv_iload_n X.1 X.2.1 dX10_hang_77 rfl (lv_at hv 2 rfl) ?_
      refine lv_iconst (v := 1) X.1 X.2.1 dX10_hang_78 (by decide) ?_
      refine lv_isub X.1 X.2.1 dX10_hang_79 ?_
      obtain ⟨j_7, e_8, b_9, h⟩ := h
      refine xw_ist X hk hw hl xe_7 rfl e_8 b_9 (by decide) dX10_hang_80 (fun H locs hw hl => ?_)
      obtain ⟨S_10, e_11⟩ : ∃ T : xs_T, T = sI S_5 7 j_7 ((a2 - 1)) := ⟨_, rfl⟩
      rw [← e_11] at hw
      replace h := h S_10 e_11
      have hN : S_10.2.2.2.2 = S_5.2.2.2.2 := by rw [e_11]; rfl
      replace hNN := hN.trans hNN
      refine lv_aload_n X.1 X.2.1 dX10_hang_81 rfl (lv_at hv 0 rfl) ?_
      refine lv_iload_n X.1 X.2.1 dX10_hang_82 rfl (lv_at hv 1 rfl) ?_
      refine lv_iconst (v := 3) X.1 X.2.1 dX10_hang_83 (by decide) ?_
      refine lv_aload_n X.1 X.2.1 dX10_hang_84 rfl (lv_at hv 0 rfl) ?_
      refine xw_get X hk hw (i := 0) 6 xe_0 rfl tlX10 (by decide) rfl tw_525 dX10_hang_85 ?_
      refine xc_v (xr_V (n := 3) (As := [.int (a1), .int (3), .int ((xF S_10 0 6))]) (i := 0) X hk hw hv.1 (c_X10_hold l Z et S_10 (a1) (3) ((xF S_10 0 6)) _ h) (tb_V tw_665 tw_662 tw_664 tw_27 tw_44) xe_0 rfl rfl rfl rfl (by decide +kernel) ⟨Nat.le_of_ble_eq_true rfl, Nat.le_of_ble_eq_true rfl⟩ rfl (Nat.le_of_ble_eq_true rfl) dX10_hang_88 ⟨Nat.le_of_ble_eq_true rfl, Nat.le_of_ble_eq_true rfl⟩) hl (fun S_12 H locs h hN hw hl => ?_)
      replace hNN := hN.trans hNN
      refine lv_iconst (v := 0) X.1 X.2.1 dX10_hang_91 (by decide) ?_
      exact xt_i X hr hlocks hNN hw hl h dX10_hang_92
    · skip
      replace h := h.2 c_4
      refine lv_aload_n X.1 X.2.1 dX10_hang_36 rfl (lv_at hv 0 rfl) ?_
      refine lv_dup X.1 X.2.1 dX10_hang_37 rfl ?_
      refine xw_get X hk hw (i := 0) 8 xe_0 rfl tlX10 (by decide) rfl tw_527 dX10_hang_38 ?_
      refine lv_iconst (v := 1) X.1 X.2.1 dX10_hang_41 (by decide) ?_
      refine lv_iadd X.1 X.2.1 dX10_hang_42 ?_
      refine xw_put X hk hw hl (i := 0) 8 xe_0 rfl rfl tlX10 tyX10 tyX10_ok nmX10 (by decide) tw_527 rfl rfl (Nat.le_of_ble_eq_true rfl) dX10_hang_43 (fun H locs hw hl => ?_)
      obtain ⟨S_14, e_15⟩ : ∃ T : xs_T, T = sF S 0 8 (((xF S 0 8) + 1)) := ⟨_, rfl⟩
      rw [← e_15] at hw
      replace h := h S_14 e_15
      have hN : S_14.2.2.2.2 = S.2.2.2.2 := by rw [e_15]; rfl
      replace hNN := hN.trans hNN
      refine lv_aload_n X.1 X.2.1 dX10_hang_46 rfl (lv_at hv 0 rfl) ?_
      refine lv_iload_n X.1 X.2.1 dX10_hang_47 rfl (lv_at hv 1 rfl) ?_
      refine lv_iconst (v := 2) X.1 X.2.1 dX10_hang_48 (by decide) ?_
      refine lv_aload_n X.1 X.2.1 dX10_hang_49 rfl (lv_at hv 0 rfl) ?_
      refine xw_get X hk hw (i := 0) 8 xe_0 rfl tlX10 (by decide) rfl tw_527 dX10_hang_50 ?_
      refine xc_v (xr_V (n := 3) (As := [.int (a1), .int (2), .int ((xF S_14 0 8))]) (i := 0) X hk hw hv.1 (c_X10_hold l Z et S_14 (a1) (2) ((xF S_14 0 8)) _ h) (tb_V tw_665 tw_662 tw_664 tw_27 tw_44) xe_0 rfl rfl rfl rfl (by decide +kernel) ⟨Nat.le_of_ble_eq_true rfl, Nat.le_of_ble_eq_true rfl⟩ rfl (Nat.le_of_ble_eq_true rfl) dX10_hang_53 ⟨Nat.le_of_ble_eq_true rfl, Nat.le_of_ble_eq_true rfl⟩) hl (fun S_16 H locs h hN hw hl => ?_)
      replace hNN := hN.trans hNN
      refine lv_goto (tgt := 91) X.1 X.2.1 dX10_hang_56 (by decide) ?_
      refine lv_iconst (v := 0) X.1 X.2.1 dX10_hang_91 (by decide) ?_
      exact xt_i X hr hlocks hNN hw hl h dX10_hang_92
  · skip
    replace h := h.2 c_3
    refine lv_aload_n X.1 X.2.1 dX10_hang_21 rfl (lv_at hv 0 rfl) ?_
    refine lv_iload_n X.1 X.2.1 dX10_hang_22 rfl (lv_at hv 1 rfl) ?_
    refine lv_iconst (v := 0) X.1 X.2.1 dX10_hang_23 (by decide) ?_
    refine lv_iconst (v := 0) X.1 X.2.1 dX10_hang_24 (by decide) ?_
    refine xc_v (xr_V (n := 3) (As := [.int (a1), .int (0), .int (0)]) (i := 0) X hk hw hv.1 (c_X10_hold l Z et S (a1) (0) (0) _ h) (tb_V tw_665 tw_662 tw_664 tw_27 tw_44) xe_0 rfl rfl rfl rfl (by decide +kernel) ⟨Nat.le_of_ble_eq_true rfl, Nat.le_of_ble_eq_true rfl⟩ rfl (Nat.le_of_ble_eq_true rfl) dX10_hang_25 ⟨Nat.le_of_ble_eq_true rfl, Nat.le_of_ble_eq_true rfl⟩) hl (fun S_18 H locs h hN hw hl => ?_)
    replace hNN := hN.trans hNN
    refine lv_goto (tgt := 91) X.1 X.2.1 dX10_hang_28 (by decide) ?_
    refine lv_iconst (v := 0) X.1 X.2.1 dX10_hang_91 (by decide) ?_
    exact xt_i X hr hlocks hNN hw hl h dX10_hang_92
set_option maxHeartbeats 4000000 in
set_option maxRecDepth 100000 in
theorem c_X10_hang (l : Launch) (Z : xz_T) (et : Nat → Nat) (S : xs_T) (x1 : Int32) (x2 : Int32) (K : Int32 → xs_T → Prop) (h : v_X10_hang x1 x2 S K) : Met l yX10_hang (wq yX10_hang cX10_hang 3 (some .int)) { frames := 1, cells := 0, slots := 0, locals := 23 } (xPc Z et S [.ref (et (0)), .int (x1), .int (x2)]) (xQi Z et S.2.2.2.2 K) 0 0 (fun q => Z.2.2.1 ≤ q) := by
  refine Met.ofW (cc := cX10_hang) (maxL := 3) (ret := (some .int)) (by decide +kernel) rfl ?_
  intro p e s m args below meth c s₁ B hml hv0
  obtain ⟨rfl, hk, hw⟩ := hv0
  have X : CallFix p m c cX10_hang 3 s _ (wq yX10_hang cX10_hang 3 (some .int)) RX10 := ⟨B.exec, B.bytes, hml, findClass_of_methodNamed B.named, atoms_spec (ws := (wq yX10_hang cX10_hang 3 (some .int))) B.pre⟩
  have hr := B.returns
  have hlocks := B.notSynchronized
  have hl : xl Z [] := fun _ h => by cases h
  have hNN : S.2.2.2.2 = S.2.2.2.2 := rfl
  have hv := lv_entry [.ref (et (0)), .int (x1), .int (x2)] (n := 3) (Nat.le_of_ble_eq_true rfl)
  rw [lg_entry_eq]
  generalize (lg_sl [.ref (et (0)), .int (x1), .int (x2)] ++ List.replicate (3 - (lg_sl [.ref (et (0)), .int (x1), .int (x2)]).length) Slot.unset).toArray = ls at hv ⊢
  replace hv : lv_has ls 3 [(0, .ref (et (0))), (1, .int (x1)), (2, .int (x2))] := hv
  unfold v_X10_hang at h
  refine lv_iload_n X.1 X.2.1 dX10_hang_0 rfl (lv_at hv 2 rfl) ?_
  refine lv_iconst (v := 1) X.1 X.2.1 dX10_hang_1 (by decide) ?_
  refine lv_icmp_le (tgt := 17) X.1 X.2.1 dX10_hang_2 (by decide) (fun c_1 => ?_) (fun c_1 => ?_)
  · skip
    replace h := h.1 c_1
    exact j_X10_hang_17 X hk hr hlocks (x1) (x2) S _ _ _ h hNN hw hl (lv_sub hv [0, 1, 2] rfl)
  · skip
    replace h := h.2 c_1
    refine lv_aload_n X.1 X.2.1 dX10_hang_5 rfl (lv_at hv 0 rfl) ?_
    refine xw_get X hk hw (i := 0) 6 xe_0 rfl tlX10 (by decide) rfl tw_525 dX10_hang_6 ?_
    refine lv_sipush (v := 400) X.1 X.2.1 dX10_hang_9 (by decide) ?_
    refine lv_icmp_ne (tgt := 17) X.1 X.2.1 dX10_hang_12 (by decide) (fun c_2 => ?_) (fun c_2 => ?_)
    · skip
      replace h := h.1 c_2
      exact j_X10_hang_17 X hk hr hlocks (x1) (x2) S _ _ _ h hNN hw hl (lv_sub hv [0, 1, 2] rfl)
    · skip
      replace h := h.2 c_2
      refine lv_iconst (v := 4) X.1 X.2.1 dX10_hang_15 (by decide) ?_
      exact xt_i X hr hlocks hNN hw hl h dX10_hang_16
def v_X10_rowOn (x1 : Int32) (S : xs_T) (K : Int32 → xs_T → Prop) : Prop := ∃ j_1 : Nat, x1 = nI j_1 ∧ j_1 < 10 ∧ ((¬ (xI S 9 j_1) = 1 → K ((-1)) S) ∧ ((xI S 9 j_1) = 1 → ∃ j_5 : Nat, x1 = nI j_5 ∧ j_5 < 10 ∧ K ((xI S 10 j_5)) S))
set_option maxHeartbeats 4000000 in
set_option maxRecDepth 100000 in
theorem c_X10_rowOn (l : Launch) (Z : xz_T) (et : Nat → Nat) (S : xs_T) (x1 : Int32) (K : Int32 → xs_T → Prop) (h : v_X10_rowOn x1 S K) : Met l yX10_rowOn (wq yX10_rowOn cX10_rowOn 2 (some .int)) { frames := 0, cells := 0, slots := 0, locals := 0 } (xPc Z et S [.ref (et (0)), .int (x1)]) (xQi Z et S.2.2.2.2 K) 0 0 (fun q => Z.2.2.1 ≤ q) := by
  refine Met.ofW (cc := cX10_rowOn) (maxL := 2) (ret := (some .int)) (by decide +kernel) rfl ?_
  intro p e s m args below meth c s₁ B hml hv0
  obtain ⟨rfl, hk, hw⟩ := hv0
  have X : CallFix p m c cX10_rowOn 2 s _ (wq yX10_rowOn cX10_rowOn 2 (some .int)) RX10 := ⟨B.exec, B.bytes, hml, findClass_of_methodNamed B.named, atoms_spec (ws := (wq yX10_rowOn cX10_rowOn 2 (some .int))) B.pre⟩
  have hr := B.returns
  have hlocks := B.notSynchronized
  have hl : xl Z [] := fun _ h => by cases h
  have hNN : S.2.2.2.2 = S.2.2.2.2 := rfl
  have hv := lv_entry [.ref (et (0)), .int (x1)] (n := 2) (Nat.le_of_ble_eq_true rfl)
  rw [lg_entry_eq]
  generalize (lg_sl [.ref (et (0)), .int (x1)] ++ List.replicate (2 - (lg_sl [.ref (et (0)), .int (x1)]).length) Slot.unset).toArray = ls at hv ⊢
  replace hv : lv_has ls 2 [(0, .ref (et (0))), (1, .int (x1))] := hv
  unfold v_X10_rowOn at h
  refine lv_aload_n X.1 X.2.1 dX10_rowOn_0 rfl (lv_at hv 0 rfl) ?_
  refine xw_get X hk hw (i := 0) 9 xe_0 rfl tlX10 (by decide) rfl tw_528 dX10_rowOn_1 ?_
  refine lv_iload_n X.1 X.2.1 dX10_rowOn_4 rfl (lv_at hv 1 rfl) ?_
  obtain ⟨j_1, e_2, b_3, h⟩ := h
  refine xw_ild X hk hw xe_9 e_2 b_3 (by decide) dX10_rowOn_5 ?_
  refine lv_iconst (v := 1) X.1 X.2.1 dX10_rowOn_6 (by decide) ?_
  refine lv_icmp_ne (tgt := 19) X.1 X.2.1 dX10_rowOn_7 (by decide) (fun c_4 => ?_) (fun c_4 => ?_)
  · skip
    replace h := h.1 c_4
    refine lv_iconst (v := (-1)) X.1 X.2.1 dX10_rowOn_19 (by decide) ?_
    exact xt_i X hr hlocks hNN hw hl h dX10_rowOn_20
  · skip
    replace h := h.2 c_4
    refine lv_aload_n X.1 X.2.1 dX10_rowOn_10 rfl (lv_at hv 0 rfl) ?_
    refine xw_get X hk hw (i := 0) 10 xe_0 rfl tlX10 (by decide) rfl tw_529 dX10_rowOn_11 ?_
    refine lv_iload_n X.1 X.2.1 dX10_rowOn_14 rfl (lv_at hv 1 rfl) ?_
    obtain ⟨j_5, e_6, b_7, h⟩ := h
    refine xw_ild X hk hw xe_10 e_6 b_7 (by decide) dX10_rowOn_15 ?_
    refine lv_goto (tgt := 20) X.1 X.2.1 dX10_rowOn_16 (by decide) ?_
    exact xt_i X hr hlocks hNN hw hl h dX10_rowOn_20
def v_X10_lift (x1 : Int32) (x2 : Int32) (S : xs_T) (K : Int32 → xs_T → Prop) : Prop := ∃ j_1 : Nat, x1 = nI j_1 ∧ j_1 < 10 ∧ ((¬ (xI S 9 j_1) = 0 → v_X10_rowOn (x1) S (fun (r_6 : Int32) (S_5 : xs_T) => ((r_6 < 0 → K (2) S_5) ∧ (¬ r_6 < 0 → ∃ j_8 : Nat, r_6 = nI j_8 ∧ j_8 < 120 ∧ ((8 ≤ (xI S_5 1 j_8) → ∃ j_12 : Nat, x1 = nI j_12 ∧ j_12 < 10 ∧ ∃ j_15 : Nat, r_6 = nI j_15 ∧ j_15 < 120 ∧ v_X10_in ((xI S_5 11 j_12)) (0) (((xI S_5 2 j_15) - 1)) S_5 (fun (r_19 : Int32) (S_18 : xs_T) => ((¬ r_19 = 0 → ∃ j_21 : Nat, r_6 = nI j_21 ∧ j_21 < 120 ∧ ∃ j_24 : Nat, x1 = nI j_24 ∧ j_24 < 10 ∧ ∃ j_27 : Nat, ((xI S_18 3 j_21) + (xI S_18 11 j_24)) = nI j_27 ∧ j_27 < 3000 ∧ ((¬ ((xL S_18 5 j_27)).toInt32 = 0 → v_X10_hold (x2) (3) (((xL S_18 5 j_27)).toInt32) S_18 (fun (S_31 : xs_T) => K (0) S_31)) ∧ (((xL S_18 5 j_27)).toInt32 = 0 → v_X10_hold (x2) (0) (((xL S_18 5 j_27)).toInt32) S_18 (fun (S_33 : xs_T) => K (0) S_33)))) ∧ (r_19 = 0 → K (3) S_18)))) ∧ (¬ 8 ≤ (xI S_5 1 j_8) → K (2) S_5)))))) ∧ ((xI S 9 j_1) = 0 → K (1) S))
set_option maxHeartbeats 4000000 in
set_option maxRecDepth 100000 in
theorem c_X10_lift (l : Launch) (Z : xz_T) (et : Nat → Nat) (S : xs_T) (x1 : Int32) (x2 : Int32) (K : Int32 → xs_T → Prop) (h : v_X10_lift x1 x2 S K) : Met l yX10_lift (wq yX10_lift cX10_lift 5 (some .int)) { frames := 1, cells := 0, slots := 0, locals := 23 } (xPc Z et S [.ref (et (0)), .int (x1), .int (x2)]) (xQi Z et S.2.2.2.2 K) 0 0 (fun q => Z.2.2.1 ≤ q) := by
  refine Met.ofW (cc := cX10_lift) (maxL := 5) (ret := (some .int)) (by decide +kernel) rfl ?_
  intro p e s m args below meth c s₁ B hml hv0
  obtain ⟨rfl, hk, hw⟩ := hv0
  have X : CallFix p m c cX10_lift 5 s _ (wq yX10_lift cX10_lift 5 (some .int)) RX10 := ⟨B.exec, B.bytes, hml, findClass_of_methodNamed B.named, atoms_spec (ws := (wq yX10_lift cX10_lift 5 (some .int))) B.pre⟩
  have hr := B.returns
  have hlocks := B.notSynchronized
  have hl : xl Z [] := fun _ h => by cases h
  have hNN : S.2.2.2.2 = S.2.2.2.2 := rfl
  have hv := lv_entry [.ref (et (0)), .int (x1), .int (x2)] (n := 5) (Nat.le_of_ble_eq_true rfl)
  rw [lg_entry_eq]
  generalize (lg_sl [.ref (et (0)), .int (x1), .int (x2)] ++ List.replicate (5 - (lg_sl [.ref (et (0)), .int (x1), .int (x2)]).length) Slot.unset).toArray = ls at hv ⊢
  replace hv : lv_has ls 5 [(0, .ref (et (0))), (1, .int (x1)), (2, .int (x2))] := hv
  unfold v_X10_lift at h
  refine lv_aload_n X.1 X.2.1 dX10_lift_0 rfl (lv_at hv 0 rfl) ?_
  refine xw_get X hk hw (i := 0) 9 xe_0 rfl tlX10 (by decide) rfl tw_528 dX10_lift_1 ?_
  refine lv_iload_n X.1 X.2.1 dX10_lift_4 rfl (lv_at hv 1 rfl) ?_
  obtain ⟨j_1, e_2, b_3, h⟩ := h
  refine xw_ild X hk hw xe_9 e_2 b_3 (by decide) dX10_lift_5 ?_
  refine lv_if_ne (tgt := 11) X.1 X.2.1 dX10_lift_6 (by decide) (fun c_4 => ?_) (fun c_4 => ?_)
  · skip
    replace h := h.1 c_4
    refine lv_aload_n X.1 X.2.1 dX10_lift_11 rfl (lv_at hv 0 rfl) ?_
    refine lv_iload_n X.1 X.2.1 dX10_lift_12 rfl (lv_at hv 1 rfl) ?_
    refine xc_i (xr_V (n := 1) (As := [.int (x1)]) (i := 0) X hk hw hv.1 (c_X10_rowOn l Z et S (x1) _ h) (tb_V tw_629 tw_626 tw_628 tw_18 tw_44) xe_0 rfl rfl rfl rfl (by decide +kernel) ⟨Nat.le_of_ble_eq_true rfl, Nat.le_of_ble_eq_true rfl⟩ rfl (Nat.le_of_ble_eq_true rfl) dX10_lift_13 ⟨Nat.le_of_ble_eq_true rfl, Nat.le_of_ble_eq_true rfl⟩) hl (fun r_6 S_5 H locs h hN hw hl => ?_)
    replace hNN := hN.trans hNN
    refine lv_istore_n (lv' := [(3, .int (r_6)), (0, .ref (et (0))), (1, .int (x1)), (2, .int (x2))]) X.1 X.2.1 dX10_lift_16 rfl hv (by decide) rfl (fun ls hv => ?_)
    refine lv_iload_n X.1 X.2.1 dX10_lift_17 rfl (lv_at hv 0 rfl) ?_
    refine lv_if_lt (tgt := 32) X.1 X.2.1 dX10_lift_18 (by decide) (fun c_7 => ?_) (fun c_7 => ?_)
    · skip
      replace h := h.1 c_7
      refine lv_iconst (v := 2) X.1 X.2.1 dX10_lift_32 (by decide) ?_
      exact xt_i X hr hlocks hNN hw hl h dX10_lift_33
    · skip
      replace h := h.2 c_7
      refine lv_aload_n X.1 X.2.1 dX10_lift_21 rfl (lv_at hv 1 rfl) ?_
      refine xw_get X hk hw (i := 0) 1 xe_0 rfl tlX10 (by decide) rfl tw_520 dX10_lift_22 ?_
      refine lv_iload_n X.1 X.2.1 dX10_lift_25 rfl (lv_at hv 0 rfl) ?_
      obtain ⟨j_8, e_9, b_10, h⟩ := h
      refine xw_ild X hk hw xe_1 e_9 b_10 (by decide) dX10_lift_26 ?_
      refine lv_bipush (v := 8) X.1 X.2.1 dX10_lift_27 (by decide) ?_
      refine lv_icmp_ge (tgt := 34) X.1 X.2.1 dX10_lift_29 (by decide) (fun c_11 => ?_) (fun c_11 => ?_)
      · skip
        replace h := h.1 c_11
        refine lv_aload_n X.1 X.2.1 dX10_lift_34 rfl (lv_at hv 1 rfl) ?_
        refine xw_get X hk hw (i := 0) 11 xe_0 rfl tlX10 (by decide) rfl tw_530 dX10_lift_35 ?_
        refine lv_iload_n X.1 X.2.1 dX10_lift_38 rfl (lv_at hv 2 rfl) ?_
        obtain ⟨j_12, e_13, b_14, h⟩ := h
        refine xw_ild X hk hw xe_11 e_13 b_14 (by decide) dX10_lift_39 ?_
        refine lv_iconst (v := 0) X.1 X.2.1 dX10_lift_40 (by decide) ?_
        refine lv_aload_n X.1 X.2.1 dX10_lift_41 rfl (lv_at hv 1 rfl) ?_
        refine xw_get X hk hw (i := 0) 2 xe_0 rfl tlX10 (by decide) rfl tw_521 dX10_lift_42 ?_
        refine lv_iload_n X.1 X.2.1 dX10_lift_45 rfl (lv_at hv 0 rfl) ?_
        obtain ⟨j_15, e_16, b_17, h⟩ := h
        refine xw_ild X hk hw xe_2 e_16 b_17 (by decide) dX10_lift_46 ?_
        refine lv_iconst (v := 1) X.1 X.2.1 dX10_lift_47 (by decide) ?_
        refine lv_isub X.1 X.2.1 dX10_lift_48 ?_
        refine xc_i (xr_S (n := 3) X hk hw hv.1 (c_X10_in l Z et S_5 ((xI S_5 11 j_12)) (0) (((xI S_5 2 j_15) - 1)) _ h) (tb_S tw_613 tw_611 tw_612 tw_44) rfl rfl (by decide +kernel) ⟨Nat.le_of_ble_eq_true rfl, Nat.le_of_ble_eq_true rfl⟩ rfl (Nat.le_of_ble_eq_true rfl) dX10_lift_49 ⟨Nat.le_of_ble_eq_true rfl, Nat.le_of_ble_eq_true rfl⟩) hl (fun r_19 S_18 H locs h hN hw hl => ?_)
        replace hNN := hN.trans hNN
        refine lv_if_ne (tgt := 57) X.1 X.2.1 dX10_lift_52 (by decide) (fun c_20 => ?_) (fun c_20 => ?_)
        · skip
          replace h := h.1 c_20
          refine lv_aload_n X.1 X.2.1 dX10_lift_57 rfl (lv_at hv 1 rfl) ?_
          refine xw_get X hk hw (i := 0) 5 xe_0 rfl tlX10 (by decide) rfl tw_524 dX10_lift_58 ?_
          refine lv_aload_n X.1 X.2.1 dX10_lift_61 rfl (lv_at hv 1 rfl) ?_
          refine xw_get X hk hw (i := 0) 3 xe_0 rfl tlX10 (by decide) rfl tw_522 dX10_lift_62 ?_
          refine lv_iload_n X.1 X.2.1 dX10_lift_65 rfl (lv_at hv 0 rfl) ?_
          obtain ⟨j_21, e_22, b_23, h⟩ := h
          refine xw_ild X hk hw xe_3 e_22 b_23 (by decide) dX10_lift_66 ?_
          refine lv_aload_n X.1 X.2.1 dX10_lift_67 rfl (lv_at hv 1 rfl) ?_
          refine xw_get X hk hw (i := 0) 11 xe_0 rfl tlX10 (by decide) rfl tw_530 dX10_lift_68 ?_
          refine lv_iload_n X.1 X.2.1 dX10_lift_71 rfl (lv_at hv 2 rfl) ?_
          obtain ⟨j_24, e_25, b_26, h⟩ := h
          refine xw_ild X hk hw xe_11 e_25 b_26 (by decide) dX10_lift_72 ?_
          refine lv_iadd X.1 X.2.1 dX10_lift_73 ?_
          obtain ⟨j_27, e_28, b_29, h⟩ := h
          refine xw_lld X hk hw xe_5 e_28 b_29 (by decide) dX10_lift_74 ?_
          refine lv_l2i (v := ((xL S_18 5 j_27)).toInt32) X.1 X.2.1 dX10_lift_75 rfl ?_
          refine lv_istore (lv' := [(4, .int (((xL S_18 5 j_27)).toInt32)), (3, .int (r_6)), (0, .ref (et (0))), (1, .int (x1)), (2, .int (x2))]) X.1 X.2.1 dX10_lift_76 hv (by decide) rfl (fun ls hv => ?_)
          refine lv_aload_n X.1 X.2.1 dX10_lift_78 rfl (lv_at hv 2 rfl) ?_
          refine lv_iload_n X.1 X.2.1 dX10_lift_79 rfl (lv_at hv 4 rfl) ?_
          refine lv_iload X.1 X.2.1 dX10_lift_80 (lv_at hv 0 rfl) ?_
          refine lv_if_ne (tgt := 89) X.1 X.2.1 dX10_lift_82 (by decide) (fun c_30 => ?_) (fun c_30 => ?_)
          · skip
            replace h := h.1 c_30
            refine lv_iconst (v := 3) X.1 X.2.1 dX10_lift_89 (by decide) ?_
            refine lv_iload X.1 X.2.1 dX10_lift_90 (lv_at hv 0 rfl) ?_
            refine xc_v (xr_V (n := 3) (As := [.int (x2), .int (3), .int (((xL S_18 5 j_27)).toInt32)]) (i := 0) X hk hw hv.1 (c_X10_hold l Z et S_18 (x2) (3) (((xL S_18 5 j_27)).toInt32) _ h) (tb_V tw_665 tw_662 tw_664 tw_27 tw_44) xe_0 rfl rfl rfl rfl (by decide +kernel) ⟨Nat.le_of_ble_eq_true rfl, Nat.le_of_ble_eq_true rfl⟩ rfl (Nat.le_of_ble_eq_true rfl) dX10_lift_92 ⟨Nat.le_of_ble_eq_true rfl, Nat.le_of_ble_eq_true rfl⟩) hl (fun S_31 H locs h hN hw hl => ?_)
            replace hNN := hN.trans hNN
            refine lv_iconst (v := 0) X.1 X.2.1 dX10_lift_95 (by decide) ?_
            exact xt_i X hr hlocks hNN hw hl h dX10_lift_96
          · skip
            replace h := h.2 c_30
            refine lv_iconst (v := 0) X.1 X.2.1 dX10_lift_85 (by decide) ?_
            refine lv_goto (tgt := 90) X.1 X.2.1 dX10_lift_86 (by decide) ?_
            refine lv_iload X.1 X.2.1 dX10_lift_90 (lv_at hv 0 rfl) ?_
            refine xc_v (xr_V (n := 3) (As := [.int (x2), .int (0), .int (((xL S_18 5 j_27)).toInt32)]) (i := 0) X hk hw hv.1 (c_X10_hold l Z et S_18 (x2) (0) (((xL S_18 5 j_27)).toInt32) _ h) (tb_V tw_665 tw_662 tw_664 tw_27 tw_44) xe_0 rfl rfl rfl rfl (by decide +kernel) ⟨Nat.le_of_ble_eq_true rfl, Nat.le_of_ble_eq_true rfl⟩ rfl (Nat.le_of_ble_eq_true rfl) dX10_lift_92 ⟨Nat.le_of_ble_eq_true rfl, Nat.le_of_ble_eq_true rfl⟩) hl (fun S_33 H locs h hN hw hl => ?_)
            replace hNN := hN.trans hNN
            refine lv_iconst (v := 0) X.1 X.2.1 dX10_lift_95 (by decide) ?_
            exact xt_i X hr hlocks hNN hw hl h dX10_lift_96
        · skip
          replace h := h.2 c_20
          refine lv_iconst (v := 3) X.1 X.2.1 dX10_lift_55 (by decide) ?_
          exact xt_i X hr hlocks hNN hw hl h dX10_lift_56
      · skip
        replace h := h.2 c_11
        refine lv_iconst (v := 2) X.1 X.2.1 dX10_lift_32 (by decide) ?_
        exact xt_i X hr hlocks hNN hw hl h dX10_lift_33
  · skip
    replace h := h.2 c_4
    refine lv_iconst (v := 1) X.1 X.2.1 dX10_lift_9 (by decide) ?_
    exact xt_i X hr hlocks hNN hw hl h dX10_lift_10
end
section
def v_X10_make (x1 : Int32) (x2 : Int32) (S : xs_T) (K : Int32 → xs_T → Prop) : Prop := ∃ j_1 : Nat, (xF S 0 0) = nI j_1 ∧ j_1 < 120 ∧ ∀ S_4 : xs_T, S_4 = sI S 1 j_1 (x1) → ∃ j_6 : Nat, (xF S_4 0 0) = nI j_6 ∧ j_6 < 120 ∧ ∀ S_9 : xs_T, S_9 = sI S_4 2 j_6 (x2) → ∃ j_11 : Nat, (xF S_9 0 0) = nI j_11 ∧ j_11 < 120 ∧ ∀ S_14 : xs_T, S_14 = sI S_9 3 j_11 ((xF S_9 0 4)) → ∀ S_16 : xs_T, S_16 = sF S_14 0 4 (((xF S_14 0 4) + x2)) → ∀ S_18 : xs_T, S_18 = sF S_16 0 0 (((xF S_16 0 0) + 1)) → K (((xF S_18 0 0) - 1)) S_18
set_option maxHeartbeats 4000000 in
set_option maxRecDepth 100000 in
theorem c_X10_make (l : Launch) (Z : xz_T) (et : Nat → Nat) (S : xs_T) (x1 : Int32) (x2 : Int32) (K : Int32 → xs_T → Prop) (h : v_X10_make x1 x2 S K) : Met l yX10_make (wq yX10_make cX10_make 3 (some .int)) { frames := 0, cells := 0, slots := 0, locals := 0 } (xPc Z et S [.ref (et (0)), .int (x1), .int (x2)]) (xQi Z et S.2.2.2.2 K) 0 0 (fun q => Z.2.2.1 ≤ q) := by
  refine Met.ofW (cc := cX10_make) (maxL := 3) (ret := (some .int)) (by decide +kernel) rfl ?_
  intro p e s m args below meth c s₁ B hml hv0
  obtain ⟨rfl, hk, hw⟩ := hv0
  have X : CallFix p m c cX10_make 3 s _ (wq yX10_make cX10_make 3 (some .int)) RX10 := ⟨B.exec, B.bytes, hml, findClass_of_methodNamed B.named, atoms_spec (ws := (wq yX10_make cX10_make 3 (some .int))) B.pre⟩
  have hr := B.returns
  have hlocks := B.notSynchronized
  have hl : xl Z [] := fun _ h => by cases h
  have hNN : S.2.2.2.2 = S.2.2.2.2 := rfl
  have hv := lv_entry [.ref (et (0)), .int (x1), .int (x2)] (n := 3) (Nat.le_of_ble_eq_true rfl)
  rw [lg_entry_eq]
  generalize (lg_sl [.ref (et (0)), .int (x1), .int (x2)] ++ List.replicate (3 - (lg_sl [.ref (et (0)), .int (x1), .int (x2)]).length) Slot.unset).toArray = ls at hv ⊢
  replace hv : lv_has ls 3 [(0, .ref (et (0))), (1, .int (x1)), (2, .int (x2))] := hv
  unfold v_X10_make at h
  refine lv_aload_n X.1 X.2.1 dX10_make_0 rfl (lv_at hv 0 rfl) ?_
  refine xw_get X hk hw (i := 0) 1 xe_0 rfl tlX10 (by decide) rfl tw_520 dX10_make_1 ?_
  refine lv_aload_n X.1 X.2.1 dX10_make_4 rfl (lv_at hv 0 rfl) ?_
  refine xw_get X hk hw (i := 0) 0 xe_0 rfl tlX10 (by decide) rfl tw_519 dX10_make_5 ?_
  refine lv_iload_n X.1 X.2.1 dX10_make_8 rfl (lv_at hv 1 rfl) ?_
  obtain ⟨j_1, e_2, b_3, h⟩ := h
  refine xw_ist X hk hw hl xe_1 rfl e_2 b_3 (by decide) dX10_make_9 (fun H locs hw hl => ?_)
  obtain ⟨S_4, e_5⟩ : ∃ T : xs_T, T = sI S 1 j_1 (x1) := ⟨_, rfl⟩
  rw [← e_5] at hw
  replace h := h S_4 e_5
  have hN : S_4.2.2.2.2 = S.2.2.2.2 := by rw [e_5]; rfl
  replace hNN := hN.trans hNN
  refine lv_aload_n X.1 X.2.1 dX10_make_10 rfl (lv_at hv 0 rfl) ?_
  refine xw_get X hk hw (i := 0) 2 xe_0 rfl tlX10 (by decide) rfl tw_521 dX10_make_11 ?_
  refine lv_aload_n X.1 X.2.1 dX10_make_14 rfl (lv_at hv 0 rfl) ?_
  refine xw_get X hk hw (i := 0) 0 xe_0 rfl tlX10 (by decide) rfl tw_519 dX10_make_15 ?_
  refine lv_iload_n X.1 X.2.1 dX10_make_18 rfl (lv_at hv 2 rfl) ?_
  obtain ⟨j_6, e_7, b_8, h⟩ := h
  refine xw_ist X hk hw hl xe_2 rfl e_7 b_8 (by decide) dX10_make_19 (fun H locs hw hl => ?_)
  obtain ⟨S_9, e_10⟩ : ∃ T : xs_T, T = sI S_4 2 j_6 (x2) := ⟨_, rfl⟩
  rw [← e_10] at hw
  replace h := h S_9 e_10
  have hN : S_9.2.2.2.2 = S_4.2.2.2.2 := by rw [e_10]; rfl
  replace hNN := hN.trans hNN
  refine lv_aload_n X.1 X.2.1 dX10_make_20 rfl (lv_at hv 0 rfl) ?_
  refine xw_get X hk hw (i := 0) 3 xe_0 rfl tlX10 (by decide) rfl tw_522 dX10_make_21 ?_
  refine lv_aload_n X.1 X.2.1 dX10_make_24 rfl (lv_at hv 0 rfl) ?_
  refine xw_get X hk hw (i := 0) 0 xe_0 rfl tlX10 (by decide) rfl tw_519 dX10_make_25 ?_
  refine lv_aload_n X.1 X.2.1 dX10_make_28 rfl (lv_at hv 0 rfl) ?_
  refine xw_get X hk hw (i := 0) 4 xe_0 rfl tlX10 (by decide) rfl tw_523 dX10_make_29 ?_
  obtain ⟨j_11, e_12, b_13, h⟩ := h
  refine xw_ist X hk hw hl xe_3 rfl e_12 b_13 (by decide) dX10_make_32 (fun H locs hw hl => ?_)
  obtain ⟨S_14, e_15⟩ : ∃ T : xs_T, T = sI S_9 3 j_11 ((xF S_9 0 4)) := ⟨_, rfl⟩
  rw [← e_15] at hw
  replace h := h S_14 e_15
  have hN : S_14.2.2.2.2 = S_9.2.2.2.2 := by rw [e_15]; rfl
  replace hNN := hN.trans hNN
  refine lv_aload_n X.1 X.2.1 dX10_make_33 rfl (lv_at hv 0 rfl) ?_
  refine lv_dup X.1 X.2.1 dX10_make_34 rfl ?_
  refine xw_get X hk hw (i := 0) 4 xe_0 rfl tlX10 (by decide) rfl tw_523 dX10_make_35 ?_
  refine lv_iload_n X.1 X.2.1 dX10_make_38 rfl (lv_at hv 2 rfl) ?_
  refine lv_iadd X.1 X.2.1 dX10_make_39 ?_
  refine xw_put X hk hw hl (i := 0) 4 xe_0 rfl rfl tlX10 tyX10 tyX10_ok nmX10 (by decide) tw_523 rfl rfl (Nat.le_of_ble_eq_true rfl) dX10_make_40 (fun H locs hw hl => ?_)
  obtain ⟨S_16, e_17⟩ : ∃ T : xs_T, T = sF S_14 0 4 (((xF S_14 0 4) + x2)) := ⟨_, rfl⟩
  rw [← e_17] at hw
  replace h := h S_16 e_17
  have hN : S_16.2.2.2.2 = S_14.2.2.2.2 := by rw [e_17]; rfl
  replace hNN := hN.trans hNN
  refine lv_aload_n X.1 X.2.1 dX10_make_43 rfl (lv_at hv 0 rfl) ?_
  refine lv_dup X.1 X.2.1 dX10_make_44 rfl ?_
  refine xw_get X hk hw (i := 0) 0 xe_0 rfl tlX10 (by decide) rfl tw_519 dX10_make_45 ?_
  refine lv_iconst (v := 1) X.1 X.2.1 dX10_make_48 (by decide) ?_
  refine lv_iadd X.1 X.2.1 dX10_make_49 ?_
  refine xw_put X hk hw hl (i := 0) 0 xe_0 rfl rfl tlX10 tyX10 tyX10_ok nmX10 (by decide) tw_519 rfl rfl (Nat.le_of_ble_eq_true rfl) dX10_make_50 (fun H locs hw hl => ?_)
  obtain ⟨S_18, e_19⟩ : ∃ T : xs_T, T = sF S_16 0 0 (((xF S_16 0 0) + 1)) := ⟨_, rfl⟩
  rw [← e_19] at hw
  replace h := h S_18 e_19
  have hN : S_18.2.2.2.2 = S_16.2.2.2.2 := by rw [e_19]; rfl
  replace hNN := hN.trans hNN
  refine lv_aload_n X.1 X.2.1 dX10_make_53 rfl (lv_at hv 0 rfl) ?_
  refine xw_get X hk hw (i := 0) 0 xe_0 rfl tlX10 (by decide) rfl tw_519 dX10_make_54 ?_
  refine lv_iconst (v := 1) X.1 X.2.1 dX10_make_57 (by decide) ?_
  refine lv_isub X.1 X.2.1 dX10_make_58 ?_
  exact xt_i X hr hlocks hNN hw hl h dX10_make_59
def v_X10_roomFor (x1 : Int32) (S : xs_T) (K : Int32 → xs_T → Prop) : Prop := ((120 ≤ (xF S 0 0) → K (0) S) ∧ (¬ 120 ≤ (xF S 0 0) → ((64 < x1 → K (0) S) ∧ (¬ 64 < x1 → ((3000 < ((xF S 0 4) + x1) → K (0) S) ∧ (¬ 3000 < ((xF S 0 4) + x1) → K (1) S))))))
set_option maxHeartbeats 4000000 in
set_option maxRecDepth 100000 in
theorem c_X10_roomFor (l : Launch) (Z : xz_T) (et : Nat → Nat) (S : xs_T) (x1 : Int32) (K : Int32 → xs_T → Prop) (h : v_X10_roomFor x1 S K) : Met l yX10_roomFor (wq yX10_roomFor cX10_roomFor 2 (some .boolean)) { frames := 0, cells := 0, slots := 0, locals := 0 } (xPc Z et S [.ref (et (0)), .int (x1)]) (xQi Z et S.2.2.2.2 K) 0 0 (fun q => Z.2.2.1 ≤ q) := by
  refine Met.ofW (cc := cX10_roomFor) (maxL := 2) (ret := (some .boolean)) (by decide +kernel) rfl ?_
  intro p e s m args below meth c s₁ B hml hv0
  obtain ⟨rfl, hk, hw⟩ := hv0
  have X : CallFix p m c cX10_roomFor 2 s _ (wq yX10_roomFor cX10_roomFor 2 (some .boolean)) RX10 := ⟨B.exec, B.bytes, hml, findClass_of_methodNamed B.named, atoms_spec (ws := (wq yX10_roomFor cX10_roomFor 2 (some .boolean))) B.pre⟩
  have hr := B.returns
  have hlocks := B.notSynchronized
  have hl : xl Z [] := fun _ h => by cases h
  have hNN : S.2.2.2.2 = S.2.2.2.2 := rfl
  have hv := lv_entry [.ref (et (0)), .int (x1)] (n := 2) (Nat.le_of_ble_eq_true rfl)
  rw [lg_entry_eq]
  generalize (lg_sl [.ref (et (0)), .int (x1)] ++ List.replicate (2 - (lg_sl [.ref (et (0)), .int (x1)]).length) Slot.unset).toArray = ls at hv ⊢
  replace hv : lv_has ls 2 [(0, .ref (et (0))), (1, .int (x1))] := hv
  unfold v_X10_roomFor at h
  refine lv_aload_n X.1 X.2.1 dX10_roomFor_0 rfl (lv_at hv 0 rfl) ?_
  refine xw_get X hk hw (i := 0) 0 xe_0 rfl tlX10 (by decide) rfl tw_519 dX10_roomFor_1 ?_
  refine lv_bipush (v := 120) X.1 X.2.1 dX10_roomFor_4 (by decide) ?_
  refine lv_icmp_ge (tgt := 31) X.1 X.2.1 dX10_roomFor_6 (by decide) (fun c_1 => ?_) (fun c_1 => ?_)
  · skip
    replace h := h.1 c_1
    refine lv_iconst (v := 0) X.1 X.2.1 dX10_roomFor_31 (by decide) ?_
    exact xt_z X hr hlocks hNN hw hl (by decide) h dX10_roomFor_32
  · skip
    replace h := h.2 c_1
    refine lv_iload_n X.1 X.2.1 dX10_roomFor_9 rfl (lv_at hv 1 rfl) ?_
    refine lv_bipush (v := 64) X.1 X.2.1 dX10_roomFor_10 (by decide) ?_
    refine lv_icmp_gt (tgt := 31) X.1 X.2.1 dX10_roomFor_12 (by decide) (fun c_2 => ?_) (fun c_2 => ?_)
    · skip
      replace h := h.1 c_2
      refine lv_iconst (v := 0) X.1 X.2.1 dX10_roomFor_31 (by decide) ?_
      exact xt_z X hr hlocks hNN hw hl (by decide) h dX10_roomFor_32
    · skip
      replace h := h.2 c_2
      refine lv_aload_n X.1 X.2.1 dX10_roomFor_15 rfl (lv_at hv 0 rfl) ?_
      refine xw_get X hk hw (i := 0) 4 xe_0 rfl tlX10 (by decide) rfl tw_523 dX10_roomFor_16 ?_
      refine lv_iload_n X.1 X.2.1 dX10_roomFor_19 rfl (lv_at hv 1 rfl) ?_
      refine lv_iadd X.1 X.2.1 dX10_roomFor_20 ?_
      refine lv_sipush (v := 3000) X.1 X.2.1 dX10_roomFor_21 (by decide) ?_
      refine lv_icmp_gt (tgt := 31) X.1 X.2.1 dX10_roomFor_24 (by decide) (fun c_3 => ?_) (fun c_3 => ?_)
      · skip
        replace h := h.1 c_3
        refine lv_iconst (v := 0) X.1 X.2.1 dX10_roomFor_31 (by decide) ?_
        exact xt_z X hr hlocks hNN hw hl (by decide) h dX10_roomFor_32
      · skip
        replace h := h.2 c_3
        refine lv_iconst (v := 1) X.1 X.2.1 dX10_roomFor_27 (by decide) ?_
        refine lv_goto (tgt := 32) X.1 X.2.1 dX10_roomFor_28 (by decide) ?_
        exact xt_z X hr hlocks hNN hw hl (by decide) h dX10_roomFor_32
def v_X10_makeOn (x1 : Int32) (x2 : Int32) (x3 : Int32) (S : xs_T) (K : Int32 → xs_T → Prop) : Prop := ((0 ≤ x3 → v_X10_roomFor (x3) S (fun (r_3 : Int32) (S_2 : xs_T) => ((¬ r_3 = 0 → v_X10_make (x2) (x3) S_2 (fun (r_6 : Int32) (S_5 : xs_T) => v_X10_hold (x1) (1) (r_6) S_5 (fun (S_7 : xs_T) => K (0) S_7))) ∧ (r_3 = 0 → K (4) S_2)))) ∧ (¬ 0 ≤ x3 → K (5) S))
set_option maxHeartbeats 4000000 in
set_option maxRecDepth 100000 in
theorem c_X10_makeOn (l : Launch) (Z : xz_T) (et : Nat → Nat) (S : xs_T) (x1 : Int32) (x2 : Int32) (x3 : Int32) (K : Int32 → xs_T → Prop) (h : v_X10_makeOn x1 x2 x3 S K) : Met l yX10_makeOn (wq yX10_makeOn cX10_makeOn 4 (some .int)) { frames := 1, cells := 0, slots := 0, locals := 23 } (xPc Z et S [.ref (et (0)), .int (x1), .int (x2), .int (x3)]) (xQi Z et S.2.2.2.2 K) 0 0 (fun q => Z.2.2.1 ≤ q) := by
  refine Met.ofW (cc := cX10_makeOn) (maxL := 4) (ret := (some .int)) (by decide +kernel) rfl ?_
  intro p e s m args below meth c s₁ B hml hv0
  obtain ⟨rfl, hk, hw⟩ := hv0
  have X : CallFix p m c cX10_makeOn 4 s _ (wq yX10_makeOn cX10_makeOn 4 (some .int)) RX10 := ⟨B.exec, B.bytes, hml, findClass_of_methodNamed B.named, atoms_spec (ws := (wq yX10_makeOn cX10_makeOn 4 (some .int))) B.pre⟩
  have hr := B.returns
  have hlocks := B.notSynchronized
  have hl : xl Z [] := fun _ h => by cases h
  have hNN : S.2.2.2.2 = S.2.2.2.2 := rfl
  have hv := lv_entry [.ref (et (0)), .int (x1), .int (x2), .int (x3)] (n := 4) (Nat.le_of_ble_eq_true rfl)
  rw [lg_entry_eq]
  generalize (lg_sl [.ref (et (0)), .int (x1), .int (x2), .int (x3)] ++ List.replicate (4 - (lg_sl [.ref (et (0)), .int (x1), .int (x2), .int (x3)]).length) Slot.unset).toArray = ls at hv ⊢
  replace hv : lv_has ls 4 [(0, .ref (et (0))), (1, .int (x1)), (2, .int (x2)), (3, .int (x3))] := hv
  unfold v_X10_makeOn at h
  refine lv_iload_n X.1 X.2.1 dX10_makeOn_0 rfl (lv_at hv 3 rfl) ?_
  refine lv_if_ge (tgt := 6) X.1 X.2.1 dX10_makeOn_1 (by decide) (fun c_1 => ?_) (fun c_1 => ?_)
  · skip
    replace h := h.1 c_1
    refine lv_aload_n X.1 X.2.1 dX10_makeOn_6 rfl (lv_at hv 0 rfl) ?_
    refine lv_iload_n X.1 X.2.1 dX10_makeOn_7 rfl (lv_at hv 3 rfl) ?_
    refine xc_i (xr_V (n := 1) (As := [.int (x3)]) (i := 0) X hk hw hv.1 (c_X10_roomFor l Z et S (x3) _ h) (tb_V tw_657 tw_654 tw_656 tw_25 tw_44) xe_0 rfl rfl rfl rfl (by decide +kernel) ⟨Nat.le_of_ble_eq_true rfl, Nat.le_of_ble_eq_true rfl⟩ rfl (Nat.le_of_ble_eq_true rfl) dX10_makeOn_8 ⟨Nat.le_of_ble_eq_true rfl, Nat.le_of_ble_eq_true rfl⟩) hl (fun r_3 S_2 H locs h hN hw hl => ?_)
    replace hNN := hN.trans hNN
    refine lv_if_ne (tgt := 16) X.1 X.2.1 dX10_makeOn_11 (by decide) (fun c_4 => ?_) (fun c_4 => ?_)
    · skip
      replace h := h.1 c_4
      refine lv_aload_n X.1 X.2.1 dX10_makeOn_16 rfl (lv_at hv 0 rfl) ?_
      refine lv_iload_n X.1 X.2.1 dX10_makeOn_17 rfl (lv_at hv 1 rfl) ?_
      refine lv_iconst (v := 1) X.1 X.2.1 dX10_makeOn_18 (by decide) ?_
      refine lv_aload_n X.1 X.2.1 dX10_makeOn_19 rfl (lv_at hv 0 rfl) ?_
      refine lv_iload_n X.1 X.2.1 dX10_makeOn_20 rfl (lv_at hv 2 rfl) ?_
      refine lv_iload_n X.1 X.2.1 dX10_makeOn_21 rfl (lv_at hv 3 rfl) ?_
      refine xc_i (xr_V (n := 2) (As := [.int (x2), .int (x3)]) (i := 0) X hk hw hv.1 (c_X10_make l Z et S_2 (x2) (x3) _ h) (tb_V tw_661 tw_658 tw_660 tw_26 tw_44) xe_0 rfl rfl rfl rfl (by decide +kernel) ⟨Nat.le_of_ble_eq_true rfl, Nat.le_of_ble_eq_true rfl⟩ rfl (Nat.le_of_ble_eq_true rfl) dX10_makeOn_22 ⟨Nat.le_of_ble_eq_true rfl, Nat.le_of_ble_eq_true rfl⟩) hl (fun r_6 S_5 H locs h hN hw hl => ?_)
      replace hNN := hN.trans hNN
      refine xc_v (xr_V (n := 3) (As := [.int (x1), .int (1), .int (r_6)]) (i := 0) X hk hw hv.1 (c_X10_hold l Z et S_5 (x1) (1) (r_6) _ h) (tb_V tw_665 tw_662 tw_664 tw_27 tw_44) xe_0 rfl rfl rfl rfl (by decide +kernel) ⟨Nat.le_of_ble_eq_true rfl, Nat.le_of_ble_eq_true rfl⟩ rfl (Nat.le_of_ble_eq_true rfl) dX10_makeOn_25 ⟨Nat.le_of_ble_eq_true rfl, Nat.le_of_ble_eq_true rfl⟩) hl (fun S_7 H locs h hN hw hl => ?_)
      replace hNN := hN.trans hNN
      refine lv_iconst (v := 0) X.1 X.2.1 dX10_makeOn_28 (by decide) ?_
      exact xt_i X hr hlocks hNN hw hl h dX10_makeOn_29
    · skip
      replace h := h.2 c_4
      refine lv_iconst (v := 4) X.1 X.2.1 dX10_makeOn_14 (by decide) ?_
      exact xt_i X hr hlocks hNN hw hl h dX10_makeOn_15
  · skip
    replace h := h.2 c_1
    refine lv_iconst (v := 5) X.1 X.2.1 dX10_makeOn_4 (by decide) ?_
    exact xt_i X hr hlocks hNN hw hl h dX10_makeOn_5
def v_X10_open_108 (K : Int32 → xs_T → Prop) : Nat → Int32 → Int32 → Int32 → Int32 → Int32 → Int32 → xs_T → Prop
  | 0, _, _, _, _, _, _, _ => False
  | n + 1, a2, a3, a4, a5, a6, a7, S => ((a6 ≤ a7 → K (0) S) ∧ (¬ a6 ≤ a7 → ((a3 = 0 → ((a3 = 0 → (((a7 - a2) < a5 → ∃ j_35 : Nat, a4 = nI j_35 ∧ j_35 < 120 ∧ ∃ j_38 : Nat, ((xI S 3 j_35) + a7) = nI j_38 ∧ j_38 < 3000 ∧ ∀ S_41 : xs_T, S_41 = sL S 5 j_38 (0) → v_X10_open_108 K n (a2) (a3) (a4) (a5) (a6) ((a7 + 1)) S_41) ∧ (¬ (a7 - a2) < a5 → ∃ j_43 : Nat, a4 = nI j_43 ∧ j_43 < 120 ∧ ∃ j_46 : Nat, (a7 - a2) = nI j_46 ∧ j_46 < 64 ∧ ∃ j_49 : Nat, ((xI S 3 j_43) + a7) = nI j_49 ∧ j_49 < 3000 ∧ ∀ S_52 : xs_T, S_52 = sL S 5 j_49 ((xL S 22 j_46)) → v_X10_open_108 K n (a2) (a3) (a4) (a5) (a6) ((a7 + 1)) S_52))) ∧ (¬ a3 = 0 → ((a6 ≤ (a7 - a2) → ∃ j_55 : Nat, a4 = nI j_55 ∧ j_55 < 120 ∧ ∃ j_58 : Nat, ((xI S 3 j_55) + a7) = nI j_58 ∧ j_58 < 3000 ∧ ∀ S_61 : xs_T, S_61 = sL S 5 j_58 (0) → v_X10_open_108 K n (a2) (a3) (a4) (a5) (a6) ((a7 + 1)) S_61) ∧ (¬ a6 ≤ (a7 - a2) → ∃ j_63 : Nat, a4 = nI j_63 ∧ j_63 < 120 ∧ ∃ j_66 : Nat, (a7 - a2) = nI j_66 ∧ j_66 < 64 ∧ ∃ j_69 : Nat, ((xI S 3 j_63) + a7) = nI j_69 ∧ j_69 < 3000 ∧ ∀ S_72 : xs_T, S_72 = sL S 5 j_69 ((xL S 22 j_66)) → v_X10_open_108 K n (a2) (a3) (a4) (a5) (a6) ((a7 + 1)) S_72))))) ∧ (¬ a3 = 0 → ((a3 = 0 → (((a7 + a2) < a5 → ∃ j_76 : Nat, a4 = nI j_76 ∧ j_76 < 120 ∧ ∃ j_79 : Nat, ((xI S 3 j_76) + a7) = nI j_79 ∧ j_79 < 3000 ∧ ∀ S_82 : xs_T, S_82 = sL S 5 j_79 (0) → v_X10_open_108 K n (a2) (a3) (a4) (a5) (a6) ((a7 + 1)) S_82) ∧ (¬ (a7 + a2) < a5 → ∃ j_84 : Nat, a4 = nI j_84 ∧ j_84 < 120 ∧ ∃ j_87 : Nat, (a7 + a2) = nI j_87 ∧ j_87 < 64 ∧ ∃ j_90 : Nat, ((xI S 3 j_84) + a7) = nI j_90 ∧ j_90 < 3000 ∧ ∀ S_93 : xs_T, S_93 = sL S 5 j_90 ((xL S 22 j_87)) → v_X10_open_108 K n (a2) (a3) (a4) (a5) (a6) ((a7 + 1)) S_93))) ∧ (¬ a3 = 0 → ((a6 ≤ (a7 + a2) → ∃ j_96 : Nat, a4 = nI j_96 ∧ j_96 < 120 ∧ ∃ j_99 : Nat, ((xI S 3 j_96) + a7) = nI j_99 ∧ j_99 < 3000 ∧ ∀ S_102 : xs_T, S_102 = sL S 5 j_99 (0) → v_X10_open_108 K n (a2) (a3) (a4) (a5) (a6) ((a7 + 1)) S_102) ∧ (¬ a6 ≤ (a7 + a2) → ∃ j_104 : Nat, a4 = nI j_104 ∧ j_104 < 120 ∧ ∃ j_107 : Nat, (a7 + a2) = nI j_107 ∧ j_107 < 64 ∧ ∃ j_110 : Nat, ((xI S 3 j_104) + a7) = nI j_110 ∧ j_110 < 3000 ∧ ∀ S_113 : xs_T, S_113 = sL S 5 j_110 ((xL S 22 j_107)) → v_X10_open_108 K n (a2) (a3) (a4) (a5) (a6) ((a7 + 1)) S_113))))))))
def v_X10_open_69 (K : Int32 → xs_T → Prop) : Nat → Int32 → Int32 → Int32 → Int32 → Int32 → Int32 → xs_T → Prop
  | 0, _, _, _, _, _, _, _ => False
  | n + 1, a2, a3, a4, a5, a6, a7, S => ((a6 ≤ a7 → ∃ n, v_X10_open_108 K n (a2) (a3) (a4) (a5) (a6) (a5) S) ∧ (¬ a6 ≤ a7 → ∃ j_20 : Nat, a4 = nI j_20 ∧ j_20 < 120 ∧ ∃ j_23 : Nat, ((xI S 3 j_20) + a7) = nI j_23 ∧ j_23 < 3000 ∧ ∃ j_26 : Nat, a7 = nI j_26 ∧ j_26 < 64 ∧ ∀ S_29 : xs_T, S_29 = sL S 22 j_26 ((xL S 5 j_23)) → v_X10_open_69 K n (a2) (a3) (a4) (a5) (a6) ((a7 + 1)) S_29))
def v_X10_open (x1 : Int32) (x2 : Int32) (x3 : Int32) (S : xs_T) (K : Int32 → xs_T → Prop) : Prop := ∃ j_1 : Nat, x1 = nI j_1 ∧ j_1 < 10 ∧ ((¬ (xI S 9 j_1) = 0 → v_X10_rowOn (x1) S (fun (r_6 : Int32) (S_5 : xs_T) => ((0 ≤ r_6 → ∃ j_8 : Nat, x1 = nI j_8 ∧ j_8 < 10 ∧ ∃ j_11 : Nat, r_6 = nI j_11 ∧ j_11 < 120 ∧ (((xI S_5 11 j_8) < 0 → K (3) S_5) ∧ (¬ (xI S_5 11 j_8) < 0 → ((x2 < 0 → K (3) S_5) ∧ (¬ x2 < 0 → (((((xI S_5 11 j_8)).toInt64 + (x2).toInt64) ≤ ((xI S_5 2 j_11)).toInt64 → ∃ n, v_X10_open_69 K n (x2) (x3) (r_6) ((xI S_5 11 j_8)) ((xI S_5 2 j_11)) (0) S_5) ∧ (¬ (((xI S_5 11 j_8)).toInt64 + (x2).toInt64) ≤ ((xI S_5 2 j_11)).toInt64 → K (3) S_5))))))) ∧ (¬ 0 ≤ r_6 → K (2) S_5)))) ∧ ((xI S 9 j_1) = 0 → K (1) S))
set_option maxHeartbeats 4000000 in
set_option maxRecDepth 100000 in
theorem j_X10_open_108 {l : Launch} {p : Program} {e : Env} {s : State} {m : MethodId} {args : Array Value} {below : List Frame} {meth : Method} {c : Code} {Z : xz_T} {et : Nat → Nat} {Nn : Nat → Nat} {K : Int32 → xs_T → Prop} (X : CallFix p m c cX10_open 10 s args (wq yX10_open cX10_open 10 (some .int)) RX10) (hk : xk Z s) (hr : meth.sig.returnType = (some .int)) (hlocks : meth.locks = false) : ∀ (n : Nat) (a2 : Int32) (a3 : Int32) (a4 : Int32) (a5 : Int32) (a6 : Int32) (a7 : Int32) (S : xs_T) (H : Heap) (locs : List Loc) (ls : Array Slot), v_X10_open_108 K n a2 a3 a4 a5 a6 a7 S → S.2.2.2.2 = Nn → wd Z et S H → xl Z locs → lv_has ls 10 [(0, .ref (et (0))), (2, .int (a2)), (3, .int (a3)), (4, .int (a4)), (5, .int (a5)), (6, .int (a6)), (7, .int (a7))] → W p l e (headSpec (wq yX10_open cX10_open 10 (some .int)) { frames := 1, cells := 0, slots := 0, locals := 21 }).room s m args below meth c H locs 0 0 (MQ below (xQi Z et Nn K) args s 0 0 (fun q => Z.2.2.1 ≤ q)) (F0 m 108 ls []) := by
  intro n
  induction n with
  | zero =>
    intro a2 a3 a4 a5 a6 a7 S H locs ls h hNN hw hl hv
    exact False.elim h
  | succ n ih =>
    intro a2 a3 a4 a5 a6 a7 S H locs ls h hNN hw hl hv
    rw [v_X10_open_108] at h
    refine lv_iload X.1 X.2.1 dX10_open_108 (lv_at hv 6 rfl) ?_
    refine lv_iload X.1 X.2.1 dX10_open_110 (lv_at hv 5 rfl) ?_
    refine lv_icmp_ge (tgt := 202) X.1 X.2.1 dX10_open_112 (by decide) (fun c_31 => ?_) (fun c_31 => ?_)
    · skip
      replace h := h.1 c_31
      refine lv_iconst (v := 0) X.1 X.2.1 dX10_open_202 (by decide) ?_
      exact xt_i X hr hlocks hNN hw hl h dX10_open_203
    · skip
      replace h := h.2 c_31
      refine lv_iload_n X.1 X.2.1 dX10_open_115 rfl (lv_at hv 2 rfl) ?_
      refine lv_if_eq (tgt := 126) X.1 X.2.1 dX10_open_116 (by decide) (fun c_32 => ?_) (fun c_32 => ?_)
      · skip
        replace h := h.1 c_32
        refine lv_iload X.1 X.2.1 dX10_open_126 (lv_at hv 6 rfl) ?_
        refine lv_iload_n X.1 X.2.1 dX10_open_128 rfl (lv_at hv 1 rfl) ?_
        refine lv_isub X.1 X.2.1 dX10_open_129 ?_
        refine lv_istore (lv' := [(8, .int ((a7 - a2))), (0, .ref (et (0))), (2, .int (a2)), (3, .int (a3)), (4, .int (a4)), (5, .int (a5)), (6, .int (a6)), (7, .int (a7))]) X.1 X.2.1 dX10_open_130 hv (by decide) rfl (fun ls hv => ?_)
        refine lv_iload_n X.1 X.2.1 dX10_open_132 rfl (lv_at hv 3 rfl) ?_
        refine lv_if_eq (tgt := 151) X.1 X.2.1 dX10_open_133 (by decide) (fun c_33 => ?_) (fun c_33 => ?_)
        · skip
          replace h := h.1 c_33
          refine lv_iload X.1 X.2.1 dX10_open_151 (lv_at hv 0 rfl) ?_
          refine lv_iload X.1 X.2.1 dX10_open_153 (lv_at hv 5 rfl) ?_
          refine lv_icmp_lt (tgt := 162) X.1 X.2.1 dX10_open_155 (by decide) (fun c_34 => ?_) (fun c_34 => ?_)
          · skip
            replace h := h.1 c_34
            refine lv_iconst (v := 0) X.1 X.2.1 dX10_open_162 (by decide) ?_
            refine lv_istore (lv' := [(9, .int (0)), (8, .int ((a7 - a2))), (0, .ref (et (0))), (2, .int (a2)), (3, .int (a3)), (4, .int (a4)), (5, .int (a5)), (6, .int (a6)), (7, .int (a7))]) X.1 X.2.1 dX10_open_163 hv (by decide) rfl (fun ls hv => ?_)
            refine lv_aload_n X.1 X.2.1 dX10_open_165 rfl (lv_at hv 2 rfl) ?_
            refine xw_get X hk hw (i := 0) 5 xe_0 rfl tlX10 (by decide) rfl tw_524 dX10_open_166 ?_
            refine lv_aload_n X.1 X.2.1 dX10_open_169 rfl (lv_at hv 2 rfl) ?_
            refine xw_get X hk hw (i := 0) 3 xe_0 rfl tlX10 (by decide) rfl tw_522 dX10_open_170 ?_
            refine lv_iload X.1 X.2.1 dX10_open_173 (lv_at hv 5 rfl) ?_
            obtain ⟨j_35, e_36, b_37, h⟩ := h
            refine xw_ild X hk hw xe_3 e_36 b_37 (by decide) dX10_open_175 ?_
            refine lv_iload X.1 X.2.1 dX10_open_176 (lv_at hv 8 rfl) ?_
            refine lv_iadd X.1 X.2.1 dX10_open_178 ?_
            refine lv_iload X.1 X.2.1 dX10_open_179 (lv_at hv 0 rfl) ?_
            refine lv_if_eq (tgt := 194) X.1 X.2.1 dX10_open_181 (by decide) (fun _ => ?_) (fun c => absurd c (by decide))
            refine lv_lconst (v := 0) X.1 X.2.1 dX10_open_194 rfl ?_
            obtain ⟨j_38, e_39, b_40, h⟩ := h
            refine xw_lst X hk hw hl xe_5 rfl e_39 b_40 (by decide) dX10_open_195 (fun H locs hw hl => ?_)
            obtain ⟨S_41, e_42⟩ : ∃ T : xs_T, T = sL S 5 j_38 (0) := ⟨_, rfl⟩
            rw [← e_42] at hw
            replace h := h S_41 e_42
            have hN : S_41.2.2.2.2 = S.2.2.2.2 := by rw [e_42]; rfl
            replace hNN := hN.trans hNN
            refine lv_iinc (v := (a7 + 1)) (lv' := [(7, .int ((a7 + 1))), (9, .int (0)), (8, .int ((a7 - a2))), (0, .ref (et (0))), (2, .int (a2)), (3, .int (a3)), (4, .int (a4)), (5, .int (a5)), (6, .int (a6))]) X.1 X.2.1 dX10_open_196 hv (k := 8) rfl rfl (by decide) rfl (fun ls hv => ?_)
            refine lv_goto (tgt := 108) X.1 X.2.1 dX10_open_199 (by decide) ?_
            exact ih (a2) (a3) (a4) (a5) (a6) ((a7 + 1)) S_41 _ _ _ h hNN hw hl (lv_sub hv [3, 4, 5, 6, 7, 8, 0] rfl)
          · skip
            replace h := h.2 c_34
            refine lv_iconst (v := 1) X.1 X.2.1 dX10_open_158 (by decide) ?_
            refine lv_goto (tgt := 163) X.1 X.2.1 dX10_open_159 (by decide) ?_
            refine lv_istore (lv' := [(9, .int (1)), (8, .int ((a7 - a2))), (0, .ref (et (0))), (2, .int (a2)), (3, .int (a3)), (4, .int (a4)), (5, .int (a5)), (6, .int (a6)), (7, .int (a7))]) X.1 X.2.1 dX10_open_163 hv (by decide) rfl (fun ls hv => ?_)
            refine lv_aload_n X.1 X.2.1 dX10_open_165 rfl (lv_at hv 2 rfl) ?_
            refine xw_get X hk hw (i := 0) 5 xe_0 rfl tlX10 (by decide) rfl tw_524 dX10_open_166 ?_
            refine lv_aload_n X.1 X.2.1 dX10_open_169 rfl (lv_at hv 2 rfl) ?_
            refine xw_get X hk hw (i := 0) 3 xe_0 rfl tlX10 (by decide) rfl tw_522 dX10_open_170 ?_
            refine lv_iload X.1 X.2.1 dX10_open_173 (lv_at hv 5 rfl) ?_
            obtain ⟨j_43, e_44, b_45, h⟩ := h
            refine xw_ild X hk hw xe_3 e_44 b_45 (by decide) dX10_open_175 ?_
            refine lv_iload X.1 X.2.1 dX10_open_176 (lv_at hv 8 rfl) ?_
            refine lv_iadd X.1 X.2.1 dX10_open_178 ?_
            refine lv_iload X.1 X.2.1 dX10_open_179 (lv_at hv 0 rfl) ?_
            refine lv_if_eq (tgt := 194) X.1 X.2.1 dX10_open_181 (by decide) (fun c => absurd c (by decide)) (fun _ => ?_)
            refine lv_aload_n X.1 X.2.1 dX10_open_184 rfl (lv_at hv 2 rfl) ?_
            refine xw_get X hk hw (i := 0) 22 xe_0 rfl tlX10 (by decide) rfl tw_541 dX10_open_185 ?_
            refine lv_iload X.1 X.2.1 dX10_open_188 (lv_at hv 1 rfl) ?_
            obtain ⟨j_46, e_47, b_48, h⟩ := h
            refine xw_lld X hk hw xe_22 e_47 b_48 (by decide) dX10_open_190 ?_
            refine lv_goto (tgt := 195) X.1 X.2.1 dX10_open_191 (by decide) ?_
            obtain ⟨j_49, e_50, b_51, h⟩ := h
            refine xw_lst X hk hw hl xe_5 rfl e_50 b_51 (by decide) dX10_open_195 (fun H locs hw hl => ?_)
            obtain ⟨S_52, e_53⟩ : ∃ T : xs_T, T = sL S 5 j_49 ((xL S 22 j_46)) := ⟨_, rfl⟩
            rw [← e_53] at hw
            replace h := h S_52 e_53
            have hN : S_52.2.2.2.2 = S.2.2.2.2 := by rw [e_53]; rfl
            replace hNN := hN.trans hNN
            refine lv_iinc (v := (a7 + 1)) (lv' := [(7, .int ((a7 + 1))), (9, .int (1)), (8, .int ((a7 - a2))), (0, .ref (et (0))), (2, .int (a2)), (3, .int (a3)), (4, .int (a4)), (5, .int (a5)), (6, .int (a6))]) X.1 X.2.1 dX10_open_196 hv (k := 8) rfl rfl (by decide) rfl (fun ls hv => ?_)
            refine lv_goto (tgt := 108) X.1 X.2.1 dX10_open_199 (by decide) ?_
            exact ih (a2) (a3) (a4) (a5) (a6) ((a7 + 1)) S_52 _ _ _ h hNN hw hl (lv_sub hv [3, 4, 5, 6, 7, 8, 0] rfl)
        · skip
          replace h := h.2 c_33
          refine lv_iload X.1 X.2.1 dX10_open_136 (lv_at hv 0 rfl) ?_
          refine lv_iload X.1 X.2.1 dX10_open_138 (lv_at hv 6 rfl) ?_
          refine lv_icmp_ge (tgt := 147) X.1 X.2.1 dX10_open_140 (by decide) (fun c_54 => ?_) (fun c_54 => ?_)
          · skip
            replace h := h.1 c_54
            refine lv_iconst (v := 0) X.1 X.2.1 dX10_open_147 (by decide) ?_
            refine lv_goto (tgt := 163) X.1 X.2.1 dX10_open_148 (by decide) ?_
            refine lv_istore (lv' := [(9, .int (0)), (8, .int ((a7 - a2))), (0, .ref (et (0))), (2, .int (a2)), (3, .int (a3)), (4, .int (a4)), (5, .int (a5)), (6, .int (a6)), (7, .int (a7))]) X.1 X.2.1 dX10_open_163 hv (by decide) rfl (fun ls hv => ?_)
            refine lv_aload_n X.1 X.2.1 dX10_open_165 rfl (lv_at hv 2 rfl) ?_
            refine xw_get X hk hw (i := 0) 5 xe_0 rfl tlX10 (by decide) rfl tw_524 dX10_open_166 ?_
            refine lv_aload_n X.1 X.2.1 dX10_open_169 rfl (lv_at hv 2 rfl) ?_
            refine xw_get X hk hw (i := 0) 3 xe_0 rfl tlX10 (by decide) rfl tw_522 dX10_open_170 ?_
            refine lv_iload X.1 X.2.1 dX10_open_173 (lv_at hv 5 rfl) ?_
            obtain ⟨j_55, e_56, b_57, h⟩ := h
            refine xw_ild X hk hw xe_3 e_56 b_57 (by decide) dX10_open_175 ?_
            refine lv_iload X.1 X.2.1 dX10_open_176 (lv_at hv 8 rfl) ?_
            refine lv_iadd X.1 X.2.1 dX10_open_178 ?_
            refine lv_iload X.1 X.2.1 dX10_open_179 (lv_at hv 0 rfl) ?_
            refine lv_if_eq (tgt := 194) X.1 X.2.1 dX10_open_181 (by decide) (fun _ => ?_) (fun c => absurd c (by decide))
            refine lv_lconst (v := 0) X.1 X.2.1 dX10_open_194 rfl ?_
            obtain ⟨j_58, e_59, b_60, h⟩ := h
            refine xw_lst X hk hw hl xe_5 rfl e_59 b_60 (by decide) dX10_open_195 (fun H locs hw hl => ?_)
            obtain ⟨S_61, e_62⟩ : ∃ T : xs_T, T = sL S 5 j_58 (0) := ⟨_, rfl⟩
            rw [← e_62] at hw
            replace h := h S_61 e_62
            have hN : S_61.2.2.2.2 = S.2.2.2.2 := by rw [e_62]; rfl
            replace hNN := hN.trans hNN
            refine lv_iinc (v := (a7 + 1)) (lv' := [(7, .int ((a7 + 1))), (9, .int (0)), (8, .int ((a7 - a2))), (0, .ref (et (0))), (2, .int (a2)), (3, .int (a3)), (4, .int (a4)), (5, .int (a5)), (6, .int (a6))]) X.1 X.2.1 dX10_open_196 hv (k := 8) rfl rfl (by decide) rfl (fun ls hv => ?_)
            refine lv_goto (tgt := 108) X.1 X.2.1 dX10_open_199 (by decide) ?_
            exact ih (a2) (a3) (a4) (a5) (a6) ((a7 + 1)) S_61 _ _ _ h hNN hw hl (lv_sub hv [3, 4, 5, 6, 7, 8, 0] rfl)
          · skip
            replace h := h.2 c_54
            refine lv_iconst (v := 1) X.1 X.2.1 dX10_open_143 (by decide) ?_
            refine lv_goto (tgt := 163) X.1 X.2.1 dX10_open_144 (by decide) ?_
            refine lv_istore (lv' := [(9, .int (1)), (8, .int ((a7 - a2))), (0, .ref (et (0))), (2, .int (a2)), (3, .int (a3)), (4, .int (a4)), (5, .int (a5)), (6, .int (a6)), (7, .int (a7))]) X.1 X.2.1 dX10_open_163 hv (by decide) rfl (fun ls hv => ?_)
            refine lv_aload_n X.1 X.2.1 dX10_open_165 rfl (lv_at hv 2 rfl) ?_
            refine xw_get X hk hw (i := 0) 5 xe_0 rfl tlX10 (by decide) rfl tw_524 dX10_open_166 ?_
            refine lv_aload_n X.1 X.2.1 dX10_open_169 rfl (lv_at hv 2 rfl) ?_
            refine xw_get X hk hw (i := 0) 3 xe_0 rfl tlX10 (by decide) rfl tw_522 dX10_open_170 ?_
            refine lv_iload X.1 X.2.1 dX10_open_173 (lv_at hv 5 rfl) ?_
            obtain ⟨j_63, e_64, b_65, h⟩ := h
            refine xw_ild X hk hw xe_3 e_64 b_65 (by decide) dX10_open_175 ?_
            refine lv_iload X.1 X.2.1 dX10_open_176 (lv_at hv 8 rfl) ?_
            refine lv_iadd X.1 X.2.1 dX10_open_178 ?_
            refine lv_iload X.1 X.2.1 dX10_open_179 (lv_at hv 0 rfl) ?_
            refine lv_if_eq (tgt := 194) X.1 X.2.1 dX10_open_181 (by decide) (fun c => absurd c (by decide)) (fun _ => ?_)
            refine lv_aload_n X.1 X.2.1 dX10_open_184 rfl (lv_at hv 2 rfl) ?_
            refine xw_get X hk hw (i := 0) 22 xe_0 rfl tlX10 (by decide) rfl tw_541 dX10_open_185 ?_
            refine lv_iload X.1 X.2.1 dX10_open_188 (lv_at hv 1 rfl) ?_
            obtain ⟨j_66, e_67, b_68, h⟩ := h
            refine xw_lld X hk hw xe_22 e_67 b_68 (by decide) dX10_open_190 ?_
            refine lv_goto (tgt := 195) X.1 X.2.1 dX10_open_191 (by decide) ?_
            obtain ⟨j_69, e_70, b_71, h⟩ := h
            refine xw_lst X hk hw hl xe_5 rfl e_70 b_71 (by decide) dX10_open_195 (fun H locs hw hl => ?_)
            obtain ⟨S_72, e_73⟩ : ∃ T : xs_T, T = sL S 5 j_69 ((xL S 22 j_66)) := ⟨_, rfl⟩
            rw [← e_73] at hw
            replace h := h S_72 e_73
            have hN : S_72.2.2.2.2 = S.2.2.2.2 := by rw [e_73]; rfl
            replace hNN := hN.trans hNN
            refine lv_iinc (v := (a7 + 1)) (lv' := [(7, .int ((a7 + 1))), (9, .int (1)), (8, .int ((a7 - a2))), (0, .ref (et (0))), (2, .int (a2)), (3, .int (a3)), (4, .int (a4)), (5, .int (a5)), (6, .int (a6))]) X.1 X.2.1 dX10_open_196 hv (k := 8) rfl rfl (by decide) rfl (fun ls hv => ?_)
            refine lv_goto (tgt := 108) X.1 X.2.1 dX10_open_199 (by decide) ?_
            exact ih (a2) (a3) (a4) (a5) (a6) ((a7 + 1)) S_72 _ _ _ h hNN hw hl (lv_sub hv [3, 4, 5, 6, 7, 8, 0] rfl)
      · skip
        replace h := h.2 c_32
        refine lv_iload X.1 X.2.1 dX10_open_119 (lv_at hv 6 rfl) ?_
        refine lv_iload_n X.1 X.2.1 dX10_open_121 rfl (lv_at hv 1 rfl) ?_
        refine lv_iadd X.1 X.2.1 dX10_open_122 ?_
        refine lv_goto (tgt := 130) X.1 X.2.1 dX10_open_123 (by decide) ?_
        refine lv_istore (lv' := [(8, .int ((a7 + a2))), (0, .ref (et (0))), (2, .int (a2)), (3, .int (a3)), (4, .int (a4)), (5, .int (a5)), (6, .int (a6)), (7, .int (a7))]) X.1 X.2.1 dX10_open_130 hv (by decide) rfl (fun ls hv => ?_)
        refine lv_iload_n X.1 X.2.1 dX10_open_132 rfl (lv_at hv 3 rfl) ?_
        refine lv_if_eq (tgt := 151) X.1 X.2.1 dX10_open_133 (by decide) (fun c_74 => ?_) (fun c_74 => ?_)
        · skip
          replace h := h.1 c_74
          refine lv_iload X.1 X.2.1 dX10_open_151 (lv_at hv 0 rfl) ?_
          refine lv_iload X.1 X.2.1 dX10_open_153 (lv_at hv 5 rfl) ?_
          refine lv_icmp_lt (tgt := 162) X.1 X.2.1 dX10_open_155 (by decide) (fun c_75 => ?_) (fun c_75 => ?_)
          · skip
            replace h := h.1 c_75
            refine lv_iconst (v := 0) X.1 X.2.1 dX10_open_162 (by decide) ?_
            refine lv_istore (lv' := [(9, .int (0)), (8, .int ((a7 + a2))), (0, .ref (et (0))), (2, .int (a2)), (3, .int (a3)), (4, .int (a4)), (5, .int (a5)), (6, .int (a6)), (7, .int (a7))]) X.1 X.2.1 dX10_open_163 hv (by decide) rfl (fun ls hv => ?_)
            refine lv_aload_n X.1 X.2.1 dX10_open_165 rfl (lv_at hv 2 rfl) ?_
            refine xw_get X hk hw (i := 0) 5 xe_0 rfl tlX10 (by decide) rfl tw_524 dX10_open_166 ?_
            refine lv_aload_n X.1 X.2.1 dX10_open_169 rfl (lv_at hv 2 rfl) ?_
            refine xw_get X hk hw (i := 0) 3 xe_0 rfl tlX10 (by decide) rfl tw_522 dX10_open_170 ?_
            refine lv_iload X.1 X.2.1 dX10_open_173 (lv_at hv 5 rfl) ?_
            obtain ⟨j_76, e_77, b_78, h⟩ := h
            refine xw_ild X hk hw xe_3 e_77 b_78 (by decide) dX10_open_175 ?_
            refine lv_iload X.1 X.2.1 dX10_open_176 (lv_at hv 8 rfl) ?_
            refine lv_iadd X.1 X.2.1 dX10_open_178 ?_
            refine lv_iload X.1 X.2.1 dX10_open_179 (lv_at hv 0 rfl) ?_
            refine lv_if_eq (tgt := 194) X.1 X.2.1 dX10_open_181 (by decide) (fun _ => ?_) (fun c => absurd c (by decide))
            refine lv_lconst (v := 0) X.1 X.2.1 dX10_open_194 rfl ?_
            obtain ⟨j_79, e_80, b_81, h⟩ := h
            refine xw_lst X hk hw hl xe_5 rfl e_80 b_81 (by decide) dX10_open_195 (fun H locs hw hl => ?_)
            obtain ⟨S_82, e_83⟩ : ∃ T : xs_T, T = sL S 5 j_79 (0) := ⟨_, rfl⟩
            rw [← e_83] at hw
            replace h := h S_82 e_83
            have hN : S_82.2.2.2.2 = S.2.2.2.2 := by rw [e_83]; rfl
            replace hNN := hN.trans hNN
            refine lv_iinc (v := (a7 + 1)) (lv' := [(7, .int ((a7 + 1))), (9, .int (0)), (8, .int ((a7 + a2))), (0, .ref (et (0))), (2, .int (a2)), (3, .int (a3)), (4, .int (a4)), (5, .int (a5)), (6, .int (a6))]) X.1 X.2.1 dX10_open_196 hv (k := 8) rfl rfl (by decide) rfl (fun ls hv => ?_)
            refine lv_goto (tgt := 108) X.1 X.2.1 dX10_open_199 (by decide) ?_
            exact ih (a2) (a3) (a4) (a5) (a6) ((a7 + 1)) S_82 _ _ _ h hNN hw hl (lv_sub hv [3, 4, 5, 6, 7, 8, 0] rfl)
          · skip
            replace h := h.2 c_75
            refine lv_iconst (v := 1) X.1 X.2.1 dX10_open_158 (by decide) ?_
            refine lv_goto (tgt := 163) X.1 X.2.1 dX10_open_159 (by decide) ?_
            refine lv_istore (lv' := [(9, .int (1)), (8, .int ((a7 + a2))), (0, .ref (et (0))), (2, .int (a2)), (3, .int (a3)), (4, .int (a4)), (5, .int (a5)), (6, .int (a6)), (7, .int (a7))]) X.1 X.2.1 dX10_open_163 hv (by decide) rfl (fun ls hv => ?_)
            refine lv_aload_n X.1 X.2.1 dX10_open_165 rfl (lv_at hv 2 rfl) ?_
            refine xw_get X hk hw (i := 0) 5 xe_0 rfl tlX10 (by decide) rfl tw_524 dX10_open_166 ?_
            refine lv_aload_n X.1 X.2.1 dX10_open_169 rfl (lv_at hv 2 rfl) ?_
            refine xw_get X hk hw (i := 0) 3 xe_0 rfl tlX10 (by decide) rfl tw_522 dX10_open_170 ?_
            refine lv_iload X.1 X.2.1 dX10_open_173 (lv_at hv 5 rfl) ?_
            obtain ⟨j_84, e_85, b_86, h⟩ := h
            refine xw_ild X hk hw xe_3 e_85 b_86 (by decide) dX10_open_175 ?_
            refine lv_iload X.1 X.2.1 dX10_open_176 (lv_at hv 8 rfl) ?_
            refine lv_iadd X.1 X.2.1 dX10_open_178 ?_
            refine lv_iload X.1 X.2.1 dX10_open_179 (lv_at hv 0 rfl) ?_
            refine lv_if_eq (tgt := 194) X.1 X.2.1 dX10_open_181 (by decide) (fun c => absurd c (by decide)) (fun _ => ?_)
            refine lv_aload_n X.1 X.2.1 dX10_open_184 rfl (lv_at hv 2 rfl) ?_
            refine xw_get X hk hw (i := 0) 22 xe_0 rfl tlX10 (by decide) rfl tw_541 dX10_open_185 ?_
            refine lv_iload X.1 X.2.1 dX10_open_188 (lv_at hv 1 rfl) ?_
            obtain ⟨j_87, e_88, b_89, h⟩ := h
            refine xw_lld X hk hw xe_22 e_88 b_89 (by decide) dX10_open_190 ?_
            refine lv_goto (tgt := 195) X.1 X.2.1 dX10_open_191 (by decide) ?_
            obtain ⟨j_90, e_91, b_92, h⟩ := h
            refine xw_lst X hk hw hl xe_5 rfl e_91 b_92 (by decide) dX10_open_195 (fun H locs hw hl => ?_)
            obtain ⟨S_93, e_94⟩ : ∃ T : xs_T, T = sL S 5 j_90 ((xL S 22 j_87)) := ⟨_, rfl⟩
            rw [← e_94] at hw
            replace h := h S_93 e_94
            have hN : S_93.2.2.2.2 = S.2.2.2.2 := by rw [e_94]; rfl
            replace hNN := hN.trans hNN
            refine lv_iinc (v := (a7 + 1)) (lv' := [(7, .int ((a7 + 1))), (9, .int (1)), (8, .int ((a7 + a2))), (0, .ref (et (0))), (2, .int (a2)), (3, .int (a3)), (4, .int (a4)), (5, .int (a5)), (6, .int (a6))]) X.1 X.2.1 dX10_open_196 hv (k := 8) rfl rfl (by decide) rfl (fun ls hv => ?_)
            refine lv_goto (tgt := 108) X.1 X.2.1 dX10_open_199 (by decide) ?_
            exact ih (a2) (a3) (a4) (a5) (a6) ((a7 + 1)) S_93 _ _ _ h hNN hw hl (lv_sub hv [3, 4, 5, 6, 7, 8, 0] rfl)
        · skip
          replace h := h.2 c_74
          refine lv_iload X.1 X.2.1 dX10_open_136 (lv_at hv 0 rfl) ?_
          refine lv_iload X.1 X.2.1 dX10_open_138 (lv_at hv 6 rfl) ?_
          refine lv_icmp_ge (tgt := 147) X.1 X.2.1 dX10_open_140 (by decide) (fun c_95 => ?_) (fun c_95 => ?_)
          · skip
            replace h := h.1 c_95
            refine lv_iconst (v := 0) X.1 X.2.1 dX10_open_147 (by decide) ?_
            refine lv_goto (tgt := 163) X.1 X.2.1 dX10_open_148 (by decide) ?_
            refine lv_istore (lv' := [(9, .int (0)), (8, .int ((a7 + a2))), (0, .ref (et (0))), (2, .int (a2)), (3, .int (a3)), (4, .int (a4)), (5, .int (a5)), (6, .int (a6)), (7, .int (a7))]) X.1 X.2.1 dX10_open_163 hv (by decide) rfl (fun ls hv => ?_)
            refine lv_aload_n X.1 X.2.1 dX10_open_165 rfl (lv_at hv 2 rfl) ?_
            refine xw_get X hk hw (i := 0) 5 xe_0 rfl tlX10 (by decide) rfl tw_524 dX10_open_166 ?_
            refine lv_aload_n X.1 X.2.1 dX10_open_169 rfl (lv_at hv 2 rfl) ?_
            refine xw_get X hk hw (i := 0) 3 xe_0 rfl tlX10 (by decide) rfl tw_522 dX10_open_170 ?_
            refine lv_iload X.1 X.2.1 dX10_open_173 (lv_at hv 5 rfl) ?_
            obtain ⟨j_96, e_97, b_98, h⟩ := h
            refine xw_ild X hk hw xe_3 e_97 b_98 (by decide) dX10_open_175 ?_
            refine lv_iload X.1 X.2.1 dX10_open_176 (lv_at hv 8 rfl) ?_
            refine lv_iadd X.1 X.2.1 dX10_open_178 ?_
            refine lv_iload X.1 X.2.1 dX10_open_179 (lv_at hv 0 rfl) ?_
            refine lv_if_eq (tgt := 194) X.1 X.2.1 dX10_open_181 (by decide) (fun _ => ?_) (fun c => absurd c (by decide))
            refine lv_lconst (v := 0) X.1 X.2.1 dX10_open_194 rfl ?_
            obtain ⟨j_99, e_100, b_101, h⟩ := h
            refine xw_lst X hk hw hl xe_5 rfl e_100 b_101 (by decide) dX10_open_195 (fun H locs hw hl => ?_)
            obtain ⟨S_102, e_103⟩ : ∃ T : xs_T, T = sL S 5 j_99 (0) := ⟨_, rfl⟩
            rw [← e_103] at hw
            replace h := h S_102 e_103
            have hN : S_102.2.2.2.2 = S.2.2.2.2 := by rw [e_103]; rfl
            replace hNN := hN.trans hNN
            refine lv_iinc (v := (a7 + 1)) (lv' := [(7, .int ((a7 + 1))), (9, .int (0)), (8, .int ((a7 + a2))), (0, .ref (et (0))), (2, .int (a2)), (3, .int (a3)), (4, .int (a4)), (5, .int (a5)), (6, .int (a6))]) X.1 X.2.1 dX10_open_196 hv (k := 8) rfl rfl (by decide) rfl (fun ls hv => ?_)
            refine lv_goto (tgt := 108) X.1 X.2.1 dX10_open_199 (by decide) ?_
            exact ih (a2) (a3) (a4) (a5) (a6) ((a7 + 1)) S_102 _ _ _ h hNN hw hl (lv_sub hv [3, 4, 5, 6, 7, 8, 0] rfl)
          · skip
            replace h := h.2 c_95
            refine lv_iconst (v := 1) X.1 X.2.1 dX10_open_143 (by decide) ?_
            refine lv_goto (tgt := 163) X.1 X.2.1 dX10_open_144 (by decide) ?_
            refine lv_istore (lv' := [(9, .int (1)), (8, .int ((a7 + a2))), (0, .ref (et (0))), (2, .int (a2)), (3, .int (a3)), (4, .int (a4)), (5, .int (a5)), (6, .int (a6)), (7, .int (a7))]) X.1 X.2.1 dX10_open_163 hv (by decide) rfl (fun ls hv => ?_)
            refine lv_aload_n X.1 X.2.1 dX10_open_165 rfl (lv_at hv 2 rfl) ?_
            refine xw_get X hk hw (i := 0) 5 xe_0 rfl tlX10 (by decide) rfl tw_524 dX10_open_166 ?_
            refine lv_aload_n X.1 X.2.1 dX10_open_169 rfl (lv_at hv 2 rfl) ?_
            refine xw_get X hk hw (i := 0) 3 xe_0 rfl tlX10 (by decide) rfl tw_522 dX10_open_170 ?_
            refine lv_iload X.1 X.2.1 dX10_open_173 (lv_at hv 5 rfl) ?_
            obtain ⟨j_104, e_105, b_106, h⟩ := h
            refine xw_ild X hk hw xe_3 e_105 b_106 (by decide) dX10_open_175 ?_
            refine lv_iload X.1 X.2.1 dX10_open_176 (lv_at hv 8 rfl) ?_
            refine lv_iadd X.1 X.2.1 dX10_open_178 ?_
            refine lv_iload X.1 X.2.1 dX10_open_179 (lv_at hv 0 rfl) ?_
            refine lv_if_eq (tgt := 194) X.1 X.2.1 dX10_open_181 (by decide) (fun c => absurd c (by decide)) (fun _ => ?_)
            refine lv_aload_n X.1 X.2.1 dX10_open_184 rfl (lv_at hv 2 rfl) ?_
            refine xw_get X hk hw (i := 0) 22 xe_0 rfl tlX10 (by decide) rfl tw_541 dX10_open_185 ?_
            refine lv_iload X.1 X.2.1 dX10_open_188 (lv_at hv 1 rfl) ?_
            obtain ⟨j_107, e_108, b_109, h⟩ := h
            refine xw_lld X hk hw xe_22 e_108 b_109 (by decide) dX10_open_190 ?_
            refine lv_goto (tgt := 195) X.1 X.2.1 dX10_open_191 (by decide) ?_
            obtain ⟨j_110, e_111, b_112, h⟩ := h
            refine xw_lst X hk hw hl xe_5 rfl e_111 b_112 (by decide) dX10_open_195 (fun H locs hw hl => ?_)
            obtain ⟨S_113, e_114⟩ : ∃ T : xs_T, T = sL S 5 j_110 ((xL S 22 j_107)) := ⟨_, rfl⟩
            rw [← e_114] at hw
            replace h := h S_113 e_114
            have hN : S_113.2.2.2.2 = S.2.2.2.2 := by rw [e_114]; rfl
            replace hNN := hN.trans hNN
            refine lv_iinc (v := (a7 + 1)) (lv' := [(7, .int ((a7 + 1))), (9, .int (1)), (8, .int ((a7 + a2))), (0, .ref (et (0))), (2, .int (a2)), (3, .int (a3)), (4, .int (a4)), (5, .int (a5)), (6, .int (a6))]) X.1 X.2.1 dX10_open_196 hv (k := 8) rfl rfl (by decide) rfl (fun ls hv => ?_)
            refine lv_goto (tgt := 108) X.1 X.2.1 dX10_open_199 (by decide) ?_
            exact ih (a2) (a3) (a4) (a5) (a6) ((a7 + 1)) S_113 _ _ _ h hNN hw hl (lv_sub hv [3, 4, 5, 6, 7, 8, 0] rfl)
set_option maxHeartbeats 4000000 in
set_option maxRecDepth 100000 in
theorem j_X10_open_69 {l : Launch} {p : Program} {e : Env} {s : State} {m : MethodId} {args : Array Value} {below : List Frame} {meth : Method} {c : Code} {Z : xz_T} {et : Nat → Nat} {Nn : Nat → Nat} {K : Int32 → xs_T → Prop} (X : CallFix p m c cX10_open 10 s args (wq yX10_open cX10_open 10 (some .int)) RX10) (hk : xk Z s) (hr : meth.sig.returnType = (some .int)) (hlocks : meth.locks = false) : ∀ (n : Nat) (a2 : Int32) (a3 : Int32) (a4 : Int32) (a5 : Int32) (a6 : Int32) (a7 : Int32) (S : xs_T) (H : Heap) (locs : List Loc) (ls : Array Slot), v_X10_open_69 K n a2 a3 a4 a5 a6 a7 S → S.2.2.2.2 = Nn → wd Z et S H → xl Z locs → lv_has ls 10 [(0, .ref (et (0))), (2, .int (a2)), (3, .int (a3)), (4, .int (a4)), (5, .int (a5)), (6, .int (a6)), (7, .int (a7))] → W p l e (headSpec (wq yX10_open cX10_open 10 (some .int)) { frames := 1, cells := 0, slots := 0, locals := 21 }).room s m args below meth c H locs 0 0 (MQ below (xQi Z et Nn K) args s 0 0 (fun q => Z.2.2.1 ≤ q)) (F0 m 69 ls []) := by
  intro n
  induction n with
  | zero =>
    intro a2 a3 a4 a5 a6 a7 S H locs ls h hNN hw hl hv
    exact False.elim h
  | succ n ih =>
    intro a2 a3 a4 a5 a6 a7 S H locs ls h hNN hw hl hv
    rw [v_X10_open_69] at h
    refine lv_iload X.1 X.2.1 dX10_open_69 (lv_at hv 6 rfl) ?_
    refine lv_iload X.1 X.2.1 dX10_open_71 (lv_at hv 5 rfl) ?_
    refine lv_icmp_ge (tgt := 104) X.1 X.2.1 dX10_open_73 (by decide) (fun c_18 => ?_) (fun c_18 => ?_)
    · skip
      replace h := h.1 c_18
      refine lv_iload X.1 X.2.1 dX10_open_104 (lv_at hv 4 rfl) ?_
      refine lv_istore (lv' := [(7, .int (a5)), (0, .ref (et (0))), (2, .int (a2)), (3, .int (a3)), (4, .int (a4)), (5, .int (a5)), (6, .int (a6))]) X.1 X.2.1 dX10_open_106 hv (by decide) rfl (fun ls hv => ?_)
      obtain ⟨n_19, h⟩ := h
      exact j_X10_open_108 X hk hr hlocks n_19 (a2) (a3) (a4) (a5) (a6) (a5) S _ _ _ h hNN hw hl (lv_sub hv [1, 2, 3, 4, 5, 6, 0] rfl)
    · skip
      replace h := h.2 c_18
      refine lv_aload_n X.1 X.2.1 dX10_open_76 rfl (lv_at hv 0 rfl) ?_
      refine xw_get X hk hw (i := 0) 22 xe_0 rfl tlX10 (by decide) rfl tw_541 dX10_open_77 ?_
      refine lv_iload X.1 X.2.1 dX10_open_80 (lv_at hv 6 rfl) ?_
      refine lv_aload_n X.1 X.2.1 dX10_open_82 rfl (lv_at hv 0 rfl) ?_
      refine xw_get X hk hw (i := 0) 5 xe_0 rfl tlX10 (by decide) rfl tw_524 dX10_open_83 ?_
      refine lv_aload_n X.1 X.2.1 dX10_open_86 rfl (lv_at hv 0 rfl) ?_
      refine xw_get X hk hw (i := 0) 3 xe_0 rfl tlX10 (by decide) rfl tw_522 dX10_open_87 ?_
      refine lv_iload X.1 X.2.1 dX10_open_90 (lv_at hv 3 rfl) ?_
      obtain ⟨j_20, e_21, b_22, h⟩ := h
      refine xw_ild X hk hw xe_3 e_21 b_22 (by decide) dX10_open_92 ?_
      refine lv_iload X.1 X.2.1 dX10_open_93 (lv_at hv 6 rfl) ?_
      refine lv_iadd X.1 X.2.1 dX10_open_95 ?_
      obtain ⟨j_23, e_24, b_25, h⟩ := h
      refine xw_lld X hk hw xe_5 e_24 b_25 (by decide) dX10_open_96 ?_
      obtain ⟨j_26, e_27, b_28, h⟩ := h
      refine xw_lst X hk hw hl xe_22 rfl e_27 b_28 (by decide) dX10_open_97 (fun H locs hw hl => ?_)
      obtain ⟨S_29, e_30⟩ : ∃ T : xs_T, T = sL S 22 j_26 ((xL S 5 j_23)) := ⟨_, rfl⟩
      rw [← e_30] at hw
      replace h := h S_29 e_30
      have hN : S_29.2.2.2.2 = S.2.2.2.2 := by rw [e_30]; rfl
      replace hNN := hN.trans hNN
      refine lv_iinc (v := (a7 + 1)) (lv' := [(7, .int ((a7 + 1))), (0, .ref (et (0))), (2, .int (a2)), (3, .int (a3)), (4, .int (a4)), (5, .int (a5)), (6, .int (a6))]) X.1 X.2.1 dX10_open_98 hv (k := 6) rfl rfl (by decide) rfl (fun ls hv => ?_)
      refine lv_goto (tgt := 69) X.1 X.2.1 dX10_open_101 (by decide) ?_
      exact ih (a2) (a3) (a4) (a5) (a6) ((a7 + 1)) S_29 _ _ _ h hNN hw hl (lv_sub hv [1, 2, 3, 4, 5, 6, 0] rfl)
set_option maxHeartbeats 4000000 in
set_option maxRecDepth 100000 in
theorem c_X10_open (l : Launch) (Z : xz_T) (et : Nat → Nat) (S : xs_T) (x1 : Int32) (x2 : Int32) (x3 : Int32) (K : Int32 → xs_T → Prop) (h : v_X10_open x1 x2 x3 S K) : Met l yX10_open (wq yX10_open cX10_open 10 (some .int)) { frames := 1, cells := 0, slots := 0, locals := 21 } (xPc Z et S [.ref (et (0)), .int (x1), .int (x2), .int (x3)]) (xQi Z et S.2.2.2.2 K) 0 0 (fun q => Z.2.2.1 ≤ q) := by
  refine Met.ofW (cc := cX10_open) (maxL := 10) (ret := (some .int)) (by decide +kernel) rfl ?_
  intro p e s m args below meth c s₁ B hml hv0
  obtain ⟨rfl, hk, hw⟩ := hv0
  have X : CallFix p m c cX10_open 10 s _ (wq yX10_open cX10_open 10 (some .int)) RX10 := ⟨B.exec, B.bytes, hml, findClass_of_methodNamed B.named, atoms_spec (ws := (wq yX10_open cX10_open 10 (some .int))) B.pre⟩
  have hr := B.returns
  have hlocks := B.notSynchronized
  have hl : xl Z [] := fun _ h => by cases h
  have hNN : S.2.2.2.2 = S.2.2.2.2 := rfl
  have hv := lv_entry [.ref (et (0)), .int (x1), .int (x2), .int (x3)] (n := 10) (Nat.le_of_ble_eq_true rfl)
  rw [lg_entry_eq]
  generalize (lg_sl [.ref (et (0)), .int (x1), .int (x2), .int (x3)] ++ List.replicate (10 - (lg_sl [.ref (et (0)), .int (x1), .int (x2), .int (x3)]).length) Slot.unset).toArray = ls at hv ⊢
  replace hv : lv_has ls 10 [(0, .ref (et (0))), (1, .int (x1)), (2, .int (x2)), (3, .int (x3))] := hv
  unfold v_X10_open at h
  refine lv_aload_n X.1 X.2.1 dX10_open_0 rfl (lv_at hv 0 rfl) ?_
  refine xw_get X hk hw (i := 0) 9 xe_0 rfl tlX10 (by decide) rfl tw_528 dX10_open_1 ?_
  refine lv_iload_n X.1 X.2.1 dX10_open_4 rfl (lv_at hv 1 rfl) ?_
  obtain ⟨j_1, e_2, b_3, h⟩ := h
  refine xw_ild X hk hw xe_9 e_2 b_3 (by decide) dX10_open_5 ?_
  refine lv_if_ne (tgt := 11) X.1 X.2.1 dX10_open_6 (by decide) (fun c_4 => ?_) (fun c_4 => ?_)
  · skip
    replace h := h.1 c_4
    refine lv_aload_n X.1 X.2.1 dX10_open_11 rfl (lv_at hv 0 rfl) ?_
    refine lv_iload_n X.1 X.2.1 dX10_open_12 rfl (lv_at hv 1 rfl) ?_
    refine xc_i (xr_V (n := 1) (As := [.int (x1)]) (i := 0) X hk hw hv.1 (c_X10_rowOn l Z et S (x1) _ h) (tb_V tw_629 tw_626 tw_628 tw_18 tw_44) xe_0 rfl rfl rfl rfl (by decide +kernel) ⟨Nat.le_of_ble_eq_true rfl, Nat.le_of_ble_eq_true rfl⟩ rfl (Nat.le_of_ble_eq_true rfl) dX10_open_13 ⟨Nat.le_of_ble_eq_true rfl, Nat.le_of_ble_eq_true rfl⟩) hl (fun r_6 S_5 H locs h hN hw hl => ?_)
    replace hNN := hN.trans hNN
    refine lv_istore (lv' := [(4, .int (r_6)), (0, .ref (et (0))), (1, .int (x1)), (2, .int (x2)), (3, .int (x3))]) X.1 X.2.1 dX10_open_16 hv (by decide) rfl (fun ls hv => ?_)
    refine lv_iload X.1 X.2.1 dX10_open_18 (lv_at hv 0 rfl) ?_
    refine lv_if_ge (tgt := 25) X.1 X.2.1 dX10_open_20 (by decide) (fun c_7 => ?_) (fun c_7 => ?_)
    · skip
      replace h := h.1 c_7
      refine lv_aload_n X.1 X.2.1 dX10_open_25 rfl (lv_at hv 1 rfl) ?_
      refine xw_get X hk hw (i := 0) 11 xe_0 rfl tlX10 (by decide) rfl tw_530 dX10_open_26 ?_
      refine lv_iload_n X.1 X.2.1 dX10_open_29 rfl (lv_at hv 2 rfl) ?_
      obtain ⟨j_8, e_9, b_10, h⟩ := h
      refine xw_ild X hk hw xe_11 e_9 b_10 (by decide) dX10_open_30 ?_
      refine lv_istore (lv' := [(5, .int ((xI S_5 11 j_8))), (4, .int (r_6)), (0, .ref (et (0))), (1, .int (x1)), (2, .int (x2)), (3, .int (x3))]) X.1 X.2.1 dX10_open_31 hv (by decide) rfl (fun ls hv => ?_)
      refine lv_aload_n X.1 X.2.1 dX10_open_33 rfl (lv_at hv 2 rfl) ?_
      refine xw_get X hk hw (i := 0) 2 xe_0 rfl tlX10 (by decide) rfl tw_521 dX10_open_34 ?_
      refine lv_iload X.1 X.2.1 dX10_open_37 (lv_at hv 1 rfl) ?_
      obtain ⟨j_11, e_12, b_13, h⟩ := h
      refine xw_ild X hk hw xe_2 e_12 b_13 (by decide) dX10_open_39 ?_
      refine lv_istore (lv' := [(6, .int ((xI S_5 2 j_11))), (5, .int ((xI S_5 11 j_8))), (4, .int (r_6)), (0, .ref (et (0))), (1, .int (x1)), (2, .int (x2)), (3, .int (x3))]) X.1 X.2.1 dX10_open_40 hv (by decide) rfl (fun ls hv => ?_)
      refine lv_iload X.1 X.2.1 dX10_open_42 (lv_at hv 1 rfl) ?_
      refine lv_if_lt (tgt := 64) X.1 X.2.1 dX10_open_44 (by decide) (fun c_14 => ?_) (fun c_14 => ?_)
      · skip
        replace h := h.1 c_14
        refine lv_iconst (v := 3) X.1 X.2.1 dX10_open_64 (by decide) ?_
        exact xt_i X hr hlocks hNN hw hl h dX10_open_65
      · skip
        replace h := h.2 c_14
        refine lv_iload_n X.1 X.2.1 dX10_open_47 rfl (lv_at hv 5 rfl) ?_
        refine lv_if_lt (tgt := 64) X.1 X.2.1 dX10_open_48 (by decide) (fun c_15 => ?_) (fun c_15 => ?_)
        · skip
          replace h := h.1 c_15
          refine lv_iconst (v := 3) X.1 X.2.1 dX10_open_64 (by decide) ?_
          exact xt_i X hr hlocks hNN hw hl h dX10_open_65
        · skip
          replace h := h.2 c_15
          refine lv_iload X.1 X.2.1 dX10_open_51 (lv_at hv 1 rfl) ?_
          refine lv_i2l (v := ((xI S_5 11 j_8)).toInt64) X.1 X.2.1 dX10_open_53 rfl ?_
          refine lv_iload_n X.1 X.2.1 dX10_open_54 rfl (lv_at hv 5 rfl) ?_
          refine lv_i2l (v := (x2).toInt64) X.1 X.2.1 dX10_open_55 rfl ?_
          refine lv_ladd X.1 X.2.1 dX10_open_56 ?_
          refine lv_iload X.1 X.2.1 dX10_open_57 (lv_at hv 0 rfl) ?_
          refine lv_i2l (v := ((xI S_5 2 j_11)).toInt64) X.1 X.2.1 dX10_open_59 rfl ?_
          refine W.lcmp X.1 X.2.1 dX10_open_60 ?_
          refine lv_if_le (tgt := 66) X.1 X.2.1 dX10_open_61 (by decide) (fun c_16 => ?_) (fun c_16 => ?_)
          · skip
            replace c_16 := (lg_cmp_le _ _).mp c_16
            replace h := h.1 c_16
            refine lv_iconst (v := 0) X.1 X.2.1 dX10_open_66 (by decide) ?_
            refine lv_istore (lv' := [(7, .int (0)), (6, .int ((xI S_5 2 j_11))), (5, .int ((xI S_5 11 j_8))), (4, .int (r_6)), (0, .ref (et (0))), (1, .int (x1)), (2, .int (x2)), (3, .int (x3))]) X.1 X.2.1 dX10_open_67 hv (by decide) rfl (fun ls hv => ?_)
            obtain ⟨n_17, h⟩ := h
            exact j_X10_open_69 X hk hr hlocks n_17 (x2) (x3) (r_6) ((xI S_5 11 j_8)) ((xI S_5 2 j_11)) (0) S_5 _ _ _ h hNN hw hl (lv_sub hv [4, 6, 7, 3, 2, 1, 0] rfl)
          · skip
            replace c_16 := fun q => c_16 ((lg_cmp_le _ _).mpr q)
            replace h := h.2 c_16
            refine lv_iconst (v := 3) X.1 X.2.1 dX10_open_64 (by decide) ?_
            exact xt_i X hr hlocks hNN hw hl h dX10_open_65
    · skip
      replace h := h.2 c_7
      refine lv_iconst (v := 2) X.1 X.2.1 dX10_open_23 (by decide) ?_
      exact xt_i X hr hlocks hNN hw hl h dX10_open_24
  · skip
    replace h := h.2 c_4
    refine lv_iconst (v := 1) X.1 X.2.1 dX10_open_9 (by decide) ?_
    exact xt_i X hr hlocks hNN hw hl h dX10_open_10
def v_X10_cutTo (x1 : Int32) (x2 : Int32) (S : xs_T) (K : Int64 → xs_T → Prop) : Prop := (((x1 = 0) → ((x2 = 0 → K (0) S) ∧ (¬ x2 = 0 → K (1) S))) ∧ ((x1 = 1) → K (((x2).toInt8.toInt32).toInt64) S) ∧ ((x1 = 2) → K (((x2 &&& 65535)).toInt64) S) ∧ ((x1 = 3) → K (((x2).toInt16.toInt32).toInt64) S) ∧ ((x1 = 4 ∨ x1 = 5) → K ((x2).toInt64) S) ∧ ((x1 = 6) → v_Jxf58ca_floatToIntBits_5c35a (FP.i2f (x2)) S (fun (r_3 : Int32) (S_2 : xs_T) => K ((r_3).toInt64) S_2)) ∧ (¬ x1 = 0 → ¬ x1 = 1 → ¬ x1 = 2 → ¬ x1 = 3 → ¬ x1 = 4 → ¬ x1 = 5 → ¬ x1 = 6 → v_Jxe99ae_doubleToLongBits_ccdee (FP.i2d (x2)) S (fun (r_5 : Int64) (S_4 : xs_T) => K (r_5) S_4)))
set_option maxHeartbeats 4000000 in
set_option maxRecDepth 100000 in
theorem c_X10_cutTo (l : Launch) (Z : xz_T) (et : Nat → Nat) (S : xs_T) (x1 : Int32) (x2 : Int32) (K : Int64 → xs_T → Prop) (h : v_X10_cutTo x1 x2 S K) : Met l yX10_cutTo (wq yX10_cutTo cX10_cutTo 2 (some .long)) { frames := 2, cells := 0, slots := 0, locals := 51 } (xPc Z et S [.int (x1), .int (x2)]) (xQl Z et S.2.2.2.2 K) 0 0 (fun q => Z.2.2.1 ≤ q) := by
  refine Met.ofW (cc := cX10_cutTo) (maxL := 2) (ret := (some .long)) (by decide +kernel) rfl ?_
  intro p e s m args below meth c s₁ B hml hv0
  obtain ⟨rfl, hk, hw⟩ := hv0
  have X : CallFix p m c cX10_cutTo 2 s _ (wq yX10_cutTo cX10_cutTo 2 (some .long)) RX10 := ⟨B.exec, B.bytes, hml, findClass_of_methodNamed B.named, atoms_spec (ws := (wq yX10_cutTo cX10_cutTo 2 (some .long))) B.pre⟩
  have hr := B.returns
  have hlocks := B.notSynchronized
  have hl : xl Z [] := fun _ h => by cases h
  have hNN : S.2.2.2.2 = S.2.2.2.2 := rfl
  have hv := lv_entry [.int (x1), .int (x2)] (n := 2) (Nat.le_of_ble_eq_true rfl)
  rw [lg_entry_eq]
  generalize (lg_sl [.int (x1), .int (x2)] ++ List.replicate (2 - (lg_sl [.int (x1), .int (x2)]).length) Slot.unset).toArray = ls at hv ⊢
  replace hv : lv_has ls 2 [(0, .int (x1)), (1, .int (x2))] := hv
  unfold v_X10_cutTo at h
  refine lv_iload_n X.1 X.2.1 dX10_cutTo_0 rfl (lv_at hv 0 rfl) ?_
  have hsw := h
  by_cases k_0 : x1 = 0
  · have h := hsw.1 k_0
    refine lv_tableIn (off := 43) (tgt := 44) X.1 X.2.1 dX10_cutTo_1 (by rw [k_0]; decide) (by rw [k_0]; decide) (by rw [k_0]; rfl) (by decide) ?_
    refine lv_iload_n X.1 X.2.1 dX10_cutTo_44 rfl (lv_at hv 1 rfl) ?_
    refine lv_if_eq (tgt := 52) X.1 X.2.1 dX10_cutTo_45 (by decide) (fun c_1 => ?_) (fun c_1 => ?_)
    · skip
      replace h := h.1 c_1
      refine lv_lconst (v := 0) X.1 X.2.1 dX10_cutTo_52 rfl ?_
      exact xt_l X hr hlocks hNN hw hl h dX10_cutTo_53
    · skip
      replace h := h.2 c_1
      refine lv_lconst (v := 1) X.1 X.2.1 dX10_cutTo_48 rfl ?_
      refine lv_goto (tgt := 53) X.1 X.2.1 dX10_cutTo_49 (by decide) ?_
      exact xt_l X hr hlocks hNN hw hl h dX10_cutTo_53
  by_cases k_1 : x1 = 1
  · have h := hsw.2.1 k_1
    refine lv_tableIn (off := 53) (tgt := 54) X.1 X.2.1 dX10_cutTo_1 (by rw [k_1]; decide) (by rw [k_1]; decide) (by rw [k_1]; rfl) (by decide) ?_
    refine lv_iload_n X.1 X.2.1 dX10_cutTo_54 rfl (lv_at hv 1 rfl) ?_
    refine lv_i2b (v := (x2).toInt8.toInt32) X.1 X.2.1 dX10_cutTo_55 rfl ?_
    refine lv_i2l (v := ((x2).toInt8.toInt32).toInt64) X.1 X.2.1 dX10_cutTo_56 rfl ?_
    exact xt_l X hr hlocks hNN hw hl h dX10_cutTo_57
  by_cases k_2 : x1 = 2
  · have h := hsw.2.2.1 k_2
    refine lv_tableIn (off := 57) (tgt := 58) X.1 X.2.1 dX10_cutTo_1 (by rw [k_2]; decide) (by rw [k_2]; decide) (by rw [k_2]; rfl) (by decide) ?_
    refine lv_iload_n X.1 X.2.1 dX10_cutTo_58 rfl (lv_at hv 1 rfl) ?_
    refine lv_ldc X.1 X.2.1 X.2.2.2.1 (X.2.2.2.2 _ (List.mem_cons_of_mem _ tw_685)) dX10_cutTo_59 ?_
    refine lv_iand X.1 X.2.1 dX10_cutTo_61 ?_
    refine lv_i2l (v := ((x2 &&& 65535)).toInt64) X.1 X.2.1 dX10_cutTo_62 rfl ?_
    exact xt_l X hr hlocks hNN hw hl h dX10_cutTo_63
  by_cases k_3 : x1 = 3
  · have h := hsw.2.2.2.1 k_3
    refine lv_tableIn (off := 63) (tgt := 64) X.1 X.2.1 dX10_cutTo_1 (by rw [k_3]; decide) (by rw [k_3]; decide) (by rw [k_3]; rfl) (by decide) ?_
    refine lv_iload_n X.1 X.2.1 dX10_cutTo_64 rfl (lv_at hv 1 rfl) ?_
    refine lv_i2s (v := (x2).toInt16.toInt32) X.1 X.2.1 dX10_cutTo_65 rfl ?_
    refine lv_i2l (v := ((x2).toInt16.toInt32).toInt64) X.1 X.2.1 dX10_cutTo_66 rfl ?_
    exact xt_l X hr hlocks hNN hw hl h dX10_cutTo_67
  by_cases k_4 : x1 = 4
  · have h := hsw.2.2.2.2.1 ((Or.inl k_4))
    refine lv_tableIn (off := 67) (tgt := 68) X.1 X.2.1 dX10_cutTo_1 (by rw [k_4]; decide) (by rw [k_4]; decide) (by rw [k_4]; rfl) (by decide) ?_
    refine lv_iload_n X.1 X.2.1 dX10_cutTo_68 rfl (lv_at hv 1 rfl) ?_
    refine lv_i2l (v := (x2).toInt64) X.1 X.2.1 dX10_cutTo_69 rfl ?_
    exact xt_l X hr hlocks hNN hw hl h dX10_cutTo_70
  by_cases k_5 : x1 = 5
  · have h := hsw.2.2.2.2.1 (Or.inr (k_5))
    refine lv_tableIn (off := 67) (tgt := 68) X.1 X.2.1 dX10_cutTo_1 (by rw [k_5]; decide) (by rw [k_5]; decide) (by rw [k_5]; rfl) (by decide) ?_
    refine lv_iload_n X.1 X.2.1 dX10_cutTo_68 rfl (lv_at hv 1 rfl) ?_
    refine lv_i2l (v := (x2).toInt64) X.1 X.2.1 dX10_cutTo_69 rfl ?_
    exact xt_l X hr hlocks hNN hw hl h dX10_cutTo_70
  by_cases k_6 : x1 = 6
  · have h := hsw.2.2.2.2.2.1 k_6
    refine lv_tableIn (off := 70) (tgt := 71) X.1 X.2.1 dX10_cutTo_1 (by rw [k_6]; decide) (by rw [k_6]; decide) (by rw [k_6]; rfl) (by decide) ?_
    refine lv_iload_n X.1 X.2.1 dX10_cutTo_71 rfl (lv_at hv 1 rfl) ?_
    refine lv_i2f X.1 X.2.1 dX10_cutTo_72 ?_
    refine xc_i (xr_S (n := 1) X hk hw hv.1 (c_Jxf58ca_floatToIntBits_5c35a l Z et S (FP.i2f (x2)) _ h) (tb_S tw_688 tw_686 tw_687 tw_52) rfl rfl (by decide +kernel) ⟨Nat.le_of_ble_eq_true rfl, Nat.le_of_ble_eq_true rfl⟩ rfl (Nat.le_of_ble_eq_true rfl) dX10_cutTo_73 ⟨Nat.le_of_ble_eq_true rfl, Nat.le_of_ble_eq_true rfl⟩) hl (fun r_3 S_2 H locs h hN hw hl => ?_)
    replace hNN := hN.trans hNN
    refine lv_i2l (v := (r_3).toInt64) X.1 X.2.1 dX10_cutTo_76 rfl ?_
    exact xt_l X hr hlocks hNN hw hl h dX10_cutTo_77
  have h := hsw.2.2.2.2.2.2 k_0 k_1 k_2 k_3 k_4 k_5 k_6
  have n_0 := lv_neT k_0 (a := 0) (by decide)
  have n_1 := lv_neT k_1 (a := 1) (by decide)
  have n_2 := lv_neT k_2 (a := 2) (by decide)
  have n_3 := lv_neT k_3 (a := 3) (by decide)
  have n_4 := lv_neT k_4 (a := 4) (by decide)
  have n_5 := lv_neT k_5 (a := 5) (by decide)
  have n_6 := lv_neT k_6 (a := 6) (by decide)
  refine lv_tableOut (tgt := 78) X.1 X.2.1 dX10_cutTo_1 (by omega) (by decide) ?_
  refine lv_iload_n X.1 X.2.1 dX10_cutTo_78 rfl (lv_at hv 1 rfl) ?_
  refine lv_i2d X.1 X.2.1 dX10_cutTo_79 ?_
  refine xc_l (xr_S (n := 1) X hk hw hv.1 (c_Jxe99ae_doubleToLongBits_ccdee l Z et S (FP.i2d (x2)) _ h) (tb_S tw_698 tw_696 tw_697 tw_53) rfl rfl (by decide +kernel) ⟨Nat.le_of_ble_eq_true rfl, Nat.le_of_ble_eq_true rfl⟩ rfl (Nat.le_of_ble_eq_true rfl) dX10_cutTo_80 ⟨Nat.le_of_ble_eq_true rfl, Nat.le_of_ble_eq_true rfl⟩) hl (fun r_5 S_4 H locs h hN hw hl => ?_)
  replace hNN := hN.trans hNN
  exact xt_l X hr hlocks hNN hw hl h dX10_cutTo_83
def v_X10_pin (x1 : Int32) (x2 : Int32) (S : xs_T) (K : Int32 → xs_T → Prop) : Prop := ∃ j_1 : Nat, x1 = nI j_1 ∧ j_1 < 10 ∧ ((¬ (xI S 9 j_1) = 0 → v_X10_rowOn (x1) S (fun (r_6 : Int32) (S_5 : xs_T) => ((r_6 < 0 → K (2) S_5) ∧ (¬ r_6 < 0 → ∃ j_8 : Nat, r_6 = nI j_8 ∧ j_8 < 120 ∧ (((xI S_5 1 j_8) < 8 → ∃ j_12 : Nat, x1 = nI j_12 ∧ j_12 < 10 ∧ ∃ j_15 : Nat, r_6 = nI j_15 ∧ j_15 < 120 ∧ v_X10_in ((xI S_5 11 j_12)) (0) (((xI S_5 2 j_15) - 1)) S_5 (fun (r_19 : Int32) (S_18 : xs_T) => ((¬ r_19 = 0 → ∃ j_21 : Nat, r_6 = nI j_21 ∧ j_21 < 120 ∧ ∃ j_24 : Nat, x1 = nI j_24 ∧ j_24 < 10 ∧ ∃ j_27 : Nat, r_6 = nI j_27 ∧ j_27 < 120 ∧ v_X10_cutTo ((xI S_18 1 j_27)) (x2) S_18 (fun (r_31 : Int64) (S_30 : xs_T) => ∃ j_32 : Nat, ((xI S_18 3 j_21) + (xI S_18 11 j_24)) = nI j_32 ∧ j_32 < 3000 ∧ ∀ S_35 : xs_T, S_35 = sL S_30 5 j_32 (r_31) → K (0) S_35)) ∧ (r_19 = 0 → K (3) S_18)))) ∧ (¬ (xI S_5 1 j_8) < 8 → K (2) S_5)))))) ∧ ((xI S 9 j_1) = 0 → K (1) S))
set_option maxHeartbeats 4000000 in
set_option maxRecDepth 100000 in
theorem c_X10_pin (l : Launch) (Z : xz_T) (et : Nat → Nat) (S : xs_T) (x1 : Int32) (x2 : Int32) (K : Int32 → xs_T → Prop) (h : v_X10_pin x1 x2 S K) : Met l yX10_pin (wq yX10_pin cX10_pin 4 (some .int)) { frames := 3, cells := 0, slots := 0, locals := 72 } (xPc Z et S [.ref (et (0)), .int (x1), .int (x2)]) (xQi Z et S.2.2.2.2 K) 0 0 (fun q => Z.2.2.1 ≤ q) := by
  refine Met.ofW (cc := cX10_pin) (maxL := 4) (ret := (some .int)) (by decide +kernel) rfl ?_
  intro p e s m args below meth c s₁ B hml hv0
  obtain ⟨rfl, hk, hw⟩ := hv0
  have X : CallFix p m c cX10_pin 4 s _ (wq yX10_pin cX10_pin 4 (some .int)) RX10 := ⟨B.exec, B.bytes, hml, findClass_of_methodNamed B.named, atoms_spec (ws := (wq yX10_pin cX10_pin 4 (some .int))) B.pre⟩
  have hr := B.returns
  have hlocks := B.notSynchronized
  have hl : xl Z [] := fun _ h => by cases h
  have hNN : S.2.2.2.2 = S.2.2.2.2 := rfl
  have hv := lv_entry [.ref (et (0)), .int (x1), .int (x2)] (n := 4) (Nat.le_of_ble_eq_true rfl)
  rw [lg_entry_eq]
  generalize (lg_sl [.ref (et (0)), .int (x1), .int (x2)] ++ List.replicate (4 - (lg_sl [.ref (et (0)), .int (x1), .int (x2)]).length) Slot.unset).toArray = ls at hv ⊢
  replace hv : lv_has ls 4 [(0, .ref (et (0))), (1, .int (x1)), (2, .int (x2))] := hv
  unfold v_X10_pin at h
  refine lv_aload_n X.1 X.2.1 dX10_pin_0 rfl (lv_at hv 0 rfl) ?_
  refine xw_get X hk hw (i := 0) 9 xe_0 rfl tlX10 (by decide) rfl tw_528 dX10_pin_1 ?_
  refine lv_iload_n X.1 X.2.1 dX10_pin_4 rfl (lv_at hv 1 rfl) ?_
  obtain ⟨j_1, e_2, b_3, h⟩ := h
  refine xw_ild X hk hw xe_9 e_2 b_3 (by decide) dX10_pin_5 ?_
  refine lv_if_ne (tgt := 11) X.1 X.2.1 dX10_pin_6 (by decide) (fun c_4 => ?_) (fun c_4 => ?_)
  · skip
    replace h := h.1 c_4
    refine lv_aload_n X.1 X.2.1 dX10_pin_11 rfl (lv_at hv 0 rfl) ?_
    refine lv_iload_n X.1 X.2.1 dX10_pin_12 rfl (lv_at hv 1 rfl) ?_
    refine xc_i (xr_V (n := 1) (As := [.int (x1)]) (i := 0) X hk hw hv.1 (c_X10_rowOn l Z et S (x1) _ h) (tb_V tw_629 tw_626 tw_628 tw_18 tw_44) xe_0 rfl rfl rfl rfl (by decide +kernel) ⟨Nat.le_of_ble_eq_true rfl, Nat.le_of_ble_eq_true rfl⟩ rfl (Nat.le_of_ble_eq_true rfl) dX10_pin_13 ⟨Nat.le_of_ble_eq_true rfl, Nat.le_of_ble_eq_true rfl⟩) hl (fun r_6 S_5 H locs h hN hw hl => ?_)
    replace hNN := hN.trans hNN
    refine lv_istore_n (lv' := [(3, .int (r_6)), (0, .ref (et (0))), (1, .int (x1)), (2, .int (x2))]) X.1 X.2.1 dX10_pin_16 rfl hv (by decide) rfl (fun ls hv => ?_)
    refine lv_iload_n X.1 X.2.1 dX10_pin_17 rfl (lv_at hv 0 rfl) ?_
    refine lv_if_lt (tgt := 32) X.1 X.2.1 dX10_pin_18 (by decide) (fun c_7 => ?_) (fun c_7 => ?_)
    · skip
      replace h := h.1 c_7
      refine lv_iconst (v := 2) X.1 X.2.1 dX10_pin_32 (by decide) ?_
      exact xt_i X hr hlocks hNN hw hl h dX10_pin_33
    · skip
      replace h := h.2 c_7
      refine lv_aload_n X.1 X.2.1 dX10_pin_21 rfl (lv_at hv 1 rfl) ?_
      refine xw_get X hk hw (i := 0) 1 xe_0 rfl tlX10 (by decide) rfl tw_520 dX10_pin_22 ?_
      refine lv_iload_n X.1 X.2.1 dX10_pin_25 rfl (lv_at hv 0 rfl) ?_
      obtain ⟨j_8, e_9, b_10, h⟩ := h
      refine xw_ild X hk hw xe_1 e_9 b_10 (by decide) dX10_pin_26 ?_
      refine lv_bipush (v := 8) X.1 X.2.1 dX10_pin_27 (by decide) ?_
      refine lv_icmp_lt (tgt := 34) X.1 X.2.1 dX10_pin_29 (by decide) (fun c_11 => ?_) (fun c_11 => ?_)
      · skip
        replace h := h.1 c_11
        refine lv_aload_n X.1 X.2.1 dX10_pin_34 rfl (lv_at hv 1 rfl) ?_
        refine xw_get X hk hw (i := 0) 11 xe_0 rfl tlX10 (by decide) rfl tw_530 dX10_pin_35 ?_
        refine lv_iload_n X.1 X.2.1 dX10_pin_38 rfl (lv_at hv 2 rfl) ?_
        obtain ⟨j_12, e_13, b_14, h⟩ := h
        refine xw_ild X hk hw xe_11 e_13 b_14 (by decide) dX10_pin_39 ?_
        refine lv_iconst (v := 0) X.1 X.2.1 dX10_pin_40 (by decide) ?_
        refine lv_aload_n X.1 X.2.1 dX10_pin_41 rfl (lv_at hv 1 rfl) ?_
        refine xw_get X hk hw (i := 0) 2 xe_0 rfl tlX10 (by decide) rfl tw_521 dX10_pin_42 ?_
        refine lv_iload_n X.1 X.2.1 dX10_pin_45 rfl (lv_at hv 0 rfl) ?_
        obtain ⟨j_15, e_16, b_17, h⟩ := h
        refine xw_ild X hk hw xe_2 e_16 b_17 (by decide) dX10_pin_46 ?_
        refine lv_iconst (v := 1) X.1 X.2.1 dX10_pin_47 (by decide) ?_
        refine lv_isub X.1 X.2.1 dX10_pin_48 ?_
        refine xc_i (xr_S (n := 3) X hk hw hv.1 (c_X10_in l Z et S_5 ((xI S_5 11 j_12)) (0) (((xI S_5 2 j_15) - 1)) _ h) (tb_S tw_613 tw_611 tw_612 tw_44) rfl rfl (by decide +kernel) ⟨Nat.le_of_ble_eq_true rfl, Nat.le_of_ble_eq_true rfl⟩ rfl (Nat.le_of_ble_eq_true rfl) dX10_pin_49 ⟨Nat.le_of_ble_eq_true rfl, Nat.le_of_ble_eq_true rfl⟩) hl (fun r_19 S_18 H locs h hN hw hl => ?_)
        replace hNN := hN.trans hNN
        refine lv_if_ne (tgt := 57) X.1 X.2.1 dX10_pin_52 (by decide) (fun c_20 => ?_) (fun c_20 => ?_)
        · skip
          replace h := h.1 c_20
          refine lv_aload_n X.1 X.2.1 dX10_pin_57 rfl (lv_at hv 1 rfl) ?_
          refine xw_get X hk hw (i := 0) 5 xe_0 rfl tlX10 (by decide) rfl tw_524 dX10_pin_58 ?_
          refine lv_aload_n X.1 X.2.1 dX10_pin_61 rfl (lv_at hv 1 rfl) ?_
          refine xw_get X hk hw (i := 0) 3 xe_0 rfl tlX10 (by decide) rfl tw_522 dX10_pin_62 ?_
          refine lv_iload_n X.1 X.2.1 dX10_pin_65 rfl (lv_at hv 0 rfl) ?_
          obtain ⟨j_21, e_22, b_23, h⟩ := h
          refine xw_ild X hk hw xe_3 e_22 b_23 (by decide) dX10_pin_66 ?_
          refine lv_aload_n X.1 X.2.1 dX10_pin_67 rfl (lv_at hv 1 rfl) ?_
          refine xw_get X hk hw (i := 0) 11 xe_0 rfl tlX10 (by decide) rfl tw_530 dX10_pin_68 ?_
          refine lv_iload_n X.1 X.2.1 dX10_pin_71 rfl (lv_at hv 2 rfl) ?_
          obtain ⟨j_24, e_25, b_26, h⟩ := h
          refine xw_ild X hk hw xe_11 e_25 b_26 (by decide) dX10_pin_72 ?_
          refine lv_iadd X.1 X.2.1 dX10_pin_73 ?_
          refine lv_aload_n X.1 X.2.1 dX10_pin_74 rfl (lv_at hv 1 rfl) ?_
          refine xw_get X hk hw (i := 0) 1 xe_0 rfl tlX10 (by decide) rfl tw_520 dX10_pin_75 ?_
          refine lv_iload_n X.1 X.2.1 dX10_pin_78 rfl (lv_at hv 0 rfl) ?_
          obtain ⟨j_27, e_28, b_29, h⟩ := h
          refine xw_ild X hk hw xe_1 e_28 b_29 (by decide) dX10_pin_79 ?_
          refine lv_iload_n X.1 X.2.1 dX10_pin_80 rfl (lv_at hv 3 rfl) ?_
          refine xc_l (xr_S (n := 2) X hk hw hv.1 (c_X10_cutTo l Z et S_18 ((xI S_18 1 j_27)) (x2) _ h) (tb_S tw_684 tw_682 tw_683 tw_44) rfl rfl (by decide +kernel) ⟨Nat.le_of_ble_eq_true rfl, Nat.le_of_ble_eq_true rfl⟩ rfl (Nat.le_of_ble_eq_true rfl) dX10_pin_81 ⟨Nat.le_of_ble_eq_true rfl, Nat.le_of_ble_eq_true rfl⟩) hl (fun r_31 S_30 H locs h hN hw hl => ?_)
          replace hNN := hN.trans hNN
          obtain ⟨j_32, e_33, b_34, h⟩ := h
          refine xw_lst X hk hw hl xe_5 rfl e_33 b_34 (by decide) dX10_pin_84 (fun H locs hw hl => ?_)
          obtain ⟨S_35, e_36⟩ : ∃ T : xs_T, T = sL S_30 5 j_32 (r_31) := ⟨_, rfl⟩
          rw [← e_36] at hw
          replace h := h S_35 e_36
          have hN : S_35.2.2.2.2 = S_30.2.2.2.2 := by rw [e_36]; rfl
          replace hNN := hN.trans hNN
          refine lv_iconst (v := 0) X.1 X.2.1 dX10_pin_85 (by decide) ?_
          exact xt_i X hr hlocks hNN hw hl h dX10_pin_86
        · skip
          replace h := h.2 c_20
          refine lv_iconst (v := 3) X.1 X.2.1 dX10_pin_55 (by decide) ?_
          exact xt_i X hr hlocks hNN hw hl h dX10_pin_56
      · skip
        replace h := h.2 c_11
        refine lv_iconst (v := 2) X.1 X.2.1 dX10_pin_32 (by decide) ?_
        exact xt_i X hr hlocks hNN hw hl h dX10_pin_33
  · skip
    replace h := h.2 c_4
    refine lv_iconst (v := 1) X.1 X.2.1 dX10_pin_9 (by decide) ?_
    exact xt_i X hr hlocks hNN hw hl h dX10_pin_10
def v_X10_canHave (x1 : Int32) (x2 : Int32) (S : xs_T) (K : Int32 → xs_T → Prop) : Prop := ((x2 = 0 → K (1) S) ∧ (¬ x2 = 0 → ((¬ x1 = 8 → ∃ j_3 : Nat, x2 = nI j_3 ∧ j_3 < 401 ∧ ((¬ x1 = 9 → ((¬ x1 = 10 → ((¬ (xI S 7 j_3) = 4 → K (0) S) ∧ ((xI S 7 j_3) = 4 → K (1) S))) ∧ (x1 = 10 → ((¬ (xI S 7 j_3) = 3 → K (0) S) ∧ ((xI S 7 j_3) = 3 → K (1) S))))) ∧ (x1 = 9 → (((xI S 7 j_3) = 2 → K (1) S) ∧ (¬ (xI S 7 j_3) = 2 → ((¬ (xI S 7 j_3) = 3 → K (0) S) ∧ ((xI S 7 j_3) = 3 → K (1) S))))))) ∧ (x1 = 8 → K (1) S))))
set_option maxHeartbeats 4000000 in
set_option maxRecDepth 100000 in
theorem c_X10_canHave (l : Launch) (Z : xz_T) (et : Nat → Nat) (S : xs_T) (x1 : Int32) (x2 : Int32) (K : Int32 → xs_T → Prop) (h : v_X10_canHave x1 x2 S K) : Met l yX10_canHave (wq yX10_canHave cX10_canHave 4 (some .boolean)) { frames := 0, cells := 0, slots := 0, locals := 0 } (xPc Z et S [.ref (et (0)), .int (x1), .int (x2)]) (xQi Z et S.2.2.2.2 K) 0 0 (fun q => Z.2.2.1 ≤ q) := by
  refine Met.ofW (cc := cX10_canHave) (maxL := 4) (ret := (some .boolean)) (by decide +kernel) rfl ?_
  intro p e s m args below meth c s₁ B hml hv0
  obtain ⟨rfl, hk, hw⟩ := hv0
  have X : CallFix p m c cX10_canHave 4 s _ (wq yX10_canHave cX10_canHave 4 (some .boolean)) RX10 := ⟨B.exec, B.bytes, hml, findClass_of_methodNamed B.named, atoms_spec (ws := (wq yX10_canHave cX10_canHave 4 (some .boolean))) B.pre⟩
  have hr := B.returns
  have hlocks := B.notSynchronized
  have hl : xl Z [] := fun _ h => by cases h
  have hNN : S.2.2.2.2 = S.2.2.2.2 := rfl
  have hv := lv_entry [.ref (et (0)), .int (x1), .int (x2)] (n := 4) (Nat.le_of_ble_eq_true rfl)
  rw [lg_entry_eq]
  generalize (lg_sl [.ref (et (0)), .int (x1), .int (x2)] ++ List.replicate (4 - (lg_sl [.ref (et (0)), .int (x1), .int (x2)]).length) Slot.unset).toArray = ls at hv ⊢
  replace hv : lv_has ls 4 [(0, .ref (et (0))), (1, .int (x1)), (2, .int (x2))] := hv
  unfold v_X10_canHave at h
  refine lv_iload_n X.1 X.2.1 dX10_canHave_0 rfl (lv_at hv 2 rfl) ?_
  refine lv_if_eq (tgt := 10) X.1 X.2.1 dX10_canHave_1 (by decide) (fun c_1 => ?_) (fun c_1 => ?_)
  · skip
    replace h := h.1 c_1
    refine lv_iconst (v := 1) X.1 X.2.1 dX10_canHave_10 (by decide) ?_
    exact xt_z X hr hlocks hNN hw hl (by decide) h dX10_canHave_11
  · skip
    replace h := h.2 c_1
    refine lv_iload_n X.1 X.2.1 dX10_canHave_4 rfl (lv_at hv 1 rfl) ?_
    refine lv_bipush (v := 8) X.1 X.2.1 dX10_canHave_5 (by decide) ?_
    refine lv_icmp_ne (tgt := 12) X.1 X.2.1 dX10_canHave_7 (by decide) (fun c_2 => ?_) (fun c_2 => ?_)
    · skip
      replace h := h.1 c_2
      refine lv_aload_n X.1 X.2.1 dX10_canHave_12 rfl (lv_at hv 0 rfl) ?_
      refine xw_get X hk hw (i := 0) 7 xe_0 rfl tlX10 (by decide) rfl tw_526 dX10_canHave_13 ?_
      refine lv_iload_n X.1 X.2.1 dX10_canHave_16 rfl (lv_at hv 2 rfl) ?_
      obtain ⟨j_3, e_4, b_5, h⟩ := h
      refine xw_ild X hk hw xe_7 e_4 b_5 (by decide) dX10_canHave_17 ?_
      refine lv_istore_n (lv' := [(3, .int ((xI S 7 j_3))), (0, .ref (et (0))), (1, .int (x1)), (2, .int (x2))]) X.1 X.2.1 dX10_canHave_18 rfl hv (by decide) rfl (fun ls hv => ?_)
      refine lv_iload_n X.1 X.2.1 dX10_canHave_19 rfl (lv_at hv 2 rfl) ?_
      refine lv_bipush (v := 9) X.1 X.2.1 dX10_canHave_20 (by decide) ?_
      refine lv_icmp_ne (tgt := 43) X.1 X.2.1 dX10_canHave_22 (by decide) (fun c_6 => ?_) (fun c_6 => ?_)
      · skip
        replace h := h.1 c_6
        refine lv_iload_n X.1 X.2.1 dX10_canHave_43 rfl (lv_at hv 2 rfl) ?_
        refine lv_bipush (v := 10) X.1 X.2.1 dX10_canHave_44 (by decide) ?_
        refine lv_icmp_ne (tgt := 62) X.1 X.2.1 dX10_canHave_46 (by decide) (fun c_7 => ?_) (fun c_7 => ?_)
        · skip
          replace h := h.1 c_7
          refine lv_iload_n X.1 X.2.1 dX10_canHave_62 rfl (lv_at hv 0 rfl) ?_
          refine lv_iconst (v := 4) X.1 X.2.1 dX10_canHave_63 (by decide) ?_
          refine lv_icmp_ne (tgt := 71) X.1 X.2.1 dX10_canHave_64 (by decide) (fun c_8 => ?_) (fun c_8 => ?_)
          · skip
            replace h := h.1 c_8
            refine lv_iconst (v := 0) X.1 X.2.1 dX10_canHave_71 (by decide) ?_
            exact xt_z X hr hlocks hNN hw hl (by decide) h dX10_canHave_72
          · skip
            replace h := h.2 c_8
            refine lv_iconst (v := 1) X.1 X.2.1 dX10_canHave_67 (by decide) ?_
            refine lv_goto (tgt := 72) X.1 X.2.1 dX10_canHave_68 (by decide) ?_
            exact xt_z X hr hlocks hNN hw hl (by decide) h dX10_canHave_72
        · skip
          replace h := h.2 c_7
          refine lv_iload_n X.1 X.2.1 dX10_canHave_49 rfl (lv_at hv 0 rfl) ?_
          refine lv_iconst (v := 3) X.1 X.2.1 dX10_canHave_50 (by decide) ?_
          refine lv_icmp_ne (tgt := 58) X.1 X.2.1 dX10_canHave_51 (by decide) (fun c_9 => ?_) (fun c_9 => ?_)
          · skip
            replace h := h.1 c_9
            refine lv_iconst (v := 0) X.1 X.2.1 dX10_canHave_58 (by decide) ?_
            refine lv_goto (tgt := 72) X.1 X.2.1 dX10_canHave_59 (by decide) ?_
            exact xt_z X hr hlocks hNN hw hl (by decide) h dX10_canHave_72
          · skip
            replace h := h.2 c_9
            refine lv_iconst (v := 1) X.1 X.2.1 dX10_canHave_54 (by decide) ?_
            refine lv_goto (tgt := 72) X.1 X.2.1 dX10_canHave_55 (by decide) ?_
            exact xt_z X hr hlocks hNN hw hl (by decide) h dX10_canHave_72
      · skip
        replace h := h.2 c_6
        refine lv_iload_n X.1 X.2.1 dX10_canHave_25 rfl (lv_at hv 0 rfl) ?_
        refine lv_iconst (v := 2) X.1 X.2.1 dX10_canHave_26 (by decide) ?_
        refine lv_icmp_eq (tgt := 35) X.1 X.2.1 dX10_canHave_27 (by decide) (fun c_10 => ?_) (fun c_10 => ?_)
        · skip
          replace h := h.1 c_10
          refine lv_iconst (v := 1) X.1 X.2.1 dX10_canHave_35 (by decide) ?_
          refine lv_goto (tgt := 72) X.1 X.2.1 dX10_canHave_36 (by decide) ?_
          exact xt_z X hr hlocks hNN hw hl (by decide) h dX10_canHave_72
        · skip
          replace h := h.2 c_10
          refine lv_iload_n X.1 X.2.1 dX10_canHave_30 rfl (lv_at hv 0 rfl) ?_
          refine lv_iconst (v := 3) X.1 X.2.1 dX10_canHave_31 (by decide) ?_
          refine lv_icmp_ne (tgt := 39) X.1 X.2.1 dX10_canHave_32 (by decide) (fun c_11 => ?_) (fun c_11 => ?_)
          · skip
            replace h := h.1 c_11
            refine lv_iconst (v := 0) X.1 X.2.1 dX10_canHave_39 (by decide) ?_
            refine lv_goto (tgt := 72) X.1 X.2.1 dX10_canHave_40 (by decide) ?_
            exact xt_z X hr hlocks hNN hw hl (by decide) h dX10_canHave_72
          · skip
            replace h := h.2 c_11
            refine lv_iconst (v := 1) X.1 X.2.1 dX10_canHave_35 (by decide) ?_
            refine lv_goto (tgt := 72) X.1 X.2.1 dX10_canHave_36 (by decide) ?_
            exact xt_z X hr hlocks hNN hw hl (by decide) h dX10_canHave_72
    · skip
      replace h := h.2 c_2
      refine lv_iconst (v := 1) X.1 X.2.1 dX10_canHave_10 (by decide) ?_
      exact xt_z X hr hlocks hNN hw hl (by decide) h dX10_canHave_11
end
section
def v_X10_seat_97 (K : Int32 → xs_T → Prop) (a1 : Int32) (a3 : Int32) (t0 : Int32) (S : xs_T) : Prop := ∃ j_36 : Nat, a3 = nI j_36 ∧ j_36 < 120 ∧ v_X10_canHave ((xI S 1 j_36)) (t0) S (fun (r_40 : Int32) (S_39 : xs_T) => ((¬ r_40 = 0 → ∃ j_42 : Nat, a3 = nI j_42 ∧ j_42 < 120 ∧ ∃ j_45 : Nat, a1 = nI j_45 ∧ j_45 < 10 ∧ ∃ j_48 : Nat, ((xI S_39 3 j_42) + (xI S_39 11 j_45)) = nI j_48 ∧ j_48 < 3000 ∧ ∀ S_51 : xs_T, S_51 = sL S_39 5 j_48 ((t0).toInt64) → K (0) S_51) ∧ (r_40 = 0 → K (2) S_39)))
def v_X10_seat (x1 : Int32) (x2 : Int32) (S : xs_T) (K : Int32 → xs_T → Prop) : Prop := ∃ j_1 : Nat, x1 = nI j_1 ∧ j_1 < 10 ∧ ((¬ (xI S 9 j_1) = 0 → v_X10_rowOn (x1) S (fun (r_6 : Int32) (S_5 : xs_T) => ((r_6 < 0 → K (2) S_5) ∧ (¬ r_6 < 0 → ∃ j_8 : Nat, r_6 = nI j_8 ∧ j_8 < 120 ∧ (((xI S_5 1 j_8) < 8 → K (2) S_5) ∧ (¬ (xI S_5 1 j_8) < 8 → ∃ j_12 : Nat, x2 = nI j_12 ∧ j_12 < 10 ∧ (((xI S_5 9 j_12) = 1 → K (2) S_5) ∧ (¬ (xI S_5 9 j_12) = 1 → ∃ j_16 : Nat, x2 = nI j_16 ∧ j_16 < 10 ∧ ((¬ (xI S_5 9 j_16) = 2 → ∃ j_20 : Nat, x1 = nI j_20 ∧ j_20 < 10 ∧ ∃ j_23 : Nat, r_6 = nI j_23 ∧ j_23 < 120 ∧ v_X10_in ((xI S_5 11 j_20)) (0) (((xI S_5 2 j_23) - 1)) S_5 (fun (r_27 : Int32) (S_26 : xs_T) => ((¬ r_27 = 0 → ∃ j_29 : Nat, x2 = nI j_29 ∧ j_29 < 10 ∧ ((¬ (xI S_26 9 j_29) = 3 → v_X10_seat_97 K (x1) (r_6) (0) S_26) ∧ ((xI S_26 9 j_29) = 3 → ∃ j_33 : Nat, x2 = nI j_33 ∧ j_33 < 10 ∧ v_X10_seat_97 K (x1) (r_6) ((xI S_26 10 j_33)) S_26))) ∧ (r_27 = 0 → K (3) S_26)))) ∧ ((xI S_5 9 j_16) = 2 → K (2) S_5)))))))))) ∧ ((xI S 9 j_1) = 0 → K (1) S))
set_option maxHeartbeats 4000000 in
set_option maxRecDepth 100000 in
theorem j_X10_seat_97 {l : Launch} {p : Program} {e : Env} {s : State} {m : MethodId} {args : Array Value} {below : List Frame} {meth : Method} {c : Code} {Z : xz_T} {et : Nat → Nat} {Nn : Nat → Nat} {K : Int32 → xs_T → Prop} (X : CallFix p m c cX10_seat 5 s args (wq yX10_seat cX10_seat 5 (some .int)) RX10) (hk : xk Z s) (hr : meth.sig.returnType = (some .int)) (hlocks : meth.locks = false) : ∀ (a1 : Int32) (a3 : Int32) (t0 : Int32) (S : xs_T) (H : Heap) (locs : List Loc) (ls : Array Slot), v_X10_seat_97 K a1 a3 t0 S → S.2.2.2.2 = Nn → wd Z et S H → xl Z locs → lv_has ls 5 [(0, .ref (et (0))), (1, .int (a1)), (3, .int (a3))] → W p l e (headSpec (wq yX10_seat cX10_seat 5 (some .int)) { frames := 1, cells := 0, slots := 0, locals := 23 }).room s m args below meth c H locs 0 0 (MQ below (xQi Z et Nn K) args s 0 0 (fun q => Z.2.2.1 ≤ q)) (F0 m 97 ls [.int (t0)]) := by
  intro a1 a3 t0 S H locs ls h hNN hw hl hv
  unfold v_X10_seat_97 at h
  refine lv_istore (lv' := [(4, .int (t0)), (0, .ref (et (0))), (1, .int (a1)), (3, .int (a3))]) X.1 X.2.1 dX10_seat_97 hv (by decide) rfl (fun ls hv => ?_)
  refine lv_aload_n X.1 X.2.1 dX10_seat_99 rfl (lv_at hv 1 rfl) ?_
  refine lv_aload_n X.1 X.2.1 dX10_seat_100 rfl (lv_at hv 1 rfl) ?_
  refine xw_get X hk hw (i := 0) 1 xe_0 rfl tlX10 (by decide) rfl tw_520 dX10_seat_101 ?_
  refine lv_iload_n X.1 X.2.1 dX10_seat_104 rfl (lv_at hv 3 rfl) ?_
  obtain ⟨j_36, e_37, b_38, h⟩ := h
  refine xw_ild X hk hw xe_1 e_37 b_38 (by decide) dX10_seat_105 ?_
  refine lv_iload X.1 X.2.1 dX10_seat_106 (lv_at hv 0 rfl) ?_
  refine xc_i (xr_V (n := 2) (As := [.int ((xI S 1 j_36)), .int (t0)]) (i := 0) X hk hw hv.1 (c_X10_canHave l Z et S ((xI S 1 j_36)) (t0) _ h) (tb_V tw_641 tw_638 tw_640 tw_21 tw_44) xe_0 rfl rfl rfl rfl (by decide +kernel) ⟨Nat.le_of_ble_eq_true rfl, Nat.le_of_ble_eq_true rfl⟩ rfl (Nat.le_of_ble_eq_true rfl) dX10_seat_108 ⟨Nat.le_of_ble_eq_true rfl, Nat.le_of_ble_eq_true rfl⟩) hl (fun r_40 S_39 H locs h hN hw hl => ?_)
  replace hNN := hN.trans hNN
  refine lv_if_ne (tgt := 116) X.1 X.2.1 dX10_seat_111 (by decide) (fun c_41 => ?_) (fun c_41 => ?_)
  · skip
    replace h := h.1 c_41
    refine lv_aload_n X.1 X.2.1 dX10_seat_116 rfl (lv_at hv 1 rfl) ?_
    refine xw_get X hk hw (i := 0) 5 xe_0 rfl tlX10 (by decide) rfl tw_524 dX10_seat_117 ?_
    refine lv_aload_n X.1 X.2.1 dX10_seat_120 rfl (lv_at hv 1 rfl) ?_
    refine xw_get X hk hw (i := 0) 3 xe_0 rfl tlX10 (by decide) rfl tw_522 dX10_seat_121 ?_
    refine lv_iload_n X.1 X.2.1 dX10_seat_124 rfl (lv_at hv 3 rfl) ?_
    obtain ⟨j_42, e_43, b_44, h⟩ := h
    refine xw_ild X hk hw xe_3 e_43 b_44 (by decide) dX10_seat_125 ?_
    refine lv_aload_n X.1 X.2.1 dX10_seat_126 rfl (lv_at hv 1 rfl) ?_
    refine xw_get X hk hw (i := 0) 11 xe_0 rfl tlX10 (by decide) rfl tw_530 dX10_seat_127 ?_
    refine lv_iload_n X.1 X.2.1 dX10_seat_130 rfl (lv_at hv 2 rfl) ?_
    obtain ⟨j_45, e_46, b_47, h⟩ := h
    refine xw_ild X hk hw xe_11 e_46 b_47 (by decide) dX10_seat_131 ?_
    refine lv_iadd X.1 X.2.1 dX10_seat_132 ?_
    refine lv_iload X.1 X.2.1 dX10_seat_133 (lv_at hv 0 rfl) ?_
    refine lv_i2l (v := (t0).toInt64) X.1 X.2.1 dX10_seat_135 rfl ?_
    obtain ⟨j_48, e_49, b_50, h⟩ := h
    refine xw_lst X hk hw hl xe_5 rfl e_49 b_50 (by decide) dX10_seat_136 (fun H locs hw hl => ?_)
    obtain ⟨S_51, e_52⟩ : ∃ T : xs_T, T = sL S_39 5 j_48 ((t0).toInt64) := ⟨_, rfl⟩
    rw [← e_52] at hw
    replace h := h S_51 e_52
    have hN : S_51.2.2.2.2 = S_39.2.2.2.2 := by rw [e_52]; rfl
    replace hNN := hN.trans hNN
    refine lv_iconst (v := 0) X.1 X.2.1 dX10_seat_137 (by decide) ?_
    exact xt_i X hr hlocks hNN hw hl h dX10_seat_138
  · skip
    replace h := h.2 c_41
    refine lv_iconst (v := 2) X.1 X.2.1 dX10_seat_114 (by decide) ?_
    exact xt_i X hr hlocks hNN hw hl h dX10_seat_115
set_option maxHeartbeats 4000000 in
set_option maxRecDepth 100000 in
theorem c_X10_seat (l : Launch) (Z : xz_T) (et : Nat → Nat) (S : xs_T) (x1 : Int32) (x2 : Int32) (K : Int32 → xs_T → Prop) (h : v_X10_seat x1 x2 S K) : Met l yX10_seat (wq yX10_seat cX10_seat 5 (some .int)) { frames := 1, cells := 0, slots := 0, locals := 23 } (xPc Z et S [.ref (et (0)), .int (x1), .int (x2)]) (xQi Z et S.2.2.2.2 K) 0 0 (fun q => Z.2.2.1 ≤ q) := by
  refine Met.ofW (cc := cX10_seat) (maxL := 5) (ret := (some .int)) (by decide +kernel) rfl ?_
  intro p e s m args below meth c s₁ B hml hv0
  obtain ⟨rfl, hk, hw⟩ := hv0
  have X : CallFix p m c cX10_seat 5 s _ (wq yX10_seat cX10_seat 5 (some .int)) RX10 := ⟨B.exec, B.bytes, hml, findClass_of_methodNamed B.named, atoms_spec (ws := (wq yX10_seat cX10_seat 5 (some .int))) B.pre⟩
  have hr := B.returns
  have hlocks := B.notSynchronized
  have hl : xl Z [] := fun _ h => by cases h
  have hNN : S.2.2.2.2 = S.2.2.2.2 := rfl
  have hv := lv_entry [.ref (et (0)), .int (x1), .int (x2)] (n := 5) (Nat.le_of_ble_eq_true rfl)
  rw [lg_entry_eq]
  generalize (lg_sl [.ref (et (0)), .int (x1), .int (x2)] ++ List.replicate (5 - (lg_sl [.ref (et (0)), .int (x1), .int (x2)]).length) Slot.unset).toArray = ls at hv ⊢
  replace hv : lv_has ls 5 [(0, .ref (et (0))), (1, .int (x1)), (2, .int (x2))] := hv
  unfold v_X10_seat at h
  refine lv_aload_n X.1 X.2.1 dX10_seat_0 rfl (lv_at hv 0 rfl) ?_
  refine xw_get X hk hw (i := 0) 9 xe_0 rfl tlX10 (by decide) rfl tw_528 dX10_seat_1 ?_
  refine lv_iload_n X.1 X.2.1 dX10_seat_4 rfl (lv_at hv 1 rfl) ?_
  obtain ⟨j_1, e_2, b_3, h⟩ := h
  refine xw_ild X hk hw xe_9 e_2 b_3 (by decide) dX10_seat_5 ?_
  refine lv_if_ne (tgt := 11) X.1 X.2.1 dX10_seat_6 (by decide) (fun c_4 => ?_) (fun c_4 => ?_)
  · skip
    replace h := h.1 c_4
    refine lv_aload_n X.1 X.2.1 dX10_seat_11 rfl (lv_at hv 0 rfl) ?_
    refine lv_iload_n X.1 X.2.1 dX10_seat_12 rfl (lv_at hv 1 rfl) ?_
    refine xc_i (xr_V (n := 1) (As := [.int (x1)]) (i := 0) X hk hw hv.1 (c_X10_rowOn l Z et S (x1) _ h) (tb_V tw_629 tw_626 tw_628 tw_18 tw_44) xe_0 rfl rfl rfl rfl (by decide +kernel) ⟨Nat.le_of_ble_eq_true rfl, Nat.le_of_ble_eq_true rfl⟩ rfl (Nat.le_of_ble_eq_true rfl) dX10_seat_13 ⟨Nat.le_of_ble_eq_true rfl, Nat.le_of_ble_eq_true rfl⟩) hl (fun r_6 S_5 H locs h hN hw hl => ?_)
    replace hNN := hN.trans hNN
    refine lv_istore_n (lv' := [(3, .int (r_6)), (0, .ref (et (0))), (1, .int (x1)), (2, .int (x2))]) X.1 X.2.1 dX10_seat_16 rfl hv (by decide) rfl (fun ls hv => ?_)
    refine lv_iload_n X.1 X.2.1 dX10_seat_17 rfl (lv_at hv 0 rfl) ?_
    refine lv_if_lt (tgt := 52) X.1 X.2.1 dX10_seat_18 (by decide) (fun c_7 => ?_) (fun c_7 => ?_)
    · skip
      replace h := h.1 c_7
      refine lv_iconst (v := 2) X.1 X.2.1 dX10_seat_52 (by decide) ?_
      exact xt_i X hr hlocks hNN hw hl h dX10_seat_53
    · skip
      replace h := h.2 c_7
      refine lv_aload_n X.1 X.2.1 dX10_seat_21 rfl (lv_at hv 1 rfl) ?_
      refine xw_get X hk hw (i := 0) 1 xe_0 rfl tlX10 (by decide) rfl tw_520 dX10_seat_22 ?_
      refine lv_iload_n X.1 X.2.1 dX10_seat_25 rfl (lv_at hv 0 rfl) ?_
      obtain ⟨j_8, e_9, b_10, h⟩ := h
      refine xw_ild X hk hw xe_1 e_9 b_10 (by decide) dX10_seat_26 ?_
      refine lv_bipush (v := 8) X.1 X.2.1 dX10_seat_27 (by decide) ?_
      refine lv_icmp_lt (tgt := 52) X.1 X.2.1 dX10_seat_29 (by decide) (fun c_11 => ?_) (fun c_11 => ?_)
      · skip
        replace h := h.1 c_11
        refine lv_iconst (v := 2) X.1 X.2.1 dX10_seat_52 (by decide) ?_
        exact xt_i X hr hlocks hNN hw hl h dX10_seat_53
      · skip
        replace h := h.2 c_11
        refine lv_aload_n X.1 X.2.1 dX10_seat_32 rfl (lv_at hv 1 rfl) ?_
        refine xw_get X hk hw (i := 0) 9 xe_0 rfl tlX10 (by decide) rfl tw_528 dX10_seat_33 ?_
        refine lv_iload_n X.1 X.2.1 dX10_seat_36 rfl (lv_at hv 3 rfl) ?_
        obtain ⟨j_12, e_13, b_14, h⟩ := h
        refine xw_ild X hk hw xe_9 e_13 b_14 (by decide) dX10_seat_37 ?_
        refine lv_iconst (v := 1) X.1 X.2.1 dX10_seat_38 (by decide) ?_
        refine lv_icmp_eq (tgt := 52) X.1 X.2.1 dX10_seat_39 (by decide) (fun c_15 => ?_) (fun c_15 => ?_)
        · skip
          replace h := h.1 c_15
          refine lv_iconst (v := 2) X.1 X.2.1 dX10_seat_52 (by decide) ?_
          exact xt_i X hr hlocks hNN hw hl h dX10_seat_53
        · skip
          replace h := h.2 c_15
          refine lv_aload_n X.1 X.2.1 dX10_seat_42 rfl (lv_at hv 1 rfl) ?_
          refine xw_get X hk hw (i := 0) 9 xe_0 rfl tlX10 (by decide) rfl tw_528 dX10_seat_43 ?_
          refine lv_iload_n X.1 X.2.1 dX10_seat_46 rfl (lv_at hv 3 rfl) ?_
          obtain ⟨j_16, e_17, b_18, h⟩ := h
          refine xw_ild X hk hw xe_9 e_17 b_18 (by decide) dX10_seat_47 ?_
          refine lv_iconst (v := 2) X.1 X.2.1 dX10_seat_48 (by decide) ?_
          refine lv_icmp_ne (tgt := 54) X.1 X.2.1 dX10_seat_49 (by decide) (fun c_19 => ?_) (fun c_19 => ?_)
          · skip
            replace h := h.1 c_19
            refine lv_aload_n X.1 X.2.1 dX10_seat_54 rfl (lv_at hv 1 rfl) ?_
            refine xw_get X hk hw (i := 0) 11 xe_0 rfl tlX10 (by decide) rfl tw_530 dX10_seat_55 ?_
            refine lv_iload_n X.1 X.2.1 dX10_seat_58 rfl (lv_at hv 2 rfl) ?_
            obtain ⟨j_20, e_21, b_22, h⟩ := h
            refine xw_ild X hk hw xe_11 e_21 b_22 (by decide) dX10_seat_59 ?_
            refine lv_iconst (v := 0) X.1 X.2.1 dX10_seat_60 (by decide) ?_
            refine lv_aload_n X.1 X.2.1 dX10_seat_61 rfl (lv_at hv 1 rfl) ?_
            refine xw_get X hk hw (i := 0) 2 xe_0 rfl tlX10 (by decide) rfl tw_521 dX10_seat_62 ?_
            refine lv_iload_n X.1 X.2.1 dX10_seat_65 rfl (lv_at hv 0 rfl) ?_
            obtain ⟨j_23, e_24, b_25, h⟩ := h
            refine xw_ild X hk hw xe_2 e_24 b_25 (by decide) dX10_seat_66 ?_
            refine lv_iconst (v := 1) X.1 X.2.1 dX10_seat_67 (by decide) ?_
            refine lv_isub X.1 X.2.1 dX10_seat_68 ?_
            refine xc_i (xr_S (n := 3) X hk hw hv.1 (c_X10_in l Z et S_5 ((xI S_5 11 j_20)) (0) (((xI S_5 2 j_23) - 1)) _ h) (tb_S tw_613 tw_611 tw_612 tw_44) rfl rfl (by decide +kernel) ⟨Nat.le_of_ble_eq_true rfl, Nat.le_of_ble_eq_true rfl⟩ rfl (Nat.le_of_ble_eq_true rfl) dX10_seat_69 ⟨Nat.le_of_ble_eq_true rfl, Nat.le_of_ble_eq_true rfl⟩) hl (fun r_27 S_26 H locs h hN hw hl => ?_)
            replace hNN := hN.trans hNN
            refine lv_if_ne (tgt := 77) X.1 X.2.1 dX10_seat_72 (by decide) (fun c_28 => ?_) (fun c_28 => ?_)
            · skip
              replace h := h.1 c_28
              refine lv_aload_n X.1 X.2.1 dX10_seat_77 rfl (lv_at hv 1 rfl) ?_
              refine xw_get X hk hw (i := 0) 9 xe_0 rfl tlX10 (by decide) rfl tw_528 dX10_seat_78 ?_
              refine lv_iload_n X.1 X.2.1 dX10_seat_81 rfl (lv_at hv 3 rfl) ?_
              obtain ⟨j_29, e_30, b_31, h⟩ := h
              refine xw_ild X hk hw xe_9 e_30 b_31 (by decide) dX10_seat_82 ?_
              refine lv_iconst (v := 3) X.1 X.2.1 dX10_seat_83 (by decide) ?_
              refine lv_icmp_ne (tgt := 96) X.1 X.2.1 dX10_seat_84 (by decide) (fun c_32 => ?_) (fun c_32 => ?_)
              · skip
                replace h := h.1 c_32
                refine lv_iconst (v := 0) X.1 X.2.1 dX10_seat_96 (by decide) ?_
                exact j_X10_seat_97 X hk hr hlocks (x1) (r_6) (0) S_26 _ _ _ h hNN hw hl (lv_sub hv [1, 2, 0] rfl)
              · skip
                replace h := h.2 c_32
                refine lv_aload_n X.1 X.2.1 dX10_seat_87 rfl (lv_at hv 1 rfl) ?_
                refine xw_get X hk hw (i := 0) 10 xe_0 rfl tlX10 (by decide) rfl tw_529 dX10_seat_88 ?_
                refine lv_iload_n X.1 X.2.1 dX10_seat_91 rfl (lv_at hv 3 rfl) ?_
                obtain ⟨j_33, e_34, b_35, h⟩ := h
                refine xw_ild X hk hw xe_10 e_34 b_35 (by decide) dX10_seat_92 ?_
                refine lv_goto (tgt := 97) X.1 X.2.1 dX10_seat_93 (by decide) ?_
                exact j_X10_seat_97 X hk hr hlocks (x1) (r_6) ((xI S_26 10 j_33)) S_26 _ _ _ h hNN hw hl (lv_sub hv [1, 2, 0] rfl)
            · skip
              replace h := h.2 c_28
              refine lv_iconst (v := 3) X.1 X.2.1 dX10_seat_75 (by decide) ?_
              exact xt_i X hr hlocks hNN hw hl h dX10_seat_76
          · skip
            replace h := h.2 c_19
            refine lv_iconst (v := 2) X.1 X.2.1 dX10_seat_52 (by decide) ?_
            exact xt_i X hr hlocks hNN hw hl h dX10_seat_53
  · skip
    replace h := h.2 c_4
    refine lv_iconst (v := 1) X.1 X.2.1 dX10_seat_9 (by decide) ?_
    exact xt_i X hr hlocks hNN hw hl h dX10_seat_10
def v_X10_splice_234 (K : Int32 → xs_T → Prop) : Nat → Int32 → Int32 → Int32 → Int32 → Int32 → xs_T → Prop
  | 0, _, _, _, _, _, _ => False
  | n + 1, a2, a3, a5, a6, a11, S => ((a3 ≤ a11 → K (0) S) ∧ (¬ a3 ≤ a11 → ((a6 = 0 → ∃ j_74 : Nat, a5 = nI j_74 ∧ j_74 < 120 ∧ ∃ j_77 : Nat, a2 = nI j_77 ∧ j_77 < 10 ∧ ∃ j_80 : Nat, a11 = nI j_80 ∧ j_80 < 64 ∧ ∃ j_83 : Nat, (((xI S 3 j_74) + (xI S 11 j_77)) + a11) = nI j_83 ∧ j_83 < 3000 ∧ ∀ S_86 : xs_T, S_86 = sL S 5 j_83 ((xL S 22 j_80)) → v_X10_splice_234 K n (a2) (a3) (a5) (a6) ((a11 + 1)) S_86) ∧ (¬ a6 = 0 → ∃ j_88 : Nat, a5 = nI j_88 ∧ j_88 < 120 ∧ ∃ j_91 : Nat, a11 = nI j_91 ∧ j_91 < 64 ∧ v_X10_canHave ((xI S 1 j_88)) (((xL S 22 j_91)).toInt32) S (fun (r_95 : Int32) (S_94 : xs_T) => ((¬ r_95 = 0 → ∃ j_97 : Nat, a5 = nI j_97 ∧ j_97 < 120 ∧ ∃ j_100 : Nat, a2 = nI j_100 ∧ j_100 < 10 ∧ ∃ j_103 : Nat, a11 = nI j_103 ∧ j_103 < 64 ∧ ∃ j_106 : Nat, (((xI S_94 3 j_97) + (xI S_94 11 j_100)) + a11) = nI j_106 ∧ j_106 < 3000 ∧ ∀ S_109 : xs_T, S_109 = sL S_94 5 j_106 ((xL S_94 22 j_103)) → v_X10_splice_234 K n (a2) (a3) (a5) (a6) ((a11 + 1)) S_109) ∧ (r_95 = 0 → K (2) S_94)))))))
def v_X10_splice_190 (K : Int32 → xs_T → Prop) : Nat → Int32 → Int32 → Int32 → Int32 → Int32 → Int32 → Int32 → xs_T → Prop
  | 0, _, _, _, _, _, _, _, _ => False
  | n + 1, a1, a2, a3, a4, a5, a6, a11, S => ((a3 ≤ a11 → ∃ n, v_X10_splice_234 K n (a2) (a3) (a5) (a6) (0) S) ∧ (¬ a3 ≤ a11 → ∃ j_58 : Nat, a4 = nI j_58 ∧ j_58 < 120 ∧ ∃ j_61 : Nat, a1 = nI j_61 ∧ j_61 < 10 ∧ ∃ j_64 : Nat, (((xI S 3 j_58) + (xI S 11 j_61)) + a11) = nI j_64 ∧ j_64 < 3000 ∧ ∃ j_67 : Nat, a11 = nI j_67 ∧ j_67 < 64 ∧ ∀ S_70 : xs_T, S_70 = sL S 22 j_67 ((xL S 5 j_64)) → v_X10_splice_190 K n (a1) (a2) (a3) (a4) (a5) (a6) ((a11 + 1)) S_70))
def v_X10_splice_111 (K : Int32 → xs_T → Prop) (a1 : Int32) (a2 : Int32) (a3 : Int32) (a4 : Int32) (a5 : Int32) (a6 : Int32) (S : xs_T) : Prop := ∃ j_32 : Nat, a1 = nI j_32 ∧ j_32 < 10 ∧ ∃ j_35 : Nat, a2 = nI j_35 ∧ j_35 < 10 ∧ ∃ j_38 : Nat, a1 = nI j_38 ∧ j_38 < 10 ∧ (((xI S 11 j_38) < 0 → K (3) S) ∧ (¬ (xI S 11 j_38) < 0 → ∃ j_42 : Nat, a2 = nI j_42 ∧ j_42 < 10 ∧ (((xI S 11 j_42) < 0 → K (3) S) ∧ (¬ (xI S 11 j_42) < 0 → ((a3 < 0 → K (3) S) ∧ (¬ a3 < 0 → ∃ j_47 : Nat, a4 = nI j_47 ∧ j_47 < 120 ∧ ((((xI S 2 j_47)).toInt64 < (((xI S 11 j_32)).toInt64 + (a3).toInt64) → K (3) S) ∧ (¬ ((xI S 2 j_47)).toInt64 < (((xI S 11 j_32)).toInt64 + (a3).toInt64) → ∃ j_51 : Nat, a5 = nI j_51 ∧ j_51 < 120 ∧ (((((xI S 11 j_35)).toInt64 + (a3).toInt64) ≤ ((xI S 2 j_51)).toInt64 → ∃ n, v_X10_splice_190 K n (a1) (a2) (a3) (a4) (a5) (a6) (0) S) ∧ (¬ (((xI S 11 j_35)).toInt64 + (a3).toInt64) ≤ ((xI S 2 j_51)).toInt64 → K (3) S))))))))))
def v_X10_splice_84 (K : Int32 → xs_T → Prop) (a1 : Int32) (a2 : Int32) (a3 : Int32) (a4 : Int32) (a5 : Int32) (a6 : Int32) (t0 : Int32) (t1 : Int32) (S : xs_T) : Prop := ((¬ t1 = t0 → K (2) S) ∧ (t1 = t0 → ((¬ a6 = 0 → v_X10_splice_111 K (a1) (a2) (a3) (a4) (a5) (a6) S) ∧ (a6 = 0 → ∃ j_25 : Nat, a4 = nI j_25 ∧ j_25 < 120 ∧ ∃ j_28 : Nat, a5 = nI j_28 ∧ j_28 < 120 ∧ (((xI S 1 j_25) = (xI S 1 j_28) → v_X10_splice_111 K (a1) (a2) (a3) (a4) (a5) (a6) S) ∧ (¬ (xI S 1 j_25) = (xI S 1 j_28) → K (2) S))))))
def v_X10_splice_63 (K : Int32 → xs_T → Prop) (a1 : Int32) (a2 : Int32) (a3 : Int32) (a4 : Int32) (a5 : Int32) (t0 : Int32) (S : xs_T) : Prop := ∃ j_19 : Nat, a5 = nI j_19 ∧ j_19 < 120 ∧ (((xI S 1 j_19) < 8 → v_X10_splice_84 K (a1) (a2) (a3) (a4) (a5) (t0) (0) (t0) S) ∧ (¬ (xI S 1 j_19) < 8 → v_X10_splice_84 K (a1) (a2) (a3) (a4) (a5) (t0) (1) (t0) S))
def v_X10_splice (x1 : Int32) (x2 : Int32) (x3 : Int32) (S : xs_T) (K : Int32 → xs_T → Prop) : Prop := ∃ j_1 : Nat, x1 = nI j_1 ∧ j_1 < 10 ∧ (((xI S 9 j_1) = 0 → K (1) S) ∧ (¬ (xI S 9 j_1) = 0 → ∃ j_5 : Nat, x2 = nI j_5 ∧ j_5 < 10 ∧ ((¬ (xI S 9 j_5) = 0 → v_X10_rowOn (x1) S (fun (r_10 : Int32) (S_9 : xs_T) => v_X10_rowOn (x2) S_9 (fun (r_12 : Int32) (S_11 : xs_T) => ((r_10 < 0 → K (2) S_11) ∧ (¬ r_10 < 0 → ((0 ≤ r_12 → ∃ j_15 : Nat, r_10 = nI j_15 ∧ j_15 < 120 ∧ (((xI S_11 1 j_15) < 8 → v_X10_splice_63 K (x1) (x2) (x3) (r_10) (r_12) (0) S_11) ∧ (¬ (xI S_11 1 j_15) < 8 → v_X10_splice_63 K (x1) (x2) (x3) (r_10) (r_12) (1) S_11))) ∧ (¬ 0 ≤ r_12 → K (2) S_11))))))) ∧ ((xI S 9 j_5) = 0 → K (1) S))))
set_option maxHeartbeats 4000000 in
set_option maxRecDepth 100000 in
theorem j_X10_splice_234 {l : Launch} {p : Program} {e : Env} {s : State} {m : MethodId} {args : Array Value} {below : List Frame} {meth : Method} {c : Code} {Z : xz_T} {et : Nat → Nat} {Nn : Nat → Nat} {K : Int32 → xs_T → Prop} (X : CallFix p m c cX10_splice 12 s args (wq yX10_splice cX10_splice 12 (some .int)) RX10) (hk : xk Z s) (hr : meth.sig.returnType = (some .int)) (hlocks : meth.locks = false) : ∀ (n : Nat) (a2 : Int32) (a3 : Int32) (a5 : Int32) (a6 : Int32) (a11 : Int32) (S : xs_T) (H : Heap) (locs : List Loc) (ls : Array Slot), v_X10_splice_234 K n a2 a3 a5 a6 a11 S → S.2.2.2.2 = Nn → wd Z et S H → xl Z locs → lv_has ls 12 [(0, .ref (et (0))), (2, .int (a2)), (3, .int (a3)), (5, .int (a5)), (6, .int (a6)), (11, .int (a11))] → W p l e (headSpec (wq yX10_splice cX10_splice 12 (some .int)) { frames := 1, cells := 0, slots := 0, locals := 23 }).room s m args below meth c H locs 0 0 (MQ below (xQi Z et Nn K) args s 0 0 (fun q => Z.2.2.1 ≤ q)) (F0 m 234 ls []) := by
  intro n
  induction n with
  | zero =>
    intro a2 a3 a5 a6 a11 S H locs ls h hNN hw hl hv
    exact False.elim h
  | succ n ih =>
    intro a2 a3 a5 a6 a11 S H locs ls h hNN hw hl hv
    rw [v_X10_splice_234] at h
    refine lv_iload X.1 X.2.1 dX10_splice_234 (lv_at hv 5 rfl) ?_
    refine lv_iload_n X.1 X.2.1 dX10_splice_236 rfl (lv_at hv 2 rfl) ?_
    refine lv_icmp_ge (tgt := 304) X.1 X.2.1 dX10_splice_237 (by decide) (fun c_72 => ?_) (fun c_72 => ?_)
    · skip
      replace h := h.1 c_72
      refine lv_iconst (v := 0) X.1 X.2.1 dX10_splice_304 (by decide) ?_
      exact xt_i X hr hlocks hNN hw hl h dX10_splice_305
    · skip
      replace h := h.2 c_72
      refine lv_iload X.1 X.2.1 dX10_splice_240 (lv_at hv 4 rfl) ?_
      refine lv_if_eq (tgt := 269) X.1 X.2.1 dX10_splice_242 (by decide) (fun c_73 => ?_) (fun c_73 => ?_)
      · skip
        replace h := h.1 c_73
        refine lv_aload_n X.1 X.2.1 dX10_splice_269 rfl (lv_at hv 0 rfl) ?_
        refine xw_get X hk hw (i := 0) 5 xe_0 rfl tlX10 (by decide) rfl tw_524 dX10_splice_270 ?_
        refine lv_aload_n X.1 X.2.1 dX10_splice_273 rfl (lv_at hv 0 rfl) ?_
        refine xw_get X hk hw (i := 0) 3 xe_0 rfl tlX10 (by decide) rfl tw_522 dX10_splice_274 ?_
        refine lv_iload X.1 X.2.1 dX10_splice_277 (lv_at hv 3 rfl) ?_
        obtain ⟨j_74, e_75, b_76, h⟩ := h
        refine xw_ild X hk hw xe_3 e_75 b_76 (by decide) dX10_splice_279 ?_
        refine lv_aload_n X.1 X.2.1 dX10_splice_280 rfl (lv_at hv 0 rfl) ?_
        refine xw_get X hk hw (i := 0) 11 xe_0 rfl tlX10 (by decide) rfl tw_530 dX10_splice_281 ?_
        refine lv_iload_n X.1 X.2.1 dX10_splice_284 rfl (lv_at hv 1 rfl) ?_
        obtain ⟨j_77, e_78, b_79, h⟩ := h
        refine xw_ild X hk hw xe_11 e_78 b_79 (by decide) dX10_splice_285 ?_
        refine lv_iadd X.1 X.2.1 dX10_splice_286 ?_
        refine lv_iload X.1 X.2.1 dX10_splice_287 (lv_at hv 5 rfl) ?_
        refine lv_iadd X.1 X.2.1 dX10_splice_289 ?_
        refine lv_aload_n X.1 X.2.1 dX10_splice_290 rfl (lv_at hv 0 rfl) ?_
        refine xw_get X hk hw (i := 0) 22 xe_0 rfl tlX10 (by decide) rfl tw_541 dX10_splice_291 ?_
        refine lv_iload X.1 X.2.1 dX10_splice_294 (lv_at hv 5 rfl) ?_
        obtain ⟨j_80, e_81, b_82, h⟩ := h
        refine xw_lld X hk hw xe_22 e_81 b_82 (by decide) dX10_splice_296 ?_
        obtain ⟨j_83, e_84, b_85, h⟩ := h
        refine xw_lst X hk hw hl xe_5 rfl e_84 b_85 (by decide) dX10_splice_297 (fun H locs hw hl => ?_)
        obtain ⟨S_86, e_87⟩ : ∃ T : xs_T, T = sL S 5 j_83 ((xL S 22 j_80)) := ⟨_, rfl⟩
        rw [← e_87] at hw
        replace h := h S_86 e_87
        have hN : S_86.2.2.2.2 = S.2.2.2.2 := by rw [e_87]; rfl
        replace hNN := hN.trans hNN
        refine lv_iinc (v := (a11 + 1)) (lv' := [(11, .int ((a11 + 1))), (0, .ref (et (0))), (2, .int (a2)), (3, .int (a3)), (5, .int (a5)), (6, .int (a6))]) X.1 X.2.1 dX10_splice_298 hv (k := 5) rfl rfl (by decide) rfl (fun ls hv => ?_)
        refine lv_goto (tgt := 234) X.1 X.2.1 dX10_splice_301 (by decide) ?_
        exact ih (a2) (a3) (a5) (a6) ((a11 + 1)) S_86 _ _ _ h hNN hw hl (lv_sub hv [1, 2, 3, 4, 5, 0] rfl)
      · skip
        replace h := h.2 c_73
        refine lv_aload_n X.1 X.2.1 dX10_splice_245 rfl (lv_at hv 0 rfl) ?_
        refine lv_aload_n X.1 X.2.1 dX10_splice_246 rfl (lv_at hv 0 rfl) ?_
        refine xw_get X hk hw (i := 0) 1 xe_0 rfl tlX10 (by decide) rfl tw_520 dX10_splice_247 ?_
        refine lv_iload X.1 X.2.1 dX10_splice_250 (lv_at hv 3 rfl) ?_
        obtain ⟨j_88, e_89, b_90, h⟩ := h
        refine xw_ild X hk hw xe_1 e_89 b_90 (by decide) dX10_splice_252 ?_
        refine lv_aload_n X.1 X.2.1 dX10_splice_253 rfl (lv_at hv 0 rfl) ?_
        refine xw_get X hk hw (i := 0) 22 xe_0 rfl tlX10 (by decide) rfl tw_541 dX10_splice_254 ?_
        refine lv_iload X.1 X.2.1 dX10_splice_257 (lv_at hv 5 rfl) ?_
        obtain ⟨j_91, e_92, b_93, h⟩ := h
        refine xw_lld X hk hw xe_22 e_92 b_93 (by decide) dX10_splice_259 ?_
        refine lv_l2i (v := ((xL S 22 j_91)).toInt32) X.1 X.2.1 dX10_splice_260 rfl ?_
        refine xc_i (xr_V (n := 2) (As := [.int ((xI S 1 j_88)), .int (((xL S 22 j_91)).toInt32)]) (i := 0) X hk hw hv.1 (c_X10_canHave l Z et S ((xI S 1 j_88)) (((xL S 22 j_91)).toInt32) _ h) (tb_V tw_641 tw_638 tw_640 tw_21 tw_44) xe_0 rfl rfl rfl rfl (by decide +kernel) ⟨Nat.le_of_ble_eq_true rfl, Nat.le_of_ble_eq_true rfl⟩ rfl (Nat.le_of_ble_eq_true rfl) dX10_splice_261 ⟨Nat.le_of_ble_eq_true rfl, Nat.le_of_ble_eq_true rfl⟩) hl (fun r_95 S_94 H locs h hN hw hl => ?_)
        replace hNN := hN.trans hNN
        refine lv_if_ne (tgt := 269) X.1 X.2.1 dX10_splice_264 (by decide) (fun c_96 => ?_) (fun c_96 => ?_)
        · skip
          replace h := h.1 c_96
          refine lv_aload_n X.1 X.2.1 dX10_splice_269 rfl (lv_at hv 0 rfl) ?_
          refine xw_get X hk hw (i := 0) 5 xe_0 rfl tlX10 (by decide) rfl tw_524 dX10_splice_270 ?_
          refine lv_aload_n X.1 X.2.1 dX10_splice_273 rfl (lv_at hv 0 rfl) ?_
          refine xw_get X hk hw (i := 0) 3 xe_0 rfl tlX10 (by decide) rfl tw_522 dX10_splice_274 ?_
          refine lv_iload X.1 X.2.1 dX10_splice_277 (lv_at hv 3 rfl) ?_
          obtain ⟨j_97, e_98, b_99, h⟩ := h
          refine xw_ild X hk hw xe_3 e_98 b_99 (by decide) dX10_splice_279 ?_
          refine lv_aload_n X.1 X.2.1 dX10_splice_280 rfl (lv_at hv 0 rfl) ?_
          refine xw_get X hk hw (i := 0) 11 xe_0 rfl tlX10 (by decide) rfl tw_530 dX10_splice_281 ?_
          refine lv_iload_n X.1 X.2.1 dX10_splice_284 rfl (lv_at hv 1 rfl) ?_
          obtain ⟨j_100, e_101, b_102, h⟩ := h
          refine xw_ild X hk hw xe_11 e_101 b_102 (by decide) dX10_splice_285 ?_
          refine lv_iadd X.1 X.2.1 dX10_splice_286 ?_
          refine lv_iload X.1 X.2.1 dX10_splice_287 (lv_at hv 5 rfl) ?_
          refine lv_iadd X.1 X.2.1 dX10_splice_289 ?_
          refine lv_aload_n X.1 X.2.1 dX10_splice_290 rfl (lv_at hv 0 rfl) ?_
          refine xw_get X hk hw (i := 0) 22 xe_0 rfl tlX10 (by decide) rfl tw_541 dX10_splice_291 ?_
          refine lv_iload X.1 X.2.1 dX10_splice_294 (lv_at hv 5 rfl) ?_
          obtain ⟨j_103, e_104, b_105, h⟩ := h
          refine xw_lld X hk hw xe_22 e_104 b_105 (by decide) dX10_splice_296 ?_
          obtain ⟨j_106, e_107, b_108, h⟩ := h
          refine xw_lst X hk hw hl xe_5 rfl e_107 b_108 (by decide) dX10_splice_297 (fun H locs hw hl => ?_)
          obtain ⟨S_109, e_110⟩ : ∃ T : xs_T, T = sL S_94 5 j_106 ((xL S_94 22 j_103)) := ⟨_, rfl⟩
          rw [← e_110] at hw
          replace h := h S_109 e_110
          have hN : S_109.2.2.2.2 = S_94.2.2.2.2 := by rw [e_110]; rfl
          replace hNN := hN.trans hNN
          refine lv_iinc (v := (a11 + 1)) (lv' := [(11, .int ((a11 + 1))), (0, .ref (et (0))), (2, .int (a2)), (3, .int (a3)), (5, .int (a5)), (6, .int (a6))]) X.1 X.2.1 dX10_splice_298 hv (k := 5) rfl rfl (by decide) rfl (fun ls hv => ?_)
          refine lv_goto (tgt := 234) X.1 X.2.1 dX10_splice_301 (by decide) ?_
          exact ih (a2) (a3) (a5) (a6) ((a11 + 1)) S_109 _ _ _ h hNN hw hl (lv_sub hv [1, 2, 3, 4, 5, 0] rfl)
        · skip
          replace h := h.2 c_96
          refine lv_iconst (v := 2) X.1 X.2.1 dX10_splice_267 (by decide) ?_
          exact xt_i X hr hlocks hNN hw hl h dX10_splice_268
set_option maxHeartbeats 4000000 in
set_option maxRecDepth 100000 in
theorem j_X10_splice_190 {l : Launch} {p : Program} {e : Env} {s : State} {m : MethodId} {args : Array Value} {below : List Frame} {meth : Method} {c : Code} {Z : xz_T} {et : Nat → Nat} {Nn : Nat → Nat} {K : Int32 → xs_T → Prop} (X : CallFix p m c cX10_splice 12 s args (wq yX10_splice cX10_splice 12 (some .int)) RX10) (hk : xk Z s) (hr : meth.sig.returnType = (some .int)) (hlocks : meth.locks = false) : ∀ (n : Nat) (a1 : Int32) (a2 : Int32) (a3 : Int32) (a4 : Int32) (a5 : Int32) (a6 : Int32) (a11 : Int32) (S : xs_T) (H : Heap) (locs : List Loc) (ls : Array Slot), v_X10_splice_190 K n a1 a2 a3 a4 a5 a6 a11 S → S.2.2.2.2 = Nn → wd Z et S H → xl Z locs → lv_has ls 12 [(0, .ref (et (0))), (1, .int (a1)), (2, .int (a2)), (3, .int (a3)), (4, .int (a4)), (5, .int (a5)), (6, .int (a6)), (11, .int (a11))] → W p l e (headSpec (wq yX10_splice cX10_splice 12 (some .int)) { frames := 1, cells := 0, slots := 0, locals := 23 }).room s m args below meth c H locs 0 0 (MQ below (xQi Z et Nn K) args s 0 0 (fun q => Z.2.2.1 ≤ q)) (F0 m 190 ls []) := by
  intro n
  induction n with
  | zero =>
    intro a1 a2 a3 a4 a5 a6 a11 S H locs ls h hNN hw hl hv
    exact False.elim h
  | succ n ih =>
    intro a1 a2 a3 a4 a5 a6 a11 S H locs ls h hNN hw hl hv
    rw [v_X10_splice_190] at h
    refine lv_iload X.1 X.2.1 dX10_splice_190 (lv_at hv 7 rfl) ?_
    refine lv_iload_n X.1 X.2.1 dX10_splice_192 rfl (lv_at hv 3 rfl) ?_
    refine lv_icmp_ge (tgt := 231) X.1 X.2.1 dX10_splice_193 (by decide) (fun c_56 => ?_) (fun c_56 => ?_)
    · skip
      replace h := h.1 c_56
      refine lv_iconst (v := 0) X.1 X.2.1 dX10_splice_231 (by decide) ?_
      refine lv_istore (lv' := [(11, .int (0)), (0, .ref (et (0))), (1, .int (a1)), (2, .int (a2)), (3, .int (a3)), (4, .int (a4)), (5, .int (a5)), (6, .int (a6))]) X.1 X.2.1 dX10_splice_232 hv (by decide) rfl (fun ls hv => ?_)
      obtain ⟨n_57, h⟩ := h
      exact j_X10_splice_234 X hk hr hlocks n_57 (a2) (a3) (a5) (a6) (0) S _ _ _ h hNN hw hl (lv_sub hv [1, 3, 4, 6, 7, 0] rfl)
    · skip
      replace h := h.2 c_56
      refine lv_aload_n X.1 X.2.1 dX10_splice_196 rfl (lv_at hv 0 rfl) ?_
      refine xw_get X hk hw (i := 0) 22 xe_0 rfl tlX10 (by decide) rfl tw_541 dX10_splice_197 ?_
      refine lv_iload X.1 X.2.1 dX10_splice_200 (lv_at hv 7 rfl) ?_
      refine lv_aload_n X.1 X.2.1 dX10_splice_202 rfl (lv_at hv 0 rfl) ?_
      refine xw_get X hk hw (i := 0) 5 xe_0 rfl tlX10 (by decide) rfl tw_524 dX10_splice_203 ?_
      refine lv_aload_n X.1 X.2.1 dX10_splice_206 rfl (lv_at hv 0 rfl) ?_
      refine xw_get X hk hw (i := 0) 3 xe_0 rfl tlX10 (by decide) rfl tw_522 dX10_splice_207 ?_
      refine lv_iload X.1 X.2.1 dX10_splice_210 (lv_at hv 4 rfl) ?_
      obtain ⟨j_58, e_59, b_60, h⟩ := h
      refine xw_ild X hk hw xe_3 e_59 b_60 (by decide) dX10_splice_212 ?_
      refine lv_aload_n X.1 X.2.1 dX10_splice_213 rfl (lv_at hv 0 rfl) ?_
      refine xw_get X hk hw (i := 0) 11 xe_0 rfl tlX10 (by decide) rfl tw_530 dX10_splice_214 ?_
      refine lv_iload_n X.1 X.2.1 dX10_splice_217 rfl (lv_at hv 1 rfl) ?_
      obtain ⟨j_61, e_62, b_63, h⟩ := h
      refine xw_ild X hk hw xe_11 e_62 b_63 (by decide) dX10_splice_218 ?_
      refine lv_iadd X.1 X.2.1 dX10_splice_219 ?_
      refine lv_iload X.1 X.2.1 dX10_splice_220 (lv_at hv 7 rfl) ?_
      refine lv_iadd X.1 X.2.1 dX10_splice_222 ?_
      obtain ⟨j_64, e_65, b_66, h⟩ := h
      refine xw_lld X hk hw xe_5 e_65 b_66 (by decide) dX10_splice_223 ?_
      obtain ⟨j_67, e_68, b_69, h⟩ := h
      refine xw_lst X hk hw hl xe_22 rfl e_68 b_69 (by decide) dX10_splice_224 (fun H locs hw hl => ?_)
      obtain ⟨S_70, e_71⟩ : ∃ T : xs_T, T = sL S 22 j_67 ((xL S 5 j_64)) := ⟨_, rfl⟩
      rw [← e_71] at hw
      replace h := h S_70 e_71
      have hN : S_70.2.2.2.2 = S.2.2.2.2 := by rw [e_71]; rfl
      replace hNN := hN.trans hNN
      refine lv_iinc (v := (a11 + 1)) (lv' := [(11, .int ((a11 + 1))), (0, .ref (et (0))), (1, .int (a1)), (2, .int (a2)), (3, .int (a3)), (4, .int (a4)), (5, .int (a5)), (6, .int (a6))]) X.1 X.2.1 dX10_splice_225 hv (k := 7) rfl rfl (by decide) rfl (fun ls hv => ?_)
      refine lv_goto (tgt := 190) X.1 X.2.1 dX10_splice_228 (by decide) ?_
      exact ih (a1) (a2) (a3) (a4) (a5) (a6) ((a11 + 1)) S_70 _ _ _ h hNN hw hl (lv_sub hv [1, 2, 3, 4, 5, 6, 7, 0] rfl)
set_option maxHeartbeats 4000000 in
set_option maxRecDepth 100000 in
theorem j_X10_splice_111 {l : Launch} {p : Program} {e : Env} {s : State} {m : MethodId} {args : Array Value} {below : List Frame} {meth : Method} {c : Code} {Z : xz_T} {et : Nat → Nat} {Nn : Nat → Nat} {K : Int32 → xs_T → Prop} (X : CallFix p m c cX10_splice 12 s args (wq yX10_splice cX10_splice 12 (some .int)) RX10) (hk : xk Z s) (hr : meth.sig.returnType = (some .int)) (hlocks : meth.locks = false) : ∀ (a1 : Int32) (a2 : Int32) (a3 : Int32) (a4 : Int32) (a5 : Int32) (a6 : Int32) (S : xs_T) (H : Heap) (locs : List Loc) (ls : Array Slot), v_X10_splice_111 K a1 a2 a3 a4 a5 a6 S → S.2.2.2.2 = Nn → wd Z et S H → xl Z locs → lv_has ls 12 [(0, .ref (et (0))), (1, .int (a1)), (2, .int (a2)), (3, .int (a3)), (4, .int (a4)), (5, .int (a5)), (6, .int (a6))] → W p l e (headSpec (wq yX10_splice cX10_splice 12 (some .int)) { frames := 1, cells := 0, slots := 0, locals := 23 }).room s m args below meth c H locs 0 0 (MQ below (xQi Z et Nn K) args s 0 0 (fun q => Z.2.2.1 ≤ q)) (F0 m 111 ls []) := by
  intro a1 a2 a3 a4 a5 a6 S H locs ls h hNN hw hl hv
  unfold v_X10_splice_111 at h
  refine lv_aload_n X.1 X.2.1 dX10_splice_111 rfl (lv_at hv 0 rfl) ?_
  refine xw_get X hk hw (i := 0) 11 xe_0 rfl tlX10 (by decide) rfl tw_530 dX10_splice_112 ?_
  refine lv_iload_n X.1 X.2.1 dX10_splice_115 rfl (lv_at hv 1 rfl) ?_
  obtain ⟨j_32, e_33, b_34, h⟩ := h
  refine xw_ild X hk hw xe_11 e_33 b_34 (by decide) dX10_splice_116 ?_
  refine lv_i2l (v := ((xI S 11 j_32)).toInt64) X.1 X.2.1 dX10_splice_117 rfl ?_
  refine lv_iload_n X.1 X.2.1 dX10_splice_118 rfl (lv_at hv 3 rfl) ?_
  refine lv_i2l (v := (a3).toInt64) X.1 X.2.1 dX10_splice_119 rfl ?_
  refine lv_ladd X.1 X.2.1 dX10_splice_120 ?_
  refine lv_lstore (lv' := [(7, .long ((((xI S 11 j_32)).toInt64 + (a3).toInt64))), (0, .ref (et (0))), (1, .int (a1)), (2, .int (a2)), (3, .int (a3)), (4, .int (a4)), (5, .int (a5)), (6, .int (a6))]) X.1 X.2.1 dX10_splice_121 hv (by decide) rfl (fun ls hv => ?_)
  refine lv_aload_n X.1 X.2.1 dX10_splice_123 rfl (lv_at hv 1 rfl) ?_
  refine xw_get X hk hw (i := 0) 11 xe_0 rfl tlX10 (by decide) rfl tw_530 dX10_splice_124 ?_
  refine lv_iload_n X.1 X.2.1 dX10_splice_127 rfl (lv_at hv 3 rfl) ?_
  obtain ⟨j_35, e_36, b_37, h⟩ := h
  refine xw_ild X hk hw xe_11 e_36 b_37 (by decide) dX10_splice_128 ?_
  refine lv_i2l (v := ((xI S 11 j_35)).toInt64) X.1 X.2.1 dX10_splice_129 rfl ?_
  refine lv_iload_n X.1 X.2.1 dX10_splice_130 rfl (lv_at hv 4 rfl) ?_
  refine lv_i2l (v := (a3).toInt64) X.1 X.2.1 dX10_splice_131 rfl ?_
  refine lv_ladd X.1 X.2.1 dX10_splice_132 ?_
  refine lv_lstore (lv' := [(9, .long ((((xI S 11 j_35)).toInt64 + (a3).toInt64))), (7, .long ((((xI S 11 j_32)).toInt64 + (a3).toInt64))), (0, .ref (et (0))), (1, .int (a1)), (2, .int (a2)), (3, .int (a3)), (4, .int (a4)), (5, .int (a5)), (6, .int (a6))]) X.1 X.2.1 dX10_splice_133 hv (by decide) rfl (fun ls hv => ?_)
  refine lv_aload_n X.1 X.2.1 dX10_splice_135 rfl (lv_at hv 2 rfl) ?_
  refine xw_get X hk hw (i := 0) 11 xe_0 rfl tlX10 (by decide) rfl tw_530 dX10_splice_136 ?_
  refine lv_iload_n X.1 X.2.1 dX10_splice_139 rfl (lv_at hv 3 rfl) ?_
  obtain ⟨j_38, e_39, b_40, h⟩ := h
  refine xw_ild X hk hw xe_11 e_39 b_40 (by decide) dX10_splice_140 ?_
  refine lv_if_lt (tgt := 185) X.1 X.2.1 dX10_splice_141 (by decide) (fun c_41 => ?_) (fun c_41 => ?_)
  · skip
    replace h := h.1 c_41
    refine lv_iconst (v := 3) X.1 X.2.1 dX10_splice_185 (by decide) ?_
    exact xt_i X hr hlocks hNN hw hl h dX10_splice_186
  · skip
    replace h := h.2 c_41
    refine lv_aload_n X.1 X.2.1 dX10_splice_144 rfl (lv_at hv 2 rfl) ?_
    refine xw_get X hk hw (i := 0) 11 xe_0 rfl tlX10 (by decide) rfl tw_530 dX10_splice_145 ?_
    refine lv_iload_n X.1 X.2.1 dX10_splice_148 rfl (lv_at hv 4 rfl) ?_
    obtain ⟨j_42, e_43, b_44, h⟩ := h
    refine xw_ild X hk hw xe_11 e_43 b_44 (by decide) dX10_splice_149 ?_
    refine lv_if_lt (tgt := 185) X.1 X.2.1 dX10_splice_150 (by decide) (fun c_45 => ?_) (fun c_45 => ?_)
    · skip
      replace h := h.1 c_45
      refine lv_iconst (v := 3) X.1 X.2.1 dX10_splice_185 (by decide) ?_
      exact xt_i X hr hlocks hNN hw hl h dX10_splice_186
    · skip
      replace h := h.2 c_45
      refine lv_iload_n X.1 X.2.1 dX10_splice_153 rfl (lv_at hv 5 rfl) ?_
      refine lv_if_lt (tgt := 185) X.1 X.2.1 dX10_splice_154 (by decide) (fun c_46 => ?_) (fun c_46 => ?_)
      · skip
        replace h := h.1 c_46
        refine lv_iconst (v := 3) X.1 X.2.1 dX10_splice_185 (by decide) ?_
        exact xt_i X hr hlocks hNN hw hl h dX10_splice_186
      · skip
        replace h := h.2 c_46
        refine lv_lload X.1 X.2.1 dX10_splice_157 (lv_at hv 1 rfl) ?_
        refine lv_aload_n X.1 X.2.1 dX10_splice_159 rfl (lv_at hv 2 rfl) ?_
        refine xw_get X hk hw (i := 0) 2 xe_0 rfl tlX10 (by decide) rfl tw_521 dX10_splice_160 ?_
        refine lv_iload X.1 X.2.1 dX10_splice_163 (lv_at hv 6 rfl) ?_
        obtain ⟨j_47, e_48, b_49, h⟩ := h
        refine xw_ild X hk hw xe_2 e_48 b_49 (by decide) dX10_splice_165 ?_
        refine lv_i2l (v := ((xI S 2 j_47)).toInt64) X.1 X.2.1 dX10_splice_166 rfl ?_
        refine W.lcmp X.1 X.2.1 dX10_splice_167 ?_
        refine lv_if_gt (tgt := 185) X.1 X.2.1 dX10_splice_168 (by decide) (fun c_50 => ?_) (fun c_50 => ?_)
        · skip
          replace c_50 := (lg_cmp_gt _ _).mp c_50
          replace h := h.1 c_50
          refine lv_iconst (v := 3) X.1 X.2.1 dX10_splice_185 (by decide) ?_
          exact xt_i X hr hlocks hNN hw hl h dX10_splice_186
        · skip
          replace c_50 := fun q => c_50 ((lg_cmp_gt _ _).mpr q)
          replace h := h.2 c_50
          refine lv_lload X.1 X.2.1 dX10_splice_171 (lv_at hv 0 rfl) ?_
          refine lv_aload_n X.1 X.2.1 dX10_splice_173 rfl (lv_at hv 2 rfl) ?_
          refine xw_get X hk hw (i := 0) 2 xe_0 rfl tlX10 (by decide) rfl tw_521 dX10_splice_174 ?_
          refine lv_iload X.1 X.2.1 dX10_splice_177 (lv_at hv 7 rfl) ?_
          obtain ⟨j_51, e_52, b_53, h⟩ := h
          refine xw_ild X hk hw xe_2 e_52 b_53 (by decide) dX10_splice_179 ?_
          refine lv_i2l (v := ((xI S 2 j_51)).toInt64) X.1 X.2.1 dX10_splice_180 rfl ?_
          refine W.lcmp X.1 X.2.1 dX10_splice_181 ?_
          refine lv_if_le (tgt := 187) X.1 X.2.1 dX10_splice_182 (by decide) (fun c_54 => ?_) (fun c_54 => ?_)
          · skip
            replace c_54 := (lg_cmp_le _ _).mp c_54
            replace h := h.1 c_54
            refine lv_iconst (v := 0) X.1 X.2.1 dX10_splice_187 (by decide) ?_
            refine lv_istore (lv' := [(11, .int (0)), (9, .long ((((xI S 11 j_35)).toInt64 + (a3).toInt64))), (7, .long ((((xI S 11 j_32)).toInt64 + (a3).toInt64))), (0, .ref (et (0))), (1, .int (a1)), (2, .int (a2)), (3, .int (a3)), (4, .int (a4)), (5, .int (a5)), (6, .int (a6))]) X.1 X.2.1 dX10_splice_188 hv (by decide) rfl (fun ls hv => ?_)
            obtain ⟨n_55, h⟩ := h
            exact j_X10_splice_190 X hk hr hlocks n_55 (a1) (a2) (a3) (a4) (a5) (a6) (0) S _ _ _ h hNN hw hl (lv_sub hv [3, 4, 5, 6, 7, 8, 9, 0] rfl)
          · skip
            replace c_54 := fun q => c_54 ((lg_cmp_le _ _).mpr q)
            replace h := h.2 c_54
            refine lv_iconst (v := 3) X.1 X.2.1 dX10_splice_185 (by decide) ?_
            exact xt_i X hr hlocks hNN hw hl h dX10_splice_186
set_option maxHeartbeats 4000000 in
set_option maxRecDepth 100000 in
theorem j_X10_splice_84 {l : Launch} {p : Program} {e : Env} {s : State} {m : MethodId} {args : Array Value} {below : List Frame} {meth : Method} {c : Code} {Z : xz_T} {et : Nat → Nat} {Nn : Nat → Nat} {K : Int32 → xs_T → Prop} (X : CallFix p m c cX10_splice 12 s args (wq yX10_splice cX10_splice 12 (some .int)) RX10) (hk : xk Z s) (hr : meth.sig.returnType = (some .int)) (hlocks : meth.locks = false) : ∀ (a1 : Int32) (a2 : Int32) (a3 : Int32) (a4 : Int32) (a5 : Int32) (a6 : Int32) (t0 : Int32) (t1 : Int32) (S : xs_T) (H : Heap) (locs : List Loc) (ls : Array Slot), v_X10_splice_84 K a1 a2 a3 a4 a5 a6 t0 t1 S → S.2.2.2.2 = Nn → wd Z et S H → xl Z locs → lv_has ls 12 [(0, .ref (et (0))), (1, .int (a1)), (2, .int (a2)), (3, .int (a3)), (4, .int (a4)), (5, .int (a5)), (6, .int (a6))] → W p l e (headSpec (wq yX10_splice cX10_splice 12 (some .int)) { frames := 1, cells := 0, slots := 0, locals := 23 }).room s m args below meth c H locs 0 0 (MQ below (xQi Z et Nn K) args s 0 0 (fun q => Z.2.2.1 ≤ q)) (F0 m 84 ls [.int (t0), .int (t1)]) := by
  intro a1 a2 a3 a4 a5 a6 t0 t1 S H locs ls h hNN hw hl hv
  unfold v_X10_splice_84 at h
  refine lv_icmp_ne (tgt := 109) X.1 X.2.1 dX10_splice_84 (by decide) (fun c_23 => ?_) (fun c_23 => ?_)
  · skip
    replace h := h.1 c_23
    refine lv_iconst (v := 2) X.1 X.2.1 dX10_splice_109 (by decide) ?_
    exact xt_i X hr hlocks hNN hw hl h dX10_splice_110
  · skip
    replace h := h.2 c_23
    refine lv_iload X.1 X.2.1 dX10_splice_87 (lv_at hv 6 rfl) ?_
    refine lv_if_ne (tgt := 111) X.1 X.2.1 dX10_splice_89 (by decide) (fun c_24 => ?_) (fun c_24 => ?_)
    · skip
      replace h := h.1 c_24
      exact j_X10_splice_111 X hk hr hlocks (a1) (a2) (a3) (a4) (a5) (a6) S _ _ _ h hNN hw hl (lv_sub hv [0, 1, 2, 3, 4, 5, 6] rfl)
    · skip
      replace h := h.2 c_24
      refine lv_aload_n X.1 X.2.1 dX10_splice_92 rfl (lv_at hv 0 rfl) ?_
      refine xw_get X hk hw (i := 0) 1 xe_0 rfl tlX10 (by decide) rfl tw_520 dX10_splice_93 ?_
      refine lv_iload X.1 X.2.1 dX10_splice_96 (lv_at hv 4 rfl) ?_
      obtain ⟨j_25, e_26, b_27, h⟩ := h
      refine xw_ild X hk hw xe_1 e_26 b_27 (by decide) dX10_splice_98 ?_
      refine lv_aload_n X.1 X.2.1 dX10_splice_99 rfl (lv_at hv 0 rfl) ?_
      refine xw_get X hk hw (i := 0) 1 xe_0 rfl tlX10 (by decide) rfl tw_520 dX10_splice_100 ?_
      refine lv_iload X.1 X.2.1 dX10_splice_103 (lv_at hv 5 rfl) ?_
      obtain ⟨j_28, e_29, b_30, h⟩ := h
      refine xw_ild X hk hw xe_1 e_29 b_30 (by decide) dX10_splice_105 ?_
      refine lv_icmp_eq (tgt := 111) X.1 X.2.1 dX10_splice_106 (by decide) (fun c_31 => ?_) (fun c_31 => ?_)
      · skip
        replace h := h.1 c_31
        exact j_X10_splice_111 X hk hr hlocks (a1) (a2) (a3) (a4) (a5) (a6) S _ _ _ h hNN hw hl (lv_sub hv [0, 1, 2, 3, 4, 5, 6] rfl)
      · skip
        replace h := h.2 c_31
        refine lv_iconst (v := 2) X.1 X.2.1 dX10_splice_109 (by decide) ?_
        exact xt_i X hr hlocks hNN hw hl h dX10_splice_110
set_option maxHeartbeats 4000000 in
set_option maxRecDepth 100000 in
theorem j_X10_splice_63 {l : Launch} {p : Program} {e : Env} {s : State} {m : MethodId} {args : Array Value} {below : List Frame} {meth : Method} {c : Code} {Z : xz_T} {et : Nat → Nat} {Nn : Nat → Nat} {K : Int32 → xs_T → Prop} (X : CallFix p m c cX10_splice 12 s args (wq yX10_splice cX10_splice 12 (some .int)) RX10) (hk : xk Z s) (hr : meth.sig.returnType = (some .int)) (hlocks : meth.locks = false) : ∀ (a1 : Int32) (a2 : Int32) (a3 : Int32) (a4 : Int32) (a5 : Int32) (t0 : Int32) (S : xs_T) (H : Heap) (locs : List Loc) (ls : Array Slot), v_X10_splice_63 K a1 a2 a3 a4 a5 t0 S → S.2.2.2.2 = Nn → wd Z et S H → xl Z locs → lv_has ls 12 [(0, .ref (et (0))), (1, .int (a1)), (2, .int (a2)), (3, .int (a3)), (4, .int (a4)), (5, .int (a5))] → W p l e (headSpec (wq yX10_splice cX10_splice 12 (some .int)) { frames := 1, cells := 0, slots := 0, locals := 23 }).room s m args below meth c H locs 0 0 (MQ below (xQi Z et Nn K) args s 0 0 (fun q => Z.2.2.1 ≤ q)) (F0 m 63 ls [.int (t0)]) := by
  intro a1 a2 a3 a4 a5 t0 S H locs ls h hNN hw hl hv
  unfold v_X10_splice_63 at h
  refine lv_istore (lv' := [(6, .int (t0)), (0, .ref (et (0))), (1, .int (a1)), (2, .int (a2)), (3, .int (a3)), (4, .int (a4)), (5, .int (a5))]) X.1 X.2.1 dX10_splice_63 hv (by decide) rfl (fun ls hv => ?_)
  refine lv_iload X.1 X.2.1 dX10_splice_65 (lv_at hv 0 rfl) ?_
  refine lv_aload_n X.1 X.2.1 dX10_splice_67 rfl (lv_at hv 1 rfl) ?_
  refine xw_get X hk hw (i := 0) 1 xe_0 rfl tlX10 (by decide) rfl tw_520 dX10_splice_68 ?_
  refine lv_iload X.1 X.2.1 dX10_splice_71 (lv_at hv 6 rfl) ?_
  obtain ⟨j_19, e_20, b_21, h⟩ := h
  refine xw_ild X hk hw xe_1 e_20 b_21 (by decide) dX10_splice_73 ?_
  refine lv_bipush (v := 8) X.1 X.2.1 dX10_splice_74 (by decide) ?_
  refine lv_icmp_lt (tgt := 83) X.1 X.2.1 dX10_splice_76 (by decide) (fun c_22 => ?_) (fun c_22 => ?_)
  · skip
    replace h := h.1 c_22
    refine lv_iconst (v := 0) X.1 X.2.1 dX10_splice_83 (by decide) ?_
    exact j_X10_splice_84 X hk hr hlocks (a1) (a2) (a3) (a4) (a5) (t0) (0) (t0) S _ _ _ h hNN hw hl (lv_sub hv [1, 2, 3, 4, 5, 6, 0] rfl)
  · skip
    replace h := h.2 c_22
    refine lv_iconst (v := 1) X.1 X.2.1 dX10_splice_79 (by decide) ?_
    refine lv_goto (tgt := 84) X.1 X.2.1 dX10_splice_80 (by decide) ?_
    exact j_X10_splice_84 X hk hr hlocks (a1) (a2) (a3) (a4) (a5) (t0) (1) (t0) S _ _ _ h hNN hw hl (lv_sub hv [1, 2, 3, 4, 5, 6, 0] rfl)
set_option maxHeartbeats 4000000 in
set_option maxRecDepth 100000 in
theorem c_X10_splice (l : Launch) (Z : xz_T) (et : Nat → Nat) (S : xs_T) (x1 : Int32) (x2 : Int32) (x3 : Int32) (K : Int32 → xs_T → Prop) (h : v_X10_splice x1 x2 x3 S K) : Met l yX10_splice (wq yX10_splice cX10_splice 12 (some .int)) { frames := 1, cells := 0, slots := 0, locals := 23 } (xPc Z et S [.ref (et (0)), .int (x1), .int (x2), .int (x3)]) (xQi Z et S.2.2.2.2 K) 0 0 (fun q => Z.2.2.1 ≤ q) := by
  refine Met.ofW (cc := cX10_splice) (maxL := 12) (ret := (some .int)) (by decide +kernel) rfl ?_
  intro p e s m args below meth c s₁ B hml hv0
  obtain ⟨rfl, hk, hw⟩ := hv0
  have X : CallFix p m c cX10_splice 12 s _ (wq yX10_splice cX10_splice 12 (some .int)) RX10 := ⟨B.exec, B.bytes, hml, findClass_of_methodNamed B.named, atoms_spec (ws := (wq yX10_splice cX10_splice 12 (some .int))) B.pre⟩
  have hr := B.returns
  have hlocks := B.notSynchronized
  have hl : xl Z [] := fun _ h => by cases h
  have hNN : S.2.2.2.2 = S.2.2.2.2 := rfl
  have hv := lv_entry [.ref (et (0)), .int (x1), .int (x2), .int (x3)] (n := 12) (Nat.le_of_ble_eq_true rfl)
  rw [lg_entry_eq]
  generalize (lg_sl [.ref (et (0)), .int (x1), .int (x2), .int (x3)] ++ List.replicate (12 - (lg_sl [.ref (et (0)), .int (x1), .int (x2), .int (x3)]).length) Slot.unset).toArray = ls at hv ⊢
  replace hv : lv_has ls 12 [(0, .ref (et (0))), (1, .int (x1)), (2, .int (x2)), (3, .int (x3))] := hv
  unfold v_X10_splice at h
  refine lv_aload_n X.1 X.2.1 dX10_splice_0 rfl (lv_at hv 0 rfl) ?_
  refine xw_get X hk hw (i := 0) 9 xe_0 rfl tlX10 (by decide) rfl tw_528 dX10_splice_1 ?_
  refine lv_iload_n X.1 X.2.1 dX10_splice_4 rfl (lv_at hv 1 rfl) ?_
  obtain ⟨j_1, e_2, b_3, h⟩ := h
  refine xw_ild X hk hw xe_9 e_2 b_3 (by decide) dX10_splice_5 ?_
  refine lv_if_eq (tgt := 18) X.1 X.2.1 dX10_splice_6 (by decide) (fun c_4 => ?_) (fun c_4 => ?_)
  · skip
    replace h := h.1 c_4
    refine lv_iconst (v := 1) X.1 X.2.1 dX10_splice_18 (by decide) ?_
    exact xt_i X hr hlocks hNN hw hl h dX10_splice_19
  · skip
    replace h := h.2 c_4
    refine lv_aload_n X.1 X.2.1 dX10_splice_9 rfl (lv_at hv 0 rfl) ?_
    refine xw_get X hk hw (i := 0) 9 xe_0 rfl tlX10 (by decide) rfl tw_528 dX10_splice_10 ?_
    refine lv_iload_n X.1 X.2.1 dX10_splice_13 rfl (lv_at hv 2 rfl) ?_
    obtain ⟨j_5, e_6, b_7, h⟩ := h
    refine xw_ild X hk hw xe_9 e_6 b_7 (by decide) dX10_splice_14 ?_
    refine lv_if_ne (tgt := 20) X.1 X.2.1 dX10_splice_15 (by decide) (fun c_8 => ?_) (fun c_8 => ?_)
    · skip
      replace h := h.1 c_8
      refine lv_aload_n X.1 X.2.1 dX10_splice_20 rfl (lv_at hv 0 rfl) ?_
      refine lv_iload_n X.1 X.2.1 dX10_splice_21 rfl (lv_at hv 1 rfl) ?_
      refine xc_i (xr_V (n := 1) (As := [.int (x1)]) (i := 0) X hk hw hv.1 (c_X10_rowOn l Z et S (x1) _ h) (tb_V tw_629 tw_626 tw_628 tw_18 tw_44) xe_0 rfl rfl rfl rfl (by decide +kernel) ⟨Nat.le_of_ble_eq_true rfl, Nat.le_of_ble_eq_true rfl⟩ rfl (Nat.le_of_ble_eq_true rfl) dX10_splice_22 ⟨Nat.le_of_ble_eq_true rfl, Nat.le_of_ble_eq_true rfl⟩) hl (fun r_10 S_9 H locs h hN hw hl => ?_)
      replace hNN := hN.trans hNN
      refine lv_istore (lv' := [(4, .int (r_10)), (0, .ref (et (0))), (1, .int (x1)), (2, .int (x2)), (3, .int (x3))]) X.1 X.2.1 dX10_splice_25 hv (by decide) rfl (fun ls hv => ?_)
      refine lv_aload_n X.1 X.2.1 dX10_splice_27 rfl (lv_at hv 1 rfl) ?_
      refine lv_iload_n X.1 X.2.1 dX10_splice_28 rfl (lv_at hv 3 rfl) ?_
      refine xc_i (xr_V (n := 1) (As := [.int (x2)]) (i := 0) X hk hw hv.1 (c_X10_rowOn l Z et S_9 (x2) _ h) (tb_V tw_629 tw_626 tw_628 tw_18 tw_44) xe_0 rfl rfl rfl rfl (by decide +kernel) ⟨Nat.le_of_ble_eq_true rfl, Nat.le_of_ble_eq_true rfl⟩ rfl (Nat.le_of_ble_eq_true rfl) dX10_splice_29 ⟨Nat.le_of_ble_eq_true rfl, Nat.le_of_ble_eq_true rfl⟩) hl (fun r_12 S_11 H locs h hN hw hl => ?_)
      replace hNN := hN.trans hNN
      refine lv_istore (lv' := [(5, .int (r_12)), (4, .int (r_10)), (0, .ref (et (0))), (1, .int (x1)), (2, .int (x2)), (3, .int (x3))]) X.1 X.2.1 dX10_splice_32 hv (by decide) rfl (fun ls hv => ?_)
      refine lv_iload X.1 X.2.1 dX10_splice_34 (lv_at hv 1 rfl) ?_
      refine lv_if_lt (tgt := 44) X.1 X.2.1 dX10_splice_36 (by decide) (fun c_13 => ?_) (fun c_13 => ?_)
      · skip
        replace h := h.1 c_13
        refine lv_iconst (v := 2) X.1 X.2.1 dX10_splice_44 (by decide) ?_
        exact xt_i X hr hlocks hNN hw hl h dX10_splice_45
      · skip
        replace h := h.2 c_13
        refine lv_iload X.1 X.2.1 dX10_splice_39 (lv_at hv 0 rfl) ?_
        refine lv_if_ge (tgt := 46) X.1 X.2.1 dX10_splice_41 (by decide) (fun c_14 => ?_) (fun c_14 => ?_)
        · skip
          replace h := h.1 c_14
          refine lv_aload_n X.1 X.2.1 dX10_splice_46 rfl (lv_at hv 2 rfl) ?_
          refine xw_get X hk hw (i := 0) 1 xe_0 rfl tlX10 (by decide) rfl tw_520 dX10_splice_47 ?_
          refine lv_iload X.1 X.2.1 dX10_splice_50 (lv_at hv 1 rfl) ?_
          obtain ⟨j_15, e_16, b_17, h⟩ := h
          refine xw_ild X hk hw xe_1 e_16 b_17 (by decide) dX10_splice_52 ?_
          refine lv_bipush (v := 8) X.1 X.2.1 dX10_splice_53 (by decide) ?_
          refine lv_icmp_lt (tgt := 62) X.1 X.2.1 dX10_splice_55 (by decide) (fun c_18 => ?_) (fun c_18 => ?_)
          · skip
            replace h := h.1 c_18
            refine lv_iconst (v := 0) X.1 X.2.1 dX10_splice_62 (by decide) ?_
            exact j_X10_splice_63 X hk hr hlocks (x1) (x2) (x3) (r_10) (r_12) (0) S_11 _ _ _ h hNN hw hl (lv_sub hv [2, 3, 4, 5, 1, 0] rfl)
          · skip
            replace h := h.2 c_18
            refine lv_iconst (v := 1) X.1 X.2.1 dX10_splice_58 (by decide) ?_
            refine lv_goto (tgt := 63) X.1 X.2.1 dX10_splice_59 (by decide) ?_
            exact j_X10_splice_63 X hk hr hlocks (x1) (x2) (x3) (r_10) (r_12) (1) S_11 _ _ _ h hNN hw hl (lv_sub hv [2, 3, 4, 5, 1, 0] rfl)
        · skip
          replace h := h.2 c_14
          refine lv_iconst (v := 2) X.1 X.2.1 dX10_splice_44 (by decide) ?_
          exact xt_i X hr hlocks hNN hw hl h dX10_splice_45
    · skip
      replace h := h.2 c_8
      refine lv_iconst (v := 1) X.1 X.2.1 dX10_splice_18 (by decide) ?_
      exact xt_i X hr hlocks hNN hw hl h dX10_splice_19
def v_X10_swap (x1 : Int32) (x2 : Int32) (S : xs_T) (K : xs_T → Prop) : Prop := ∃ j_1 : Nat, x1 = nI j_1 ∧ j_1 < 10 ∧ ∃ j_4 : Nat, x1 = nI j_4 ∧ j_4 < 10 ∧ ∃ j_7 : Nat, x2 = nI j_7 ∧ j_7 < 10 ∧ ∃ j_10 : Nat, x2 = nI j_10 ∧ j_10 < 10 ∧ v_X10_hold (x1) ((xI S 9 j_7)) ((xI S 10 j_10)) S (fun (S_13 : xs_T) => v_X10_hold (x2) ((xI S 9 j_1)) ((xI S 10 j_4)) S_13 (fun (S_15 : xs_T) => K S_15))
set_option maxHeartbeats 4000000 in
set_option maxRecDepth 100000 in
theorem c_X10_swap (l : Launch) (Z : xz_T) (et : Nat → Nat) (S : xs_T) (x1 : Int32) (x2 : Int32) (K : xs_T → Prop) (h : v_X10_swap x1 x2 S K) : Met l yX10_swap (wq yX10_swap cX10_swap 5 none) { frames := 1, cells := 0, slots := 0, locals := 23 } (xPc Z et S [.ref (et (0)), .int (x1), .int (x2)]) (xQv Z et S.2.2.2.2 K) 0 0 (fun q => Z.2.2.1 ≤ q) := by
  refine Met.ofW (cc := cX10_swap) (maxL := 5) (ret := none) (by decide +kernel) rfl ?_
  intro p e s m args below meth c s₁ B hml hv0
  obtain ⟨rfl, hk, hw⟩ := hv0
  have X : CallFix p m c cX10_swap 5 s _ (wq yX10_swap cX10_swap 5 none) RX10 := ⟨B.exec, B.bytes, hml, findClass_of_methodNamed B.named, atoms_spec (ws := (wq yX10_swap cX10_swap 5 none)) B.pre⟩
  have hr := B.returns
  have hlocks := B.notSynchronized
  have hl : xl Z [] := fun _ h => by cases h
  have hNN : S.2.2.2.2 = S.2.2.2.2 := rfl
  have hv := lv_entry [.ref (et (0)), .int (x1), .int (x2)] (n := 5) (Nat.le_of_ble_eq_true rfl)
  rw [lg_entry_eq]
  generalize (lg_sl [.ref (et (0)), .int (x1), .int (x2)] ++ List.replicate (5 - (lg_sl [.ref (et (0)), .int (x1), .int (x2)]).length) Slot.unset).toArray = ls at hv ⊢
  replace hv : lv_has ls 5 [(0, .ref (et (0))), (1, .int (x1)), (2, .int (x2))] := hv
  unfold v_X10_swap at h
  refine lv_aload_n X.1 X.2.1 dX10_swap_0 rfl (lv_at hv 0 rfl) ?_
  refine xw_get X hk hw (i := 0) 9 xe_0 rfl tlX10 (by decide) rfl tw_528 dX10_swap_1 ?_
  refine lv_iload_n X.1 X.2.1 dX10_swap_4 rfl (lv_at hv 1 rfl) ?_
  obtain ⟨j_1, e_2, b_3, h⟩ := h
  refine xw_ild X hk hw xe_9 e_2 b_3 (by decide) dX10_swap_5 ?_
  refine lv_istore_n (lv' := [(3, .int ((xI S 9 j_1))), (0, .ref (et (0))), (1, .int (x1)), (2, .int (x2))]) X.1 X.2.1 dX10_swap_6 rfl hv (by decide) rfl (fun ls hv => ?_)
  refine lv_aload_n X.1 X.2.1 dX10_swap_7 rfl (lv_at hv 1 rfl) ?_
  refine xw_get X hk hw (i := 0) 10 xe_0 rfl tlX10 (by decide) rfl tw_529 dX10_swap_8 ?_
  refine lv_iload_n X.1 X.2.1 dX10_swap_11 rfl (lv_at hv 2 rfl) ?_
  obtain ⟨j_4, e_5, b_6, h⟩ := h
  refine xw_ild X hk hw xe_10 e_5 b_6 (by decide) dX10_swap_12 ?_
  refine lv_istore (lv' := [(4, .int ((xI S 10 j_4))), (3, .int ((xI S 9 j_1))), (0, .ref (et (0))), (1, .int (x1)), (2, .int (x2))]) X.1 X.2.1 dX10_swap_13 hv (by decide) rfl (fun ls hv => ?_)
  refine lv_aload_n X.1 X.2.1 dX10_swap_15 rfl (lv_at hv 2 rfl) ?_
  refine lv_iload_n X.1 X.2.1 dX10_swap_16 rfl (lv_at hv 3 rfl) ?_
  refine lv_aload_n X.1 X.2.1 dX10_swap_17 rfl (lv_at hv 2 rfl) ?_
  refine xw_get X hk hw (i := 0) 9 xe_0 rfl tlX10 (by decide) rfl tw_528 dX10_swap_18 ?_
  refine lv_iload_n X.1 X.2.1 dX10_swap_21 rfl (lv_at hv 4 rfl) ?_
  obtain ⟨j_7, e_8, b_9, h⟩ := h
  refine xw_ild X hk hw xe_9 e_8 b_9 (by decide) dX10_swap_22 ?_
  refine lv_aload_n X.1 X.2.1 dX10_swap_23 rfl (lv_at hv 2 rfl) ?_
  refine xw_get X hk hw (i := 0) 10 xe_0 rfl tlX10 (by decide) rfl tw_529 dX10_swap_24 ?_
  refine lv_iload_n X.1 X.2.1 dX10_swap_27 rfl (lv_at hv 4 rfl) ?_
  obtain ⟨j_10, e_11, b_12, h⟩ := h
  refine xw_ild X hk hw xe_10 e_11 b_12 (by decide) dX10_swap_28 ?_
  refine xc_v (xr_V (n := 3) (As := [.int (x1), .int ((xI S 9 j_7)), .int ((xI S 10 j_10))]) (i := 0) X hk hw hv.1 (c_X10_hold l Z et S (x1) ((xI S 9 j_7)) ((xI S 10 j_10)) _ h) (tb_V tw_665 tw_662 tw_664 tw_27 tw_44) xe_0 rfl rfl rfl rfl (by decide +kernel) ⟨Nat.le_of_ble_eq_true rfl, Nat.le_of_ble_eq_true rfl⟩ rfl (Nat.le_of_ble_eq_true rfl) dX10_swap_29 ⟨Nat.le_of_ble_eq_true rfl, Nat.le_of_ble_eq_true rfl⟩) hl (fun S_13 H locs h hN hw hl => ?_)
  replace hNN := hN.trans hNN
  refine lv_aload_n X.1 X.2.1 dX10_swap_32 rfl (lv_at hv 2 rfl) ?_
  refine lv_iload_n X.1 X.2.1 dX10_swap_33 rfl (lv_at hv 4 rfl) ?_
  refine lv_iload_n X.1 X.2.1 dX10_swap_34 rfl (lv_at hv 1 rfl) ?_
  refine lv_iload X.1 X.2.1 dX10_swap_35 (lv_at hv 0 rfl) ?_
  refine xc_v (xr_V (n := 3) (As := [.int (x2), .int ((xI S 9 j_1)), .int ((xI S 10 j_4))]) (i := 0) X hk hw hv.1 (c_X10_hold l Z et S_13 (x2) ((xI S 9 j_1)) ((xI S 10 j_4)) _ h) (tb_V tw_665 tw_662 tw_664 tw_27 tw_44) xe_0 rfl rfl rfl rfl (by decide +kernel) ⟨Nat.le_of_ble_eq_true rfl, Nat.le_of_ble_eq_true rfl⟩ rfl (Nat.le_of_ble_eq_true rfl) dX10_swap_37 ⟨Nat.le_of_ble_eq_true rfl, Nat.le_of_ble_eq_true rfl⟩) hl (fun S_15 H locs h hN hw hl => ?_)
  replace hNN := hN.trans hNN
  exact xt_v X hr hlocks hNN hw hl h dX10_swap_40
def v_X10_turn_101 (K : Int32 → xs_T → Prop) : Nat → Int32 → Int32 → Int32 → xs_T → Prop
  | 0, _, _, _, _ => False
  | n + 1, a3, a4, a5, S => ((a4 ≤ a5 → K (0) S) ∧ (¬ a4 ≤ a5 → ∃ j_39 : Nat, a3 = nI j_39 ∧ j_39 < 120 ∧ ∃ j_42 : Nat, a5 = nI j_42 ∧ j_42 < 64 ∧ ∃ j_45 : Nat, ((xI S 3 j_39) + a5) = nI j_45 ∧ j_45 < 3000 ∧ ∀ S_48 : xs_T, S_48 = sL S 5 j_45 ((xL S 22 j_42)) → v_X10_turn_101 K n (a3) (a4) ((a5 + 1)) S_48))
def v_X10_turn_34 (K : Int32 → xs_T → Prop) : Nat → Int32 → Int32 → Int32 → Int32 → xs_T → Prop
  | 0, _, _, _, _, _ => False
  | n + 1, a2, a3, a4, a5, S => ((a4 ≤ a5 → ∃ n, v_X10_turn_101 K n (a3) (a4) (0) S) ∧ (¬ a4 ≤ a5 → (¬ (a4).toInt64 = 0) ∧ ((0 ≤ ((((a5).toInt64 + (a2).toInt64) - ((a5).toInt64 + (a2).toInt64) / (a4).toInt64 * (a4).toInt64)).toInt32 → ∃ j_16 : Nat, a3 = nI j_16 ∧ j_16 < 120 ∧ ∃ j_19 : Nat, ((xI S 3 j_16) + ((((a5).toInt64 + (a2).toInt64) - ((a5).toInt64 + (a2).toInt64) / (a4).toInt64 * (a4).toInt64)).toInt32) = nI j_19 ∧ j_19 < 3000 ∧ ∃ j_22 : Nat, a5 = nI j_22 ∧ j_22 < 64 ∧ ∀ S_25 : xs_T, S_25 = sL S 22 j_22 ((xL S 5 j_19)) → v_X10_turn_34 K n (a2) (a3) (a4) ((a5 + 1)) S_25) ∧ (¬ 0 ≤ ((((a5).toInt64 + (a2).toInt64) - ((a5).toInt64 + (a2).toInt64) / (a4).toInt64 * (a4).toInt64)).toInt32 → ∃ j_27 : Nat, a3 = nI j_27 ∧ j_27 < 120 ∧ ∃ j_30 : Nat, ((xI S 3 j_27) + (((((a5).toInt64 + (a2).toInt64) - ((a5).toInt64 + (a2).toInt64) / (a4).toInt64 * (a4).toInt64)).toInt32 + a4)) = nI j_30 ∧ j_30 < 3000 ∧ ∃ j_33 : Nat, a5 = nI j_33 ∧ j_33 < 64 ∧ ∀ S_36 : xs_T, S_36 = sL S 22 j_33 ((xL S 5 j_30)) → v_X10_turn_34 K n (a2) (a3) (a4) ((a5 + 1)) S_36))))
def v_X10_turn (x1 : Int32) (x2 : Int32) (S : xs_T) (K : Int32 → xs_T → Prop) : Prop := ∃ j_1 : Nat, x1 = nI j_1 ∧ j_1 < 10 ∧ ((¬ (xI S 9 j_1) = 0 → v_X10_rowOn (x1) S (fun (r_6 : Int32) (S_5 : xs_T) => ((0 ≤ r_6 → ∃ j_8 : Nat, r_6 = nI j_8 ∧ j_8 < 120 ∧ ∃ n, v_X10_turn_34 K n (x2) (r_6) ((xI S_5 2 j_8)) (0) S_5) ∧ (¬ 0 ≤ r_6 → K (2) S_5)))) ∧ ((xI S 9 j_1) = 0 → K (1) S))
set_option maxHeartbeats 4000000 in
set_option maxRecDepth 100000 in
theorem j_X10_turn_101 {l : Launch} {p : Program} {e : Env} {s : State} {m : MethodId} {args : Array Value} {below : List Frame} {meth : Method} {c : Code} {Z : xz_T} {et : Nat → Nat} {Nn : Nat → Nat} {K : Int32 → xs_T → Prop} (X : CallFix p m c cX10_turn 7 s args (wq yX10_turn cX10_turn 7 (some .int)) RX10) (hk : xk Z s) (hr : meth.sig.returnType = (some .int)) (hlocks : meth.locks = false) : ∀ (n : Nat) (a3 : Int32) (a4 : Int32) (a5 : Int32) (S : xs_T) (H : Heap) (locs : List Loc) (ls : Array Slot), v_X10_turn_101 K n a3 a4 a5 S → S.2.2.2.2 = Nn → wd Z et S H → xl Z locs → lv_has ls 7 [(0, .ref (et (0))), (3, .int (a3)), (4, .int (a4)), (5, .int (a5))] → W p l e (headSpec (wq yX10_turn cX10_turn 7 (some .int)) { frames := 1, cells := 0, slots := 0, locals := 21 }).room s m args below meth c H locs 0 0 (MQ below (xQi Z et Nn K) args s 0 0 (fun q => Z.2.2.1 ≤ q)) (F0 m 101 ls []) := by
  intro n
  induction n with
  | zero =>
    intro a3 a4 a5 S H locs ls h hNN hw hl hv
    exact False.elim h
  | succ n ih =>
    intro a3 a4 a5 S H locs ls h hNN hw hl hv
    rw [v_X10_turn_101] at h
    refine lv_iload X.1 X.2.1 dX10_turn_101 (lv_at hv 3 rfl) ?_
    refine lv_iload X.1 X.2.1 dX10_turn_103 (lv_at hv 2 rfl) ?_
    refine lv_icmp_ge (tgt := 135) X.1 X.2.1 dX10_turn_105 (by decide) (fun c_38 => ?_) (fun c_38 => ?_)
    · skip
      replace h := h.1 c_38
      refine lv_iconst (v := 0) X.1 X.2.1 dX10_turn_135 (by decide) ?_
      exact xt_i X hr hlocks hNN hw hl h dX10_turn_136
    · skip
      replace h := h.2 c_38
      refine lv_aload_n X.1 X.2.1 dX10_turn_108 rfl (lv_at hv 0 rfl) ?_
      refine xw_get X hk hw (i := 0) 5 xe_0 rfl tlX10 (by decide) rfl tw_524 dX10_turn_109 ?_
      refine lv_aload_n X.1 X.2.1 dX10_turn_112 rfl (lv_at hv 0 rfl) ?_
      refine xw_get X hk hw (i := 0) 3 xe_0 rfl tlX10 (by decide) rfl tw_522 dX10_turn_113 ?_
      refine lv_iload_n X.1 X.2.1 dX10_turn_116 rfl (lv_at hv 1 rfl) ?_
      obtain ⟨j_39, e_40, b_41, h⟩ := h
      refine xw_ild X hk hw xe_3 e_40 b_41 (by decide) dX10_turn_117 ?_
      refine lv_iload X.1 X.2.1 dX10_turn_118 (lv_at hv 3 rfl) ?_
      refine lv_iadd X.1 X.2.1 dX10_turn_120 ?_
      refine lv_aload_n X.1 X.2.1 dX10_turn_121 rfl (lv_at hv 0 rfl) ?_
      refine xw_get X hk hw (i := 0) 22 xe_0 rfl tlX10 (by decide) rfl tw_541 dX10_turn_122 ?_
      refine lv_iload X.1 X.2.1 dX10_turn_125 (lv_at hv 3 rfl) ?_
      obtain ⟨j_42, e_43, b_44, h⟩ := h
      refine xw_lld X hk hw xe_22 e_43 b_44 (by decide) dX10_turn_127 ?_
      obtain ⟨j_45, e_46, b_47, h⟩ := h
      refine xw_lst X hk hw hl xe_5 rfl e_46 b_47 (by decide) dX10_turn_128 (fun H locs hw hl => ?_)
      obtain ⟨S_48, e_49⟩ : ∃ T : xs_T, T = sL S 5 j_45 ((xL S 22 j_42)) := ⟨_, rfl⟩
      rw [← e_49] at hw
      replace h := h S_48 e_49
      have hN : S_48.2.2.2.2 = S.2.2.2.2 := by rw [e_49]; rfl
      replace hNN := hN.trans hNN
      refine lv_iinc (v := (a5 + 1)) (lv' := [(5, .int ((a5 + 1))), (0, .ref (et (0))), (3, .int (a3)), (4, .int (a4))]) X.1 X.2.1 dX10_turn_129 hv (k := 3) rfl rfl (by decide) rfl (fun ls hv => ?_)
      refine lv_goto (tgt := 101) X.1 X.2.1 dX10_turn_132 (by decide) ?_
      exact ih (a3) (a4) ((a5 + 1)) S_48 _ _ _ h hNN hw hl (lv_sub hv [1, 2, 3, 0] rfl)
set_option maxHeartbeats 4000000 in
set_option maxRecDepth 100000 in
theorem j_X10_turn_34 {l : Launch} {p : Program} {e : Env} {s : State} {m : MethodId} {args : Array Value} {below : List Frame} {meth : Method} {c : Code} {Z : xz_T} {et : Nat → Nat} {Nn : Nat → Nat} {K : Int32 → xs_T → Prop} (X : CallFix p m c cX10_turn 7 s args (wq yX10_turn cX10_turn 7 (some .int)) RX10) (hk : xk Z s) (hr : meth.sig.returnType = (some .int)) (hlocks : meth.locks = false) : ∀ (n : Nat) (a2 : Int32) (a3 : Int32) (a4 : Int32) (a5 : Int32) (S : xs_T) (H : Heap) (locs : List Loc) (ls : Array Slot), v_X10_turn_34 K n a2 a3 a4 a5 S → S.2.2.2.2 = Nn → wd Z et S H → xl Z locs → lv_has ls 7 [(0, .ref (et (0))), (2, .int (a2)), (3, .int (a3)), (4, .int (a4)), (5, .int (a5))] → W p l e (headSpec (wq yX10_turn cX10_turn 7 (some .int)) { frames := 1, cells := 0, slots := 0, locals := 21 }).room s m args below meth c H locs 0 0 (MQ below (xQi Z et Nn K) args s 0 0 (fun q => Z.2.2.1 ≤ q)) (F0 m 34 ls []) := by
  intro n
  induction n with
  | zero =>
    intro a2 a3 a4 a5 S H locs ls h hNN hw hl hv
    exact False.elim h
  | succ n ih =>
    intro a2 a3 a4 a5 S H locs ls h hNN hw hl hv
    rw [v_X10_turn_34] at h
    refine lv_iload X.1 X.2.1 dX10_turn_34 (lv_at hv 4 rfl) ?_
    refine lv_iload X.1 X.2.1 dX10_turn_36 (lv_at hv 3 rfl) ?_
    refine lv_icmp_ge (tgt := 98) X.1 X.2.1 dX10_turn_38 (by decide) (fun c_12 => ?_) (fun c_12 => ?_)
    · skip
      replace h := h.1 c_12
      refine lv_iconst (v := 0) X.1 X.2.1 dX10_turn_98 (by decide) ?_
      refine lv_istore (lv' := [(5, .int (0)), (0, .ref (et (0))), (2, .int (a2)), (3, .int (a3)), (4, .int (a4))]) X.1 X.2.1 dX10_turn_99 hv (by decide) rfl (fun ls hv => ?_)
      obtain ⟨n_13, h⟩ := h
      exact j_X10_turn_101 X hk hr hlocks n_13 (a3) (a4) (0) S _ _ _ h hNN hw hl (lv_sub hv [1, 3, 4, 0] rfl)
    · skip
      replace h := h.2 c_12
      refine lv_iload X.1 X.2.1 dX10_turn_41 (lv_at hv 4 rfl) ?_
      refine lv_i2l (v := (a5).toInt64) X.1 X.2.1 dX10_turn_43 rfl ?_
      refine lv_iload_n X.1 X.2.1 dX10_turn_44 rfl (lv_at hv 1 rfl) ?_
      refine lv_i2l (v := (a2).toInt64) X.1 X.2.1 dX10_turn_45 rfl ?_
      refine lv_ladd X.1 X.2.1 dX10_turn_46 ?_
      refine lv_iload X.1 X.2.1 dX10_turn_47 (lv_at hv 3 rfl) ?_
      refine lv_i2l (v := (a4).toInt64) X.1 X.2.1 dX10_turn_49 rfl ?_
      obtain ⟨c_14, h⟩ := h
      refine lv_lrem X.1 X.2.1 dX10_turn_50 c_14 ?_
      refine lv_l2i (v := ((((a5).toInt64 + (a2).toInt64) - ((a5).toInt64 + (a2).toInt64) / (a4).toInt64 * (a4).toInt64)).toInt32) X.1 X.2.1 dX10_turn_51 rfl ?_
      refine lv_istore (lv' := [(6, .int (((((a5).toInt64 + (a2).toInt64) - ((a5).toInt64 + (a2).toInt64) / (a4).toInt64 * (a4).toInt64)).toInt32)), (0, .ref (et (0))), (2, .int (a2)), (3, .int (a3)), (4, .int (a4)), (5, .int (a5))]) X.1 X.2.1 dX10_turn_52 hv (by decide) rfl (fun ls hv => ?_)
      refine lv_iload X.1 X.2.1 dX10_turn_54 (lv_at hv 0 rfl) ?_
      refine lv_if_ge (tgt := 67) X.1 X.2.1 dX10_turn_56 (by decide) (fun c_15 => ?_) (fun c_15 => ?_)
      · skip
        replace h := h.1 c_15
        refine lv_iload X.1 X.2.1 dX10_turn_67 (lv_at hv 0 rfl) ?_
        refine lv_istore (lv' := [(6, .int (((((a5).toInt64 + (a2).toInt64) - ((a5).toInt64 + (a2).toInt64) / (a4).toInt64 * (a4).toInt64)).toInt32)), (0, .ref (et (0))), (2, .int (a2)), (3, .int (a3)), (4, .int (a4)), (5, .int (a5))]) X.1 X.2.1 dX10_turn_69 hv (by decide) rfl (fun ls hv => ?_)
        refine lv_aload_n X.1 X.2.1 dX10_turn_71 rfl (lv_at hv 1 rfl) ?_
        refine xw_get X hk hw (i := 0) 22 xe_0 rfl tlX10 (by decide) rfl tw_541 dX10_turn_72 ?_
        refine lv_iload X.1 X.2.1 dX10_turn_75 (lv_at hv 5 rfl) ?_
        refine lv_aload_n X.1 X.2.1 dX10_turn_77 rfl (lv_at hv 1 rfl) ?_
        refine xw_get X hk hw (i := 0) 5 xe_0 rfl tlX10 (by decide) rfl tw_524 dX10_turn_78 ?_
        refine lv_aload_n X.1 X.2.1 dX10_turn_81 rfl (lv_at hv 1 rfl) ?_
        refine xw_get X hk hw (i := 0) 3 xe_0 rfl tlX10 (by decide) rfl tw_522 dX10_turn_82 ?_
        refine lv_iload_n X.1 X.2.1 dX10_turn_85 rfl (lv_at hv 3 rfl) ?_
        obtain ⟨j_16, e_17, b_18, h⟩ := h
        refine xw_ild X hk hw xe_3 e_17 b_18 (by decide) dX10_turn_86 ?_
        refine lv_iload X.1 X.2.1 dX10_turn_87 (lv_at hv 0 rfl) ?_
        refine lv_iadd X.1 X.2.1 dX10_turn_89 ?_
        obtain ⟨j_19, e_20, b_21, h⟩ := h
        refine xw_lld X hk hw xe_5 e_20 b_21 (by decide) dX10_turn_90 ?_
        obtain ⟨j_22, e_23, b_24, h⟩ := h
        refine xw_lst X hk hw hl xe_22 rfl e_23 b_24 (by decide) dX10_turn_91 (fun H locs hw hl => ?_)
        obtain ⟨S_25, e_26⟩ : ∃ T : xs_T, T = sL S 22 j_22 ((xL S 5 j_19)) := ⟨_, rfl⟩
        rw [← e_26] at hw
        replace h := h S_25 e_26
        have hN : S_25.2.2.2.2 = S.2.2.2.2 := by rw [e_26]; rfl
        replace hNN := hN.trans hNN
        refine lv_iinc (v := (a5 + 1)) (lv' := [(5, .int ((a5 + 1))), (6, .int (((((a5).toInt64 + (a2).toInt64) - ((a5).toInt64 + (a2).toInt64) / (a4).toInt64 * (a4).toInt64)).toInt32)), (0, .ref (et (0))), (2, .int (a2)), (3, .int (a3)), (4, .int (a4))]) X.1 X.2.1 dX10_turn_92 hv (k := 5) rfl rfl (by decide) rfl (fun ls hv => ?_)
        refine lv_goto (tgt := 34) X.1 X.2.1 dX10_turn_95 (by decide) ?_
        exact ih (a2) (a3) (a4) ((a5 + 1)) S_25 _ _ _ h hNN hw hl (lv_sub hv [2, 3, 4, 5, 0] rfl)
      · skip
        replace h := h.2 c_15
        refine lv_iload X.1 X.2.1 dX10_turn_59 (lv_at hv 0 rfl) ?_
        refine lv_iload X.1 X.2.1 dX10_turn_61 (lv_at hv 4 rfl) ?_
        refine lv_iadd X.1 X.2.1 dX10_turn_63 ?_
        refine lv_goto (tgt := 69) X.1 X.2.1 dX10_turn_64 (by decide) ?_
        refine lv_istore (lv' := [(6, .int ((((((a5).toInt64 + (a2).toInt64) - ((a5).toInt64 + (a2).toInt64) / (a4).toInt64 * (a4).toInt64)).toInt32 + a4))), (0, .ref (et (0))), (2, .int (a2)), (3, .int (a3)), (4, .int (a4)), (5, .int (a5))]) X.1 X.2.1 dX10_turn_69 hv (by decide) rfl (fun ls hv => ?_)
        refine lv_aload_n X.1 X.2.1 dX10_turn_71 rfl (lv_at hv 1 rfl) ?_
        refine xw_get X hk hw (i := 0) 22 xe_0 rfl tlX10 (by decide) rfl tw_541 dX10_turn_72 ?_
        refine lv_iload X.1 X.2.1 dX10_turn_75 (lv_at hv 5 rfl) ?_
        refine lv_aload_n X.1 X.2.1 dX10_turn_77 rfl (lv_at hv 1 rfl) ?_
        refine xw_get X hk hw (i := 0) 5 xe_0 rfl tlX10 (by decide) rfl tw_524 dX10_turn_78 ?_
        refine lv_aload_n X.1 X.2.1 dX10_turn_81 rfl (lv_at hv 1 rfl) ?_
        refine xw_get X hk hw (i := 0) 3 xe_0 rfl tlX10 (by decide) rfl tw_522 dX10_turn_82 ?_
        refine lv_iload_n X.1 X.2.1 dX10_turn_85 rfl (lv_at hv 3 rfl) ?_
        obtain ⟨j_27, e_28, b_29, h⟩ := h
        refine xw_ild X hk hw xe_3 e_28 b_29 (by decide) dX10_turn_86 ?_
        refine lv_iload X.1 X.2.1 dX10_turn_87 (lv_at hv 0 rfl) ?_
        refine lv_iadd X.1 X.2.1 dX10_turn_89 ?_
        obtain ⟨j_30, e_31, b_32, h⟩ := h
        refine xw_lld X hk hw xe_5 e_31 b_32 (by decide) dX10_turn_90 ?_
        obtain ⟨j_33, e_34, b_35, h⟩ := h
        refine xw_lst X hk hw hl xe_22 rfl e_34 b_35 (by decide) dX10_turn_91 (fun H locs hw hl => ?_)
        obtain ⟨S_36, e_37⟩ : ∃ T : xs_T, T = sL S 22 j_33 ((xL S 5 j_30)) := ⟨_, rfl⟩
        rw [← e_37] at hw
        replace h := h S_36 e_37
        have hN : S_36.2.2.2.2 = S.2.2.2.2 := by rw [e_37]; rfl
        replace hNN := hN.trans hNN
        refine lv_iinc (v := (a5 + 1)) (lv' := [(5, .int ((a5 + 1))), (6, .int ((((((a5).toInt64 + (a2).toInt64) - ((a5).toInt64 + (a2).toInt64) / (a4).toInt64 * (a4).toInt64)).toInt32 + a4))), (0, .ref (et (0))), (2, .int (a2)), (3, .int (a3)), (4, .int (a4))]) X.1 X.2.1 dX10_turn_92 hv (k := 5) rfl rfl (by decide) rfl (fun ls hv => ?_)
        refine lv_goto (tgt := 34) X.1 X.2.1 dX10_turn_95 (by decide) ?_
        exact ih (a2) (a3) (a4) ((a5 + 1)) S_36 _ _ _ h hNN hw hl (lv_sub hv [2, 3, 4, 5, 0] rfl)
set_option maxHeartbeats 4000000 in
set_option maxRecDepth 100000 in
theorem c_X10_turn (l : Launch) (Z : xz_T) (et : Nat → Nat) (S : xs_T) (x1 : Int32) (x2 : Int32) (K : Int32 → xs_T → Prop) (h : v_X10_turn x1 x2 S K) : Met l yX10_turn (wq yX10_turn cX10_turn 7 (some .int)) { frames := 1, cells := 0, slots := 0, locals := 21 } (xPc Z et S [.ref (et (0)), .int (x1), .int (x2)]) (xQi Z et S.2.2.2.2 K) 0 0 (fun q => Z.2.2.1 ≤ q) := by
  refine Met.ofW (cc := cX10_turn) (maxL := 7) (ret := (some .int)) (by decide +kernel) rfl ?_
  intro p e s m args below meth c s₁ B hml hv0
  obtain ⟨rfl, hk, hw⟩ := hv0
  have X : CallFix p m c cX10_turn 7 s _ (wq yX10_turn cX10_turn 7 (some .int)) RX10 := ⟨B.exec, B.bytes, hml, findClass_of_methodNamed B.named, atoms_spec (ws := (wq yX10_turn cX10_turn 7 (some .int))) B.pre⟩
  have hr := B.returns
  have hlocks := B.notSynchronized
  have hl : xl Z [] := fun _ h => by cases h
  have hNN : S.2.2.2.2 = S.2.2.2.2 := rfl
  have hv := lv_entry [.ref (et (0)), .int (x1), .int (x2)] (n := 7) (Nat.le_of_ble_eq_true rfl)
  rw [lg_entry_eq]
  generalize (lg_sl [.ref (et (0)), .int (x1), .int (x2)] ++ List.replicate (7 - (lg_sl [.ref (et (0)), .int (x1), .int (x2)]).length) Slot.unset).toArray = ls at hv ⊢
  replace hv : lv_has ls 7 [(0, .ref (et (0))), (1, .int (x1)), (2, .int (x2))] := hv
  unfold v_X10_turn at h
  refine lv_aload_n X.1 X.2.1 dX10_turn_0 rfl (lv_at hv 0 rfl) ?_
  refine xw_get X hk hw (i := 0) 9 xe_0 rfl tlX10 (by decide) rfl tw_528 dX10_turn_1 ?_
  refine lv_iload_n X.1 X.2.1 dX10_turn_4 rfl (lv_at hv 1 rfl) ?_
  obtain ⟨j_1, e_2, b_3, h⟩ := h
  refine xw_ild X hk hw xe_9 e_2 b_3 (by decide) dX10_turn_5 ?_
  refine lv_if_ne (tgt := 11) X.1 X.2.1 dX10_turn_6 (by decide) (fun c_4 => ?_) (fun c_4 => ?_)
  · skip
    replace h := h.1 c_4
    refine lv_aload_n X.1 X.2.1 dX10_turn_11 rfl (lv_at hv 0 rfl) ?_
    refine lv_iload_n X.1 X.2.1 dX10_turn_12 rfl (lv_at hv 1 rfl) ?_
    refine xc_i (xr_V (n := 1) (As := [.int (x1)]) (i := 0) X hk hw hv.1 (c_X10_rowOn l Z et S (x1) _ h) (tb_V tw_629 tw_626 tw_628 tw_18 tw_44) xe_0 rfl rfl rfl rfl (by decide +kernel) ⟨Nat.le_of_ble_eq_true rfl, Nat.le_of_ble_eq_true rfl⟩ rfl (Nat.le_of_ble_eq_true rfl) dX10_turn_13 ⟨Nat.le_of_ble_eq_true rfl, Nat.le_of_ble_eq_true rfl⟩) hl (fun r_6 S_5 H locs h hN hw hl => ?_)
    replace hNN := hN.trans hNN
    refine lv_istore_n (lv' := [(3, .int (r_6)), (0, .ref (et (0))), (1, .int (x1)), (2, .int (x2))]) X.1 X.2.1 dX10_turn_16 rfl hv (by decide) rfl (fun ls hv => ?_)
    refine lv_iload_n X.1 X.2.1 dX10_turn_17 rfl (lv_at hv 0 rfl) ?_
    refine lv_if_ge (tgt := 23) X.1 X.2.1 dX10_turn_18 (by decide) (fun c_7 => ?_) (fun c_7 => ?_)
    · skip
      replace h := h.1 c_7
      refine lv_aload_n X.1 X.2.1 dX10_turn_23 rfl (lv_at hv 1 rfl) ?_
      refine xw_get X hk hw (i := 0) 2 xe_0 rfl tlX10 (by decide) rfl tw_521 dX10_turn_24 ?_
      refine lv_iload_n X.1 X.2.1 dX10_turn_27 rfl (lv_at hv 0 rfl) ?_
      obtain ⟨j_8, e_9, b_10, h⟩ := h
      refine xw_ild X hk hw xe_2 e_9 b_10 (by decide) dX10_turn_28 ?_
      refine lv_istore (lv' := [(4, .int ((xI S_5 2 j_8))), (3, .int (r_6)), (0, .ref (et (0))), (1, .int (x1)), (2, .int (x2))]) X.1 X.2.1 dX10_turn_29 hv (by decide) rfl (fun ls hv => ?_)
      refine lv_iconst (v := 0) X.1 X.2.1 dX10_turn_31 (by decide) ?_
      refine lv_istore (lv' := [(5, .int (0)), (4, .int ((xI S_5 2 j_8))), (3, .int (r_6)), (0, .ref (et (0))), (1, .int (x1)), (2, .int (x2))]) X.1 X.2.1 dX10_turn_32 hv (by decide) rfl (fun ls hv => ?_)
      obtain ⟨n_11, h⟩ := h
      exact j_X10_turn_34 X hk hr hlocks n_11 (x2) (r_6) ((xI S_5 2 j_8)) (0) S_5 _ _ _ h hNN hw hl (lv_sub hv [3, 5, 2, 1, 0] rfl)
    · skip
      replace h := h.2 c_7
      refine lv_iconst (v := 2) X.1 X.2.1 dX10_turn_21 (by decide) ?_
      exact xt_i X hr hlocks hNN hw hl h dX10_turn_22
  · skip
    replace h := h.2 c_4
    refine lv_iconst (v := 1) X.1 X.2.1 dX10_turn_9 (by decide) ?_
    exact xt_i X hr hlocks hNN hw hl h dX10_turn_10
def v_X10_twin_59 (K : Int32 → xs_T → Prop) : Nat → Int32 → Int32 → Int32 → Int32 → xs_T → Prop
  | 0, _, _, _, _, _ => False
  | n + 1, a1, a3, a4, a5, S => ∃ j_23 : Nat, a3 = nI j_23 ∧ j_23 < 120 ∧ (((xI S 2 j_23) ≤ a5 → v_X10_hold (a1) (1) (a4) S (fun (S_27 : xs_T) => K (0) S_27)) ∧ (¬ (xI S 2 j_23) ≤ a5 → ∃ j_29 : Nat, a4 = nI j_29 ∧ j_29 < 120 ∧ ∃ j_32 : Nat, a3 = nI j_32 ∧ j_32 < 120 ∧ ∃ j_35 : Nat, ((xI S 3 j_32) + a5) = nI j_35 ∧ j_35 < 3000 ∧ ∃ j_38 : Nat, ((xI S 3 j_29) + a5) = nI j_38 ∧ j_38 < 3000 ∧ ∀ S_41 : xs_T, S_41 = sL S 5 j_38 ((xL S 5 j_35)) → v_X10_twin_59 K n (a1) (a3) (a4) ((a5 + 1)) S_41))
def v_X10_twin (x1 : Int32) (x2 : Int32) (S : xs_T) (K : Int32 → xs_T → Prop) : Prop := ∃ j_1 : Nat, x2 = nI j_1 ∧ j_1 < 10 ∧ ((¬ (xI S 9 j_1) = 0 → v_X10_rowOn (x2) S (fun (r_6 : Int32) (S_5 : xs_T) => ((0 ≤ r_6 → ∃ j_8 : Nat, r_6 = nI j_8 ∧ j_8 < 120 ∧ v_X10_roomFor ((xI S_5 2 j_8)) S_5 (fun (r_12 : Int32) (S_11 : xs_T) => ((¬ r_12 = 0 → ∃ j_14 : Nat, r_6 = nI j_14 ∧ j_14 < 120 ∧ ∃ j_17 : Nat, r_6 = nI j_17 ∧ j_17 < 120 ∧ v_X10_make ((xI S_11 1 j_14)) ((xI S_11 2 j_17)) S_11 (fun (r_21 : Int32) (S_20 : xs_T) => ∃ n, v_X10_twin_59 K n (x1) (r_6) (r_21) (0) S_20)) ∧ (r_12 = 0 → K (4) S_11)))) ∧ (¬ 0 ≤ r_6 → K (2) S_5)))) ∧ ((xI S 9 j_1) = 0 → K (1) S))
set_option maxHeartbeats 4000000 in
set_option maxRecDepth 100000 in
theorem j_X10_twin_59 {l : Launch} {p : Program} {e : Env} {s : State} {m : MethodId} {args : Array Value} {below : List Frame} {meth : Method} {c : Code} {Z : xz_T} {et : Nat → Nat} {Nn : Nat → Nat} {K : Int32 → xs_T → Prop} (X : CallFix p m c cX10_twin 6 s args (wq yX10_twin cX10_twin 6 (some .int)) RX10) (hk : xk Z s) (hr : meth.sig.returnType = (some .int)) (hlocks : meth.locks = false) : ∀ (n : Nat) (a1 : Int32) (a3 : Int32) (a4 : Int32) (a5 : Int32) (S : xs_T) (H : Heap) (locs : List Loc) (ls : Array Slot), v_X10_twin_59 K n a1 a3 a4 a5 S → S.2.2.2.2 = Nn → wd Z et S H → xl Z locs → lv_has ls 6 [(0, .ref (et (0))), (1, .int (a1)), (3, .int (a3)), (4, .int (a4)), (5, .int (a5))] → W p l e (headSpec (wq yX10_twin cX10_twin 6 (some .int)) { frames := 1, cells := 0, slots := 0, locals := 23 }).room s m args below meth c H locs 0 0 (MQ below (xQi Z et Nn K) args s 0 0 (fun q => Z.2.2.1 ≤ q)) (F0 m 59 ls []) := by
  intro n
  induction n with
  | zero =>
    intro a1 a3 a4 a5 S H locs ls h hNN hw hl hv
    exact False.elim h
  | succ n ih =>
    intro a1 a3 a4 a5 S H locs ls h hNN hw hl hv
    rw [v_X10_twin_59] at h
    refine lv_iload X.1 X.2.1 dX10_twin_59 (lv_at hv 4 rfl) ?_
    refine lv_aload_n X.1 X.2.1 dX10_twin_61 rfl (lv_at hv 0 rfl) ?_
    refine xw_get X hk hw (i := 0) 2 xe_0 rfl tlX10 (by decide) rfl tw_521 dX10_twin_62 ?_
    refine lv_iload_n X.1 X.2.1 dX10_twin_65 rfl (lv_at hv 2 rfl) ?_
    obtain ⟨j_23, e_24, b_25, h⟩ := h
    refine xw_ild X hk hw xe_2 e_24 b_25 (by decide) dX10_twin_66 ?_
    refine lv_icmp_ge (tgt := 105) X.1 X.2.1 dX10_twin_67 (by decide) (fun c_26 => ?_) (fun c_26 => ?_)
    · skip
      replace h := h.1 c_26
      refine lv_aload_n X.1 X.2.1 dX10_twin_105 rfl (lv_at hv 0 rfl) ?_
      refine lv_iload_n X.1 X.2.1 dX10_twin_106 rfl (lv_at hv 1 rfl) ?_
      refine lv_iconst (v := 1) X.1 X.2.1 dX10_twin_107 (by decide) ?_
      refine lv_iload X.1 X.2.1 dX10_twin_108 (lv_at hv 3 rfl) ?_
      refine xc_v (xr_V (n := 3) (As := [.int (a1), .int (1), .int (a4)]) (i := 0) X hk hw hv.1 (c_X10_hold l Z et S (a1) (1) (a4) _ h) (tb_V tw_665 tw_662 tw_664 tw_27 tw_44) xe_0 rfl rfl rfl rfl (by decide +kernel) ⟨Nat.le_of_ble_eq_true rfl, Nat.le_of_ble_eq_true rfl⟩ rfl (Nat.le_of_ble_eq_true rfl) dX10_twin_110 ⟨Nat.le_of_ble_eq_true rfl, Nat.le_of_ble_eq_true rfl⟩) hl (fun S_27 H locs h hN hw hl => ?_)
      replace hNN := hN.trans hNN
      refine lv_iconst (v := 0) X.1 X.2.1 dX10_twin_113 (by decide) ?_
      exact xt_i X hr hlocks hNN hw hl h dX10_twin_114
    · skip
      replace h := h.2 c_26
      refine lv_aload_n X.1 X.2.1 dX10_twin_70 rfl (lv_at hv 0 rfl) ?_
      refine xw_get X hk hw (i := 0) 5 xe_0 rfl tlX10 (by decide) rfl tw_524 dX10_twin_71 ?_
      refine lv_aload_n X.1 X.2.1 dX10_twin_74 rfl (lv_at hv 0 rfl) ?_
      refine xw_get X hk hw (i := 0) 3 xe_0 rfl tlX10 (by decide) rfl tw_522 dX10_twin_75 ?_
      refine lv_iload X.1 X.2.1 dX10_twin_78 (lv_at hv 3 rfl) ?_
      obtain ⟨j_29, e_30, b_31, h⟩ := h
      refine xw_ild X hk hw xe_3 e_30 b_31 (by decide) dX10_twin_80 ?_
      refine lv_iload X.1 X.2.1 dX10_twin_81 (lv_at hv 4 rfl) ?_
      refine lv_iadd X.1 X.2.1 dX10_twin_83 ?_
      refine lv_aload_n X.1 X.2.1 dX10_twin_84 rfl (lv_at hv 0 rfl) ?_
      refine xw_get X hk hw (i := 0) 5 xe_0 rfl tlX10 (by decide) rfl tw_524 dX10_twin_85 ?_
      refine lv_aload_n X.1 X.2.1 dX10_twin_88 rfl (lv_at hv 0 rfl) ?_
      refine xw_get X hk hw (i := 0) 3 xe_0 rfl tlX10 (by decide) rfl tw_522 dX10_twin_89 ?_
      refine lv_iload_n X.1 X.2.1 dX10_twin_92 rfl (lv_at hv 2 rfl) ?_
      obtain ⟨j_32, e_33, b_34, h⟩ := h
      refine xw_ild X hk hw xe_3 e_33 b_34 (by decide) dX10_twin_93 ?_
      refine lv_iload X.1 X.2.1 dX10_twin_94 (lv_at hv 4 rfl) ?_
      refine lv_iadd X.1 X.2.1 dX10_twin_96 ?_
      obtain ⟨j_35, e_36, b_37, h⟩ := h
      refine xw_lld X hk hw xe_5 e_36 b_37 (by decide) dX10_twin_97 ?_
      obtain ⟨j_38, e_39, b_40, h⟩ := h
      refine xw_lst X hk hw hl xe_5 rfl e_39 b_40 (by decide) dX10_twin_98 (fun H locs hw hl => ?_)
      obtain ⟨S_41, e_42⟩ : ∃ T : xs_T, T = sL S 5 j_38 ((xL S 5 j_35)) := ⟨_, rfl⟩
      rw [← e_42] at hw
      replace h := h S_41 e_42
      have hN : S_41.2.2.2.2 = S.2.2.2.2 := by rw [e_42]; rfl
      replace hNN := hN.trans hNN
      refine lv_iinc (v := (a5 + 1)) (lv' := [(5, .int ((a5 + 1))), (0, .ref (et (0))), (1, .int (a1)), (3, .int (a3)), (4, .int (a4))]) X.1 X.2.1 dX10_twin_99 hv (k := 4) rfl rfl (by decide) rfl (fun ls hv => ?_)
      refine lv_goto (tgt := 59) X.1 X.2.1 dX10_twin_102 (by decide) ?_
      exact ih (a1) (a3) (a4) ((a5 + 1)) S_41 _ _ _ h hNN hw hl (lv_sub hv [1, 2, 3, 4, 0] rfl)
set_option maxHeartbeats 4000000 in
set_option maxRecDepth 100000 in
theorem c_X10_twin (l : Launch) (Z : xz_T) (et : Nat → Nat) (S : xs_T) (x1 : Int32) (x2 : Int32) (K : Int32 → xs_T → Prop) (h : v_X10_twin x1 x2 S K) : Met l yX10_twin (wq yX10_twin cX10_twin 6 (some .int)) { frames := 1, cells := 0, slots := 0, locals := 23 } (xPc Z et S [.ref (et (0)), .int (x1), .int (x2)]) (xQi Z et S.2.2.2.2 K) 0 0 (fun q => Z.2.2.1 ≤ q) := by
  refine Met.ofW (cc := cX10_twin) (maxL := 6) (ret := (some .int)) (by decide +kernel) rfl ?_
  intro p e s m args below meth c s₁ B hml hv0
  obtain ⟨rfl, hk, hw⟩ := hv0
  have X : CallFix p m c cX10_twin 6 s _ (wq yX10_twin cX10_twin 6 (some .int)) RX10 := ⟨B.exec, B.bytes, hml, findClass_of_methodNamed B.named, atoms_spec (ws := (wq yX10_twin cX10_twin 6 (some .int))) B.pre⟩
  have hr := B.returns
  have hlocks := B.notSynchronized
  have hl : xl Z [] := fun _ h => by cases h
  have hNN : S.2.2.2.2 = S.2.2.2.2 := rfl
  have hv := lv_entry [.ref (et (0)), .int (x1), .int (x2)] (n := 6) (Nat.le_of_ble_eq_true rfl)
  rw [lg_entry_eq]
  generalize (lg_sl [.ref (et (0)), .int (x1), .int (x2)] ++ List.replicate (6 - (lg_sl [.ref (et (0)), .int (x1), .int (x2)]).length) Slot.unset).toArray = ls at hv ⊢
  replace hv : lv_has ls 6 [(0, .ref (et (0))), (1, .int (x1)), (2, .int (x2))] := hv
  unfold v_X10_twin at h
  refine lv_aload_n X.1 X.2.1 dX10_twin_0 rfl (lv_at hv 0 rfl) ?_
  refine xw_get X hk hw (i := 0) 9 xe_0 rfl tlX10 (by decide) rfl tw_528 dX10_twin_1 ?_
  refine lv_iload_n X.1 X.2.1 dX10_twin_4 rfl (lv_at hv 2 rfl) ?_
  obtain ⟨j_1, e_2, b_3, h⟩ := h
  refine xw_ild X hk hw xe_9 e_2 b_3 (by decide) dX10_twin_5 ?_
  refine lv_if_ne (tgt := 11) X.1 X.2.1 dX10_twin_6 (by decide) (fun c_4 => ?_) (fun c_4 => ?_)
  · skip
    replace h := h.1 c_4
    refine lv_aload_n X.1 X.2.1 dX10_twin_11 rfl (lv_at hv 0 rfl) ?_
    refine lv_iload_n X.1 X.2.1 dX10_twin_12 rfl (lv_at hv 2 rfl) ?_
    refine xc_i (xr_V (n := 1) (As := [.int (x2)]) (i := 0) X hk hw hv.1 (c_X10_rowOn l Z et S (x2) _ h) (tb_V tw_629 tw_626 tw_628 tw_18 tw_44) xe_0 rfl rfl rfl rfl (by decide +kernel) ⟨Nat.le_of_ble_eq_true rfl, Nat.le_of_ble_eq_true rfl⟩ rfl (Nat.le_of_ble_eq_true rfl) dX10_twin_13 ⟨Nat.le_of_ble_eq_true rfl, Nat.le_of_ble_eq_true rfl⟩) hl (fun r_6 S_5 H locs h hN hw hl => ?_)
    replace hNN := hN.trans hNN
    refine lv_istore_n (lv' := [(3, .int (r_6)), (0, .ref (et (0))), (1, .int (x1)), (2, .int (x2))]) X.1 X.2.1 dX10_twin_16 rfl hv (by decide) rfl (fun ls hv => ?_)
    refine lv_iload_n X.1 X.2.1 dX10_twin_17 rfl (lv_at hv 0 rfl) ?_
    refine lv_if_ge (tgt := 23) X.1 X.2.1 dX10_twin_18 (by decide) (fun c_7 => ?_) (fun c_7 => ?_)
    · skip
      replace h := h.1 c_7
      refine lv_aload_n X.1 X.2.1 dX10_twin_23 rfl (lv_at hv 1 rfl) ?_
      refine lv_aload_n X.1 X.2.1 dX10_twin_24 rfl (lv_at hv 1 rfl) ?_
      refine xw_get X hk hw (i := 0) 2 xe_0 rfl tlX10 (by decide) rfl tw_521 dX10_twin_25 ?_
      refine lv_iload_n X.1 X.2.1 dX10_twin_28 rfl (lv_at hv 0 rfl) ?_
      obtain ⟨j_8, e_9, b_10, h⟩ := h
      refine xw_ild X hk hw xe_2 e_9 b_10 (by decide) dX10_twin_29 ?_
      refine xc_i (xr_V (n := 1) (As := [.int ((xI S_5 2 j_8))]) (i := 0) X hk hw hv.1 (c_X10_roomFor l Z et S_5 ((xI S_5 2 j_8)) _ h) (tb_V tw_657 tw_654 tw_656 tw_25 tw_44) xe_0 rfl rfl rfl rfl (by decide +kernel) ⟨Nat.le_of_ble_eq_true rfl, Nat.le_of_ble_eq_true rfl⟩ rfl (Nat.le_of_ble_eq_true rfl) dX10_twin_30 ⟨Nat.le_of_ble_eq_true rfl, Nat.le_of_ble_eq_true rfl⟩) hl (fun r_12 S_11 H locs h hN hw hl => ?_)
      replace hNN := hN.trans hNN
      refine lv_if_ne (tgt := 38) X.1 X.2.1 dX10_twin_33 (by decide) (fun c_13 => ?_) (fun c_13 => ?_)
      · skip
        replace h := h.1 c_13
        refine lv_aload_n X.1 X.2.1 dX10_twin_38 rfl (lv_at hv 1 rfl) ?_
        refine lv_aload_n X.1 X.2.1 dX10_twin_39 rfl (lv_at hv 1 rfl) ?_
        refine xw_get X hk hw (i := 0) 1 xe_0 rfl tlX10 (by decide) rfl tw_520 dX10_twin_40 ?_
        refine lv_iload_n X.1 X.2.1 dX10_twin_43 rfl (lv_at hv 0 rfl) ?_
        obtain ⟨j_14, e_15, b_16, h⟩ := h
        refine xw_ild X hk hw xe_1 e_15 b_16 (by decide) dX10_twin_44 ?_
        refine lv_aload_n X.1 X.2.1 dX10_twin_45 rfl (lv_at hv 1 rfl) ?_
        refine xw_get X hk hw (i := 0) 2 xe_0 rfl tlX10 (by decide) rfl tw_521 dX10_twin_46 ?_
        refine lv_iload_n X.1 X.2.1 dX10_twin_49 rfl (lv_at hv 0 rfl) ?_
        obtain ⟨j_17, e_18, b_19, h⟩ := h
        refine xw_ild X hk hw xe_2 e_18 b_19 (by decide) dX10_twin_50 ?_
        refine xc_i (xr_V (n := 2) (As := [.int ((xI S_11 1 j_14)), .int ((xI S_11 2 j_17))]) (i := 0) X hk hw hv.1 (c_X10_make l Z et S_11 ((xI S_11 1 j_14)) ((xI S_11 2 j_17)) _ h) (tb_V tw_661 tw_658 tw_660 tw_26 tw_44) xe_0 rfl rfl rfl rfl (by decide +kernel) ⟨Nat.le_of_ble_eq_true rfl, Nat.le_of_ble_eq_true rfl⟩ rfl (Nat.le_of_ble_eq_true rfl) dX10_twin_51 ⟨Nat.le_of_ble_eq_true rfl, Nat.le_of_ble_eq_true rfl⟩) hl (fun r_21 S_20 H locs h hN hw hl => ?_)
        replace hNN := hN.trans hNN
        refine lv_istore (lv' := [(4, .int (r_21)), (3, .int (r_6)), (0, .ref (et (0))), (1, .int (x1)), (2, .int (x2))]) X.1 X.2.1 dX10_twin_54 hv (by decide) rfl (fun ls hv => ?_)
        refine lv_iconst (v := 0) X.1 X.2.1 dX10_twin_56 (by decide) ?_
        refine lv_istore (lv' := [(5, .int (0)), (4, .int (r_21)), (3, .int (r_6)), (0, .ref (et (0))), (1, .int (x1)), (2, .int (x2))]) X.1 X.2.1 dX10_twin_57 hv (by decide) rfl (fun ls hv => ?_)
        obtain ⟨n_22, h⟩ := h
        exact j_X10_twin_59 X hk hr hlocks n_22 (x1) (r_6) (r_21) (0) S_20 _ _ _ h hNN hw hl (lv_sub hv [3, 4, 2, 1, 0] rfl)
      · skip
        replace h := h.2 c_13
        refine lv_iconst (v := 4) X.1 X.2.1 dX10_twin_36 (by decide) ?_
        exact xt_i X hr hlocks hNN hw hl h dX10_twin_37
    · skip
      replace h := h.2 c_7
      refine lv_iconst (v := 2) X.1 X.2.1 dX10_twin_21 (by decide) ?_
      exact xt_i X hr hlocks hNN hw hl h dX10_twin_22
  · skip
    replace h := h.2 c_4
    refine lv_iconst (v := 1) X.1 X.2.1 dX10_twin_9 (by decide) ?_
    exact xt_i X hr hlocks hNN hw hl h dX10_twin_10
end
section
def v_X10_does (x1 : Int32) (x2 : Int32) (x3 : Int32) (x4 : Int32) (S : xs_T) (K : Int32 → xs_T → Prop) : Prop := (((x1 = 0) → ∃ j_1 : Nat, x2 = nI j_1 ∧ j_1 < 10 ∧ ∀ S_4 : xs_T, S_4 = sI S 11 j_1 (x4) → K (0) S_4) ∧ ((x1 = 1) → v_X10_splice (x2) (x3) (x4) S (fun (r_7 : Int32) (S_6 : xs_T) => K (r_7) S_6)) ∧ ((x1 = 2) → v_X10_turn (x2) (x4) S (fun (r_9 : Int32) (S_8 : xs_T) => K (r_9) S_8)) ∧ ((x1 = 3) → v_X10_open (x2) (x4) (0) S (fun (r_11 : Int32) (S_10 : xs_T) => K (r_11) S_10)) ∧ ((x1 = 4) → v_X10_open (x2) (x4) (1) S (fun (r_13 : Int32) (S_12 : xs_T) => K (r_13) S_12)) ∧ ((x1 = 5) → v_X10_makeOn (x2) (x3) (x4) S (fun (r_15 : Int32) (S_14 : xs_T) => K (r_15) S_14)) ∧ ((x1 = 6) → v_X10_twin (x2) (x3) S (fun (r_17 : Int32) (S_16 : xs_T) => K (r_17) S_16)) ∧ ((x1 = 7) → ∃ j_18 : Nat, x3 = nI j_18 ∧ j_18 < 10 ∧ ∃ j_21 : Nat, x3 = nI j_21 ∧ j_21 < 10 ∧ v_X10_hold (x2) ((xI S 9 j_18)) ((xI S 10 j_21)) S (fun (S_24 : xs_T) => K (0) S_24)) ∧ ((x1 = 8) → v_X10_swap (x2) (x3) S (fun (S_26 : xs_T) => K (0) S_26)) ∧ ((x1 = 9) → v_X10_hang (x2) (x3) S (fun (r_29 : Int32) (S_28 : xs_T) => K (r_29) S_28)) ∧ ((x1 = 10) → v_X10_pin (x2) (x4) S (fun (r_31 : Int32) (S_30 : xs_T) => K (r_31) S_30)) ∧ ((x1 = 11) → v_X10_seat (x2) (x3) S (fun (r_33 : Int32) (S_32 : xs_T) => K (r_33) S_32)) ∧ (¬ x1 = 0 → ¬ x1 = 1 → ¬ x1 = 2 → ¬ x1 = 3 → ¬ x1 = 4 → ¬ x1 = 5 → ¬ x1 = 6 → ¬ x1 = 7 → ¬ x1 = 8 → ¬ x1 = 9 → ¬ x1 = 10 → ¬ x1 = 11 → v_X10_lift (x2) (x3) S (fun (r_35 : Int32) (S_34 : xs_T) => K (r_35) S_34)))
set_option maxHeartbeats 4000000 in
set_option maxRecDepth 100000 in
theorem c_X10_does (l : Launch) (Z : xz_T) (et : Nat → Nat) (S : xs_T) (x1 : Int32) (x2 : Int32) (x3 : Int32) (x4 : Int32) (K : Int32 → xs_T → Prop) (h : v_X10_does x1 x2 x3 x4 S K) : Met l yX10_does (wq yX10_does cX10_does 5 (some .int)) { frames := 4, cells := 0, slots := 0, locals := 95 } (xPc Z et S [.ref (et (0)), .int (x1), .int (x2), .int (x3), .int (x4)]) (xQi Z et S.2.2.2.2 K) 0 0 (fun q => Z.2.2.1 ≤ q) := by
  refine Met.ofW (cc := cX10_does) (maxL := 5) (ret := (some .int)) (by decide +kernel) rfl ?_
  intro p e s m args below meth c s₁ B hml hv0
  obtain ⟨rfl, hk, hw⟩ := hv0
  have X : CallFix p m c cX10_does 5 s _ (wq yX10_does cX10_does 5 (some .int)) RX10 := ⟨B.exec, B.bytes, hml, findClass_of_methodNamed B.named, atoms_spec (ws := (wq yX10_does cX10_does 5 (some .int))) B.pre⟩
  have hr := B.returns
  have hlocks := B.notSynchronized
  have hl : xl Z [] := fun _ h => by cases h
  have hNN : S.2.2.2.2 = S.2.2.2.2 := rfl
  have hv := lv_entry [.ref (et (0)), .int (x1), .int (x2), .int (x3), .int (x4)] (n := 5) (Nat.le_of_ble_eq_true rfl)
  rw [lg_entry_eq]
  generalize (lg_sl [.ref (et (0)), .int (x1), .int (x2), .int (x3), .int (x4)] ++ List.replicate (5 - (lg_sl [.ref (et (0)), .int (x1), .int (x2), .int (x3), .int (x4)]).length) Slot.unset).toArray = ls at hv ⊢
  replace hv : lv_has ls 5 [(0, .ref (et (0))), (1, .int (x1)), (2, .int (x2)), (3, .int (x3)), (4, .int (x4))] := hv
  unfold v_X10_does at h
  refine lv_iload_n X.1 X.2.1 dX10_does_0 rfl (lv_at hv 1 rfl) ?_
  have hsw := h
  by_cases k_0 : x1 = 0
  · have h := hsw.1 k_0
    refine lv_tableIn (off := 63) (tgt := 64) X.1 X.2.1 dX10_does_1 (by rw [k_0]; decide) (by rw [k_0]; decide) (by rw [k_0]; rfl) (by decide) ?_
    refine lv_aload_n X.1 X.2.1 dX10_does_64 rfl (lv_at hv 0 rfl) ?_
    refine xw_get X hk hw (i := 0) 11 xe_0 rfl tlX10 (by decide) rfl tw_530 dX10_does_65 ?_
    refine lv_iload_n X.1 X.2.1 dX10_does_68 rfl (lv_at hv 2 rfl) ?_
    refine lv_iload X.1 X.2.1 dX10_does_69 (lv_at hv 4 rfl) ?_
    obtain ⟨j_1, e_2, b_3, h⟩ := h
    refine xw_ist X hk hw hl xe_11 rfl e_2 b_3 (by decide) dX10_does_71 (fun H locs hw hl => ?_)
    obtain ⟨S_4, e_5⟩ : ∃ T : xs_T, T = sI S 11 j_1 (x4) := ⟨_, rfl⟩
    rw [← e_5] at hw
    replace h := h S_4 e_5
    have hN : S_4.2.2.2.2 = S.2.2.2.2 := by rw [e_5]; rfl
    replace hNN := hN.trans hNN
    refine lv_iconst (v := 0) X.1 X.2.1 dX10_does_72 (by decide) ?_
    exact xt_i X hr hlocks hNN hw hl h dX10_does_73
  by_cases k_1 : x1 = 1
  · have h := hsw.2.1 k_1
    refine lv_tableIn (off := 73) (tgt := 74) X.1 X.2.1 dX10_does_1 (by rw [k_1]; decide) (by rw [k_1]; decide) (by rw [k_1]; rfl) (by decide) ?_
    refine lv_aload_n X.1 X.2.1 dX10_does_74 rfl (lv_at hv 0 rfl) ?_
    refine lv_iload_n X.1 X.2.1 dX10_does_75 rfl (lv_at hv 2 rfl) ?_
    refine lv_iload_n X.1 X.2.1 dX10_does_76 rfl (lv_at hv 3 rfl) ?_
    refine lv_iload X.1 X.2.1 dX10_does_77 (lv_at hv 4 rfl) ?_
    refine xc_i (xr_V (n := 3) (As := [.int (x2), .int (x3), .int (x4)]) (i := 0) X hk hw hv.1 (c_X10_splice l Z et S (x2) (x3) (x4) _ h) (tb_V tw_637 tw_634 tw_636 tw_20 tw_44) xe_0 rfl rfl rfl rfl (by decide +kernel) ⟨Nat.le_of_ble_eq_true rfl, Nat.le_of_ble_eq_true rfl⟩ rfl (Nat.le_of_ble_eq_true rfl) dX10_does_79 ⟨Nat.le_of_ble_eq_true rfl, Nat.le_of_ble_eq_true rfl⟩) hl (fun r_7 S_6 H locs h hN hw hl => ?_)
    replace hNN := hN.trans hNN
    exact xt_i X hr hlocks hNN hw hl h dX10_does_82
  by_cases k_2 : x1 = 2
  · have h := hsw.2.2.1 k_2
    refine lv_tableIn (off := 82) (tgt := 83) X.1 X.2.1 dX10_does_1 (by rw [k_2]; decide) (by rw [k_2]; decide) (by rw [k_2]; rfl) (by decide) ?_
    refine lv_aload_n X.1 X.2.1 dX10_does_83 rfl (lv_at hv 0 rfl) ?_
    refine lv_iload_n X.1 X.2.1 dX10_does_84 rfl (lv_at hv 2 rfl) ?_
    refine lv_iload X.1 X.2.1 dX10_does_85 (lv_at hv 4 rfl) ?_
    refine xc_i (xr_V (n := 2) (As := [.int (x2), .int (x4)]) (i := 0) X hk hw hv.1 (c_X10_turn l Z et S (x2) (x4) _ h) (tb_V tw_645 tw_642 tw_644 tw_22 tw_44) xe_0 rfl rfl rfl rfl (by decide +kernel) ⟨Nat.le_of_ble_eq_true rfl, Nat.le_of_ble_eq_true rfl⟩ rfl (Nat.le_of_ble_eq_true rfl) dX10_does_87 ⟨Nat.le_of_ble_eq_true rfl, Nat.le_of_ble_eq_true rfl⟩) hl (fun r_9 S_8 H locs h hN hw hl => ?_)
    replace hNN := hN.trans hNN
    exact xt_i X hr hlocks hNN hw hl h dX10_does_90
  by_cases k_3 : x1 = 3
  · have h := hsw.2.2.2.1 k_3
    refine lv_tableIn (off := 90) (tgt := 91) X.1 X.2.1 dX10_does_1 (by rw [k_3]; decide) (by rw [k_3]; decide) (by rw [k_3]; rfl) (by decide) ?_
    refine lv_aload_n X.1 X.2.1 dX10_does_91 rfl (lv_at hv 0 rfl) ?_
    refine lv_iload_n X.1 X.2.1 dX10_does_92 rfl (lv_at hv 2 rfl) ?_
    refine lv_iload X.1 X.2.1 dX10_does_93 (lv_at hv 4 rfl) ?_
    refine lv_iconst (v := 0) X.1 X.2.1 dX10_does_95 (by decide) ?_
    refine xc_i (xr_V (n := 3) (As := [.int (x2), .int (x4), .int (0)]) (i := 0) X hk hw hv.1 (c_X10_open l Z et S (x2) (x4) (0) _ h) (tb_V tw_649 tw_646 tw_648 tw_23 tw_44) xe_0 rfl rfl rfl rfl (by decide +kernel) ⟨Nat.le_of_ble_eq_true rfl, Nat.le_of_ble_eq_true rfl⟩ rfl (Nat.le_of_ble_eq_true rfl) dX10_does_96 ⟨Nat.le_of_ble_eq_true rfl, Nat.le_of_ble_eq_true rfl⟩) hl (fun r_11 S_10 H locs h hN hw hl => ?_)
    replace hNN := hN.trans hNN
    exact xt_i X hr hlocks hNN hw hl h dX10_does_99
  by_cases k_4 : x1 = 4
  · have h := hsw.2.2.2.2.1 k_4
    refine lv_tableIn (off := 99) (tgt := 100) X.1 X.2.1 dX10_does_1 (by rw [k_4]; decide) (by rw [k_4]; decide) (by rw [k_4]; rfl) (by decide) ?_
    refine lv_aload_n X.1 X.2.1 dX10_does_100 rfl (lv_at hv 0 rfl) ?_
    refine lv_iload_n X.1 X.2.1 dX10_does_101 rfl (lv_at hv 2 rfl) ?_
    refine lv_iload X.1 X.2.1 dX10_does_102 (lv_at hv 4 rfl) ?_
    refine lv_iconst (v := 1) X.1 X.2.1 dX10_does_104 (by decide) ?_
    refine xc_i (xr_V (n := 3) (As := [.int (x2), .int (x4), .int (1)]) (i := 0) X hk hw hv.1 (c_X10_open l Z et S (x2) (x4) (1) _ h) (tb_V tw_649 tw_646 tw_648 tw_23 tw_44) xe_0 rfl rfl rfl rfl (by decide +kernel) ⟨Nat.le_of_ble_eq_true rfl, Nat.le_of_ble_eq_true rfl⟩ rfl (Nat.le_of_ble_eq_true rfl) dX10_does_105 ⟨Nat.le_of_ble_eq_true rfl, Nat.le_of_ble_eq_true rfl⟩) hl (fun r_13 S_12 H locs h hN hw hl => ?_)
    replace hNN := hN.trans hNN
    exact xt_i X hr hlocks hNN hw hl h dX10_does_108
  by_cases k_5 : x1 = 5
  · have h := hsw.2.2.2.2.2.1 k_5
    refine lv_tableIn (off := 108) (tgt := 109) X.1 X.2.1 dX10_does_1 (by rw [k_5]; decide) (by rw [k_5]; decide) (by rw [k_5]; rfl) (by decide) ?_
    refine lv_aload_n X.1 X.2.1 dX10_does_109 rfl (lv_at hv 0 rfl) ?_
    refine lv_iload_n X.1 X.2.1 dX10_does_110 rfl (lv_at hv 2 rfl) ?_
    refine lv_iload_n X.1 X.2.1 dX10_does_111 rfl (lv_at hv 3 rfl) ?_
    refine lv_iload X.1 X.2.1 dX10_does_112 (lv_at hv 4 rfl) ?_
    refine xc_i (xr_V (n := 3) (As := [.int (x2), .int (x3), .int (x4)]) (i := 0) X hk hw hv.1 (c_X10_makeOn l Z et S (x2) (x3) (x4) _ h) (tb_V tw_653 tw_650 tw_652 tw_24 tw_44) xe_0 rfl rfl rfl rfl (by decide +kernel) ⟨Nat.le_of_ble_eq_true rfl, Nat.le_of_ble_eq_true rfl⟩ rfl (Nat.le_of_ble_eq_true rfl) dX10_does_114 ⟨Nat.le_of_ble_eq_true rfl, Nat.le_of_ble_eq_true rfl⟩) hl (fun r_15 S_14 H locs h hN hw hl => ?_)
    replace hNN := hN.trans hNN
    exact xt_i X hr hlocks hNN hw hl h dX10_does_117
  by_cases k_6 : x1 = 6
  · have h := hsw.2.2.2.2.2.2.1 k_6
    refine lv_tableIn (off := 117) (tgt := 118) X.1 X.2.1 dX10_does_1 (by rw [k_6]; decide) (by rw [k_6]; decide) (by rw [k_6]; rfl) (by decide) ?_
    refine lv_aload_n X.1 X.2.1 dX10_does_118 rfl (lv_at hv 0 rfl) ?_
    refine lv_iload_n X.1 X.2.1 dX10_does_119 rfl (lv_at hv 2 rfl) ?_
    refine lv_iload_n X.1 X.2.1 dX10_does_120 rfl (lv_at hv 3 rfl) ?_
    refine xc_i (xr_V (n := 2) (As := [.int (x2), .int (x3)]) (i := 0) X hk hw hv.1 (c_X10_twin l Z et S (x2) (x3) _ h) (tb_V tw_669 tw_666 tw_668 tw_28 tw_44) xe_0 rfl rfl rfl rfl (by decide +kernel) ⟨Nat.le_of_ble_eq_true rfl, Nat.le_of_ble_eq_true rfl⟩ rfl (Nat.le_of_ble_eq_true rfl) dX10_does_121 ⟨Nat.le_of_ble_eq_true rfl, Nat.le_of_ble_eq_true rfl⟩) hl (fun r_17 S_16 H locs h hN hw hl => ?_)
    replace hNN := hN.trans hNN
    exact xt_i X hr hlocks hNN hw hl h dX10_does_124
  by_cases k_7 : x1 = 7
  · have h := hsw.2.2.2.2.2.2.2.1 k_7
    refine lv_tableIn (off := 124) (tgt := 125) X.1 X.2.1 dX10_does_1 (by rw [k_7]; decide) (by rw [k_7]; decide) (by rw [k_7]; rfl) (by decide) ?_
    refine lv_aload_n X.1 X.2.1 dX10_does_125 rfl (lv_at hv 0 rfl) ?_
    refine lv_iload_n X.1 X.2.1 dX10_does_126 rfl (lv_at hv 2 rfl) ?_
    refine lv_aload_n X.1 X.2.1 dX10_does_127 rfl (lv_at hv 0 rfl) ?_
    refine xw_get X hk hw (i := 0) 9 xe_0 rfl tlX10 (by decide) rfl tw_528 dX10_does_128 ?_
    refine lv_iload_n X.1 X.2.1 dX10_does_131 rfl (lv_at hv 3 rfl) ?_
    obtain ⟨j_18, e_19, b_20, h⟩ := h
    refine xw_ild X hk hw xe_9 e_19 b_20 (by decide) dX10_does_132 ?_
    refine lv_aload_n X.1 X.2.1 dX10_does_133 rfl (lv_at hv 0 rfl) ?_
    refine xw_get X hk hw (i := 0) 10 xe_0 rfl tlX10 (by decide) rfl tw_529 dX10_does_134 ?_
    refine lv_iload_n X.1 X.2.1 dX10_does_137 rfl (lv_at hv 3 rfl) ?_
    obtain ⟨j_21, e_22, b_23, h⟩ := h
    refine xw_ild X hk hw xe_10 e_22 b_23 (by decide) dX10_does_138 ?_
    refine xc_v (xr_V (n := 3) (As := [.int (x2), .int ((xI S 9 j_18)), .int ((xI S 10 j_21))]) (i := 0) X hk hw hv.1 (c_X10_hold l Z et S (x2) ((xI S 9 j_18)) ((xI S 10 j_21)) _ h) (tb_V tw_665 tw_662 tw_664 tw_27 tw_44) xe_0 rfl rfl rfl rfl (by decide +kernel) ⟨Nat.le_of_ble_eq_true rfl, Nat.le_of_ble_eq_true rfl⟩ rfl (Nat.le_of_ble_eq_true rfl) dX10_does_139 ⟨Nat.le_of_ble_eq_true rfl, Nat.le_of_ble_eq_true rfl⟩) hl (fun S_24 H locs h hN hw hl => ?_)
    replace hNN := hN.trans hNN
    refine lv_iconst (v := 0) X.1 X.2.1 dX10_does_142 (by decide) ?_
    exact xt_i X hr hlocks hNN hw hl h dX10_does_143
  by_cases k_8 : x1 = 8
  · have h := hsw.2.2.2.2.2.2.2.2.1 k_8
    refine lv_tableIn (off := 143) (tgt := 144) X.1 X.2.1 dX10_does_1 (by rw [k_8]; decide) (by rw [k_8]; decide) (by rw [k_8]; rfl) (by decide) ?_
    refine lv_aload_n X.1 X.2.1 dX10_does_144 rfl (lv_at hv 0 rfl) ?_
    refine lv_iload_n X.1 X.2.1 dX10_does_145 rfl (lv_at hv 2 rfl) ?_
    refine lv_iload_n X.1 X.2.1 dX10_does_146 rfl (lv_at hv 3 rfl) ?_
    refine xc_v (xr_V (n := 2) (As := [.int (x2), .int (x3)]) (i := 0) X hk hw hv.1 (c_X10_swap l Z et S (x2) (x3) _ h) (tb_V tw_673 tw_670 tw_672 tw_29 tw_44) xe_0 rfl rfl rfl rfl (by decide +kernel) ⟨Nat.le_of_ble_eq_true rfl, Nat.le_of_ble_eq_true rfl⟩ rfl (Nat.le_of_ble_eq_true rfl) dX10_does_147 ⟨Nat.le_of_ble_eq_true rfl, Nat.le_of_ble_eq_true rfl⟩) hl (fun S_26 H locs h hN hw hl => ?_)
    replace hNN := hN.trans hNN
    refine lv_iconst (v := 0) X.1 X.2.1 dX10_does_150 (by decide) ?_
    exact xt_i X hr hlocks hNN hw hl h dX10_does_151
  by_cases k_9 : x1 = 9
  · have h := hsw.2.2.2.2.2.2.2.2.2.1 k_9
    refine lv_tableIn (off := 151) (tgt := 152) X.1 X.2.1 dX10_does_1 (by rw [k_9]; decide) (by rw [k_9]; decide) (by rw [k_9]; rfl) (by decide) ?_
    refine lv_aload_n X.1 X.2.1 dX10_does_152 rfl (lv_at hv 0 rfl) ?_
    refine lv_iload_n X.1 X.2.1 dX10_does_153 rfl (lv_at hv 2 rfl) ?_
    refine lv_iload_n X.1 X.2.1 dX10_does_154 rfl (lv_at hv 3 rfl) ?_
    refine xc_i (xr_V (n := 2) (As := [.int (x2), .int (x3)]) (i := 0) X hk hw hv.1 (c_X10_hang l Z et S (x2) (x3) _ h) (tb_V tw_677 tw_674 tw_676 tw_30 tw_44) xe_0 rfl rfl rfl rfl (by decide +kernel) ⟨Nat.le_of_ble_eq_true rfl, Nat.le_of_ble_eq_true rfl⟩ rfl (Nat.le_of_ble_eq_true rfl) dX10_does_155 ⟨Nat.le_of_ble_eq_true rfl, Nat.le_of_ble_eq_true rfl⟩) hl (fun r_29 S_28 H locs h hN hw hl => ?_)
    replace hNN := hN.trans hNN
    exact xt_i X hr hlocks hNN hw hl h dX10_does_158
  by_cases k_10 : x1 = 10
  · have h := hsw.2.2.2.2.2.2.2.2.2.2.1 k_10
    refine lv_tableIn (off := 158) (tgt := 159) X.1 X.2.1 dX10_does_1 (by rw [k_10]; decide) (by rw [k_10]; decide) (by rw [k_10]; rfl) (by decide) ?_
    refine lv_aload_n X.1 X.2.1 dX10_does_159 rfl (lv_at hv 0 rfl) ?_
    refine lv_iload_n X.1 X.2.1 dX10_does_160 rfl (lv_at hv 2 rfl) ?_
    refine lv_iload X.1 X.2.1 dX10_does_161 (lv_at hv 4 rfl) ?_
    refine xc_i (xr_V (n := 2) (As := [.int (x2), .int (x4)]) (i := 0) X hk hw hv.1 (c_X10_pin l Z et S (x2) (x4) _ h) (tb_V tw_681 tw_678 tw_680 tw_31 tw_44) xe_0 rfl rfl rfl rfl (by decide +kernel) ⟨Nat.le_of_ble_eq_true rfl, Nat.le_of_ble_eq_true rfl⟩ rfl (Nat.le_of_ble_eq_true rfl) dX10_does_163 ⟨Nat.le_of_ble_eq_true rfl, Nat.le_of_ble_eq_true rfl⟩) hl (fun r_31 S_30 H locs h hN hw hl => ?_)
    replace hNN := hN.trans hNN
    exact xt_i X hr hlocks hNN hw hl h dX10_does_166
  by_cases k_11 : x1 = 11
  · have h := hsw.2.2.2.2.2.2.2.2.2.2.2.1 k_11
    refine lv_tableIn (off := 166) (tgt := 167) X.1 X.2.1 dX10_does_1 (by rw [k_11]; decide) (by rw [k_11]; decide) (by rw [k_11]; rfl) (by decide) ?_
    refine lv_aload_n X.1 X.2.1 dX10_does_167 rfl (lv_at hv 0 rfl) ?_
    refine lv_iload_n X.1 X.2.1 dX10_does_168 rfl (lv_at hv 2 rfl) ?_
    refine lv_iload_n X.1 X.2.1 dX10_does_169 rfl (lv_at hv 3 rfl) ?_
    refine xc_i (xr_V (n := 2) (As := [.int (x2), .int (x3)]) (i := 0) X hk hw hv.1 (c_X10_seat l Z et S (x2) (x3) _ h) (tb_V tw_709 tw_706 tw_708 tw_32 tw_44) xe_0 rfl rfl rfl rfl (by decide +kernel) ⟨Nat.le_of_ble_eq_true rfl, Nat.le_of_ble_eq_true rfl⟩ rfl (Nat.le_of_ble_eq_true rfl) dX10_does_170 ⟨Nat.le_of_ble_eq_true rfl, Nat.le_of_ble_eq_true rfl⟩) hl (fun r_33 S_32 H locs h hN hw hl => ?_)
    replace hNN := hN.trans hNN
    exact xt_i X hr hlocks hNN hw hl h dX10_does_173
  have h := hsw.2.2.2.2.2.2.2.2.2.2.2.2 k_0 k_1 k_2 k_3 k_4 k_5 k_6 k_7 k_8 k_9 k_10 k_11
  have n_0 := lv_neT k_0 (a := 0) (by decide)
  have n_1 := lv_neT k_1 (a := 1) (by decide)
  have n_2 := lv_neT k_2 (a := 2) (by decide)
  have n_3 := lv_neT k_3 (a := 3) (by decide)
  have n_4 := lv_neT k_4 (a := 4) (by decide)
  have n_5 := lv_neT k_5 (a := 5) (by decide)
  have n_6 := lv_neT k_6 (a := 6) (by decide)
  have n_7 := lv_neT k_7 (a := 7) (by decide)
  have n_8 := lv_neT k_8 (a := 8) (by decide)
  have n_9 := lv_neT k_9 (a := 9) (by decide)
  have n_10 := lv_neT k_10 (a := 10) (by decide)
  have n_11 := lv_neT k_11 (a := 11) (by decide)
  refine lv_tableOut (tgt := 174) X.1 X.2.1 dX10_does_1 (by omega) (by decide) ?_
  refine lv_aload_n X.1 X.2.1 dX10_does_174 rfl (lv_at hv 0 rfl) ?_
  refine lv_iload_n X.1 X.2.1 dX10_does_175 rfl (lv_at hv 2 rfl) ?_
  refine lv_iload_n X.1 X.2.1 dX10_does_176 rfl (lv_at hv 3 rfl) ?_
  refine xc_i (xr_V (n := 2) (As := [.int (x2), .int (x3)]) (i := 0) X hk hw hv.1 (c_X10_lift l Z et S (x2) (x3) _ h) (tb_V tw_713 tw_710 tw_712 tw_33 tw_44) xe_0 rfl rfl rfl rfl (by decide +kernel) ⟨Nat.le_of_ble_eq_true rfl, Nat.le_of_ble_eq_true rfl⟩ rfl (Nat.le_of_ble_eq_true rfl) dX10_does_177 ⟨Nat.le_of_ble_eq_true rfl, Nat.le_of_ble_eq_true rfl⟩) hl (fun r_35 S_34 H locs h hN hw hl => ?_)
  replace hNN := hN.trans hNN
  exact xt_i X hr hlocks hNN hw hl h dX10_does_180
def v_X10_write_90 (K : xs_T → Prop) : Nat → Int32 → Int32 → xs_T → Prop
  | 0, _, _, _ => False
  | n + 1, a1, a2, S => ∃ j_19 : Nat, a1 = nI j_19 ∧ j_19 < 120 ∧ (((xI S 2 j_19) ≤ a2 → ∀ S_23 : xs_T, S_23 = sF S 0 18 (((xF S 0 18) + 1)) → K S_23) ∧ (¬ (xI S 2 j_19) ≤ a2 → ∃ j_25 : Nat, a2 = nI j_25 ∧ j_25 < 64 ∧ ∃ j_28 : Nat, ((64 * (xF S 0 18)) + a2) = nI j_28 ∧ j_28 < 1280 ∧ ∀ S_31 : xs_T, S_31 = sL S 20 j_28 ((xL S 21 j_25)) → v_X10_write_90 K n (a1) ((a2 + 1)) S_31))
def v_X10_write_78 (K : xs_T → Prop) (a1 : Int32) (S : xs_T) : Prop := ∃ j_3 : Nat, (xF S 0 18) = nI j_3 ∧ j_3 < 20 ∧ ∀ S_6 : xs_T, S_6 = sI S 19 j_3 (a1) → ∃ n, v_X10_write_90 K n (a1) (0) S_6
def v_X10_write_40 (K : xs_T → Prop) : Nat → Int32 → Int32 → xs_T → Prop
  | 0, _, _, _ => False
  | n + 1, a1, a2, S => ((1280 ≤ a2 → ∀ S_34 : xs_T, S_34 = sF S 0 18 (((xF S 0 18) - 1)) → v_X10_write_78 K (a1) S_34) ∧ (¬ 1280 ≤ a2 → ∃ j_36 : Nat, a2 = nI j_36 ∧ j_36 < 1280 ∧ ∃ j_39 : Nat, (a2 - 64) = nI j_39 ∧ j_39 < 1280 ∧ ∀ S_42 : xs_T, S_42 = sL S 20 j_39 ((xL S 20 j_36)) → v_X10_write_40 K n (a1) ((a2 + 1)) S_42))
def v_X10_write_11 (K : xs_T → Prop) : Nat → Int32 → Int32 → xs_T → Prop
  | 0, _, _, _ => False
  | n + 1, a1, a2, S => ((20 ≤ a2 → ∃ n, v_X10_write_40 K n (a1) (64) S) ∧ (¬ 20 ≤ a2 → ∃ j_11 : Nat, a2 = nI j_11 ∧ j_11 < 20 ∧ ∃ j_14 : Nat, (a2 - 1) = nI j_14 ∧ j_14 < 20 ∧ ∀ S_17 : xs_T, S_17 = sI S 19 j_14 ((xI S 19 j_11)) → v_X10_write_11 K n (a1) ((a2 + 1)) S_17))
def v_X10_write (x1 : Int32) (S : xs_T) (K : xs_T → Prop) : Prop := ((¬ (xF S 0 18) = 20 → v_X10_write_78 K (x1) S) ∧ ((xF S 0 18) = 20 → ∃ n, v_X10_write_11 K n (x1) (1) S))
set_option maxHeartbeats 4000000 in
set_option maxRecDepth 100000 in
theorem j_X10_write_90 {l : Launch} {p : Program} {e : Env} {s : State} {m : MethodId} {args : Array Value} {below : List Frame} {meth : Method} {c : Code} {Z : xz_T} {et : Nat → Nat} {Nn : Nat → Nat} {K : xs_T → Prop} (X : CallFix p m c cX10_write 3 s args (wq yX10_write cX10_write 3 none) RX10) (hk : xk Z s) (hr : meth.sig.returnType = none) (hlocks : meth.locks = false) : ∀ (n : Nat) (a1 : Int32) (a2 : Int32) (S : xs_T) (H : Heap) (locs : List Loc) (ls : Array Slot), v_X10_write_90 K n a1 a2 S → S.2.2.2.2 = Nn → wd Z et S H → xl Z locs → lv_has ls 3 [(0, .ref (et (0))), (1, .int (a1)), (2, .int (a2))] → W p l e (headSpec (wq yX10_write cX10_write 3 none) { frames := 0, cells := 0, slots := 0, locals := 0 }).room s m args below meth c H locs 0 0 (MQ below (xQv Z et Nn K) args s 0 0 (fun q => Z.2.2.1 ≤ q)) (F0 m 90 ls []) := by
  intro n
  induction n with
  | zero =>
    intro a1 a2 S H locs ls h hNN hw hl hv
    exact False.elim h
  | succ n ih =>
    intro a1 a2 S H locs ls h hNN hw hl hv
    rw [v_X10_write_90] at h
    refine lv_iload_n X.1 X.2.1 dX10_write_90 rfl (lv_at hv 2 rfl) ?_
    refine lv_aload_n X.1 X.2.1 dX10_write_91 rfl (lv_at hv 0 rfl) ?_
    refine xw_get X hk hw (i := 0) 2 xe_0 rfl tlX10 (by decide) rfl tw_521 dX10_write_92 ?_
    refine lv_iload_n X.1 X.2.1 dX10_write_95 rfl (lv_at hv 1 rfl) ?_
    obtain ⟨j_19, e_20, b_21, h⟩ := h
    refine xw_ild X hk hw xe_2 e_20 b_21 (by decide) dX10_write_96 ?_
    refine lv_icmp_ge (tgt := 126) X.1 X.2.1 dX10_write_97 (by decide) (fun c_22 => ?_) (fun c_22 => ?_)
    · skip
      replace h := h.1 c_22
      refine lv_aload_n X.1 X.2.1 dX10_write_126 rfl (lv_at hv 0 rfl) ?_
      refine lv_dup X.1 X.2.1 dX10_write_127 rfl ?_
      refine xw_get X hk hw (i := 0) 18 xe_0 rfl tlX10 (by decide) rfl tw_537 dX10_write_128 ?_
      refine lv_iconst (v := 1) X.1 X.2.1 dX10_write_131 (by decide) ?_
      refine lv_iadd X.1 X.2.1 dX10_write_132 ?_
      refine xw_put X hk hw hl (i := 0) 18 xe_0 rfl rfl tlX10 tyX10 tyX10_ok nmX10 (by decide) tw_537 rfl rfl (Nat.le_of_ble_eq_true rfl) dX10_write_133 (fun H locs hw hl => ?_)
      obtain ⟨S_23, e_24⟩ : ∃ T : xs_T, T = sF S 0 18 (((xF S 0 18) + 1)) := ⟨_, rfl⟩
      rw [← e_24] at hw
      replace h := h S_23 e_24
      have hN : S_23.2.2.2.2 = S.2.2.2.2 := by rw [e_24]; rfl
      replace hNN := hN.trans hNN
      exact xt_v X hr hlocks hNN hw hl h dX10_write_136
    · skip
      replace h := h.2 c_22
      refine lv_aload_n X.1 X.2.1 dX10_write_100 rfl (lv_at hv 0 rfl) ?_
      refine xw_get X hk hw (i := 0) 20 xe_0 rfl tlX10 (by decide) rfl tw_539 dX10_write_101 ?_
      refine lv_bipush (v := 64) X.1 X.2.1 dX10_write_104 (by decide) ?_
      refine lv_aload_n X.1 X.2.1 dX10_write_106 rfl (lv_at hv 0 rfl) ?_
      refine xw_get X hk hw (i := 0) 18 xe_0 rfl tlX10 (by decide) rfl tw_537 dX10_write_107 ?_
      refine lv_imul X.1 X.2.1 dX10_write_110 ?_
      refine lv_iload_n X.1 X.2.1 dX10_write_111 rfl (lv_at hv 2 rfl) ?_
      refine lv_iadd X.1 X.2.1 dX10_write_112 ?_
      refine lv_aload_n X.1 X.2.1 dX10_write_113 rfl (lv_at hv 0 rfl) ?_
      refine xw_get X hk hw (i := 0) 21 xe_0 rfl tlX10 (by decide) rfl tw_540 dX10_write_114 ?_
      refine lv_iload_n X.1 X.2.1 dX10_write_117 rfl (lv_at hv 2 rfl) ?_
      obtain ⟨j_25, e_26, b_27, h⟩ := h
      refine xw_lld X hk hw xe_21 e_26 b_27 (by decide) dX10_write_118 ?_
      obtain ⟨j_28, e_29, b_30, h⟩ := h
      refine xw_lst X hk hw hl xe_20 rfl e_29 b_30 (by decide) dX10_write_119 (fun H locs hw hl => ?_)
      obtain ⟨S_31, e_32⟩ : ∃ T : xs_T, T = sL S 20 j_28 ((xL S 21 j_25)) := ⟨_, rfl⟩
      rw [← e_32] at hw
      replace h := h S_31 e_32
      have hN : S_31.2.2.2.2 = S.2.2.2.2 := by rw [e_32]; rfl
      replace hNN := hN.trans hNN
      refine lv_iinc (v := (a2 + 1)) (lv' := [(2, .int ((a2 + 1))), (0, .ref (et (0))), (1, .int (a1))]) X.1 X.2.1 dX10_write_120 hv (k := 2) rfl rfl (by decide) rfl (fun ls hv => ?_)
      refine lv_goto (tgt := 90) X.1 X.2.1 dX10_write_123 (by decide) ?_
      exact ih (a1) ((a2 + 1)) S_31 _ _ _ h hNN hw hl (lv_sub hv [1, 2, 0] rfl)
set_option maxHeartbeats 4000000 in
set_option maxRecDepth 100000 in
theorem j_X10_write_78 {l : Launch} {p : Program} {e : Env} {s : State} {m : MethodId} {args : Array Value} {below : List Frame} {meth : Method} {c : Code} {Z : xz_T} {et : Nat → Nat} {Nn : Nat → Nat} {K : xs_T → Prop} (X : CallFix p m c cX10_write 3 s args (wq yX10_write cX10_write 3 none) RX10) (hk : xk Z s) (hr : meth.sig.returnType = none) (hlocks : meth.locks = false) : ∀ (a1 : Int32) (S : xs_T) (H : Heap) (locs : List Loc) (ls : Array Slot), v_X10_write_78 K a1 S → S.2.2.2.2 = Nn → wd Z et S H → xl Z locs → lv_has ls 3 [(0, .ref (et (0))), (1, .int (a1))] → W p l e (headSpec (wq yX10_write cX10_write 3 none) { frames := 0, cells := 0, slots := 0, locals := 0 }).room s m args below meth c H locs 0 0 (MQ below (xQv Z et Nn K) args s 0 0 (fun q => Z.2.2.1 ≤ q)) (F0 m 78 ls []) := by
  intro a1 S H locs ls h hNN hw hl hv
  unfold v_X10_write_78 at h
  refine lv_aload_n X.1 X.2.1 dX10_write_78 rfl (lv_at hv 0 rfl) ?_
  refine xw_get X hk hw (i := 0) 19 xe_0 rfl tlX10 (by decide) rfl tw_538 dX10_write_79 ?_
  refine lv_aload_n X.1 X.2.1 dX10_write_82 rfl (lv_at hv 0 rfl) ?_
  refine xw_get X hk hw (i := 0) 18 xe_0 rfl tlX10 (by decide) rfl tw_537 dX10_write_83 ?_
  refine lv_iload_n X.1 X.2.1 dX10_write_86 rfl (lv_at hv 1 rfl) ?_
  obtain ⟨j_3, e_4, b_5, h⟩ := h
  refine xw_ist X hk hw hl xe_19 rfl e_4 b_5 (by decide) dX10_write_87 (fun H locs hw hl => ?_)
  obtain ⟨S_6, e_7⟩ : ∃ T : xs_T, T = sI S 19 j_3 (a1) := ⟨_, rfl⟩
  rw [← e_7] at hw
  replace h := h S_6 e_7
  have hN : S_6.2.2.2.2 = S.2.2.2.2 := by rw [e_7]; rfl
  replace hNN := hN.trans hNN
  refine lv_iconst (v := 0) X.1 X.2.1 dX10_write_88 (by decide) ?_
  refine lv_istore_n (lv' := [(2, .int (0)), (0, .ref (et (0))), (1, .int (a1))]) X.1 X.2.1 dX10_write_89 rfl hv (by decide) rfl (fun ls hv => ?_)
  obtain ⟨n_8, h⟩ := h
  exact j_X10_write_90 X hk hr hlocks n_8 (a1) (0) S_6 _ _ _ h hNN hw hl (lv_sub hv [1, 2, 0] rfl)
set_option maxHeartbeats 4000000 in
set_option maxRecDepth 100000 in
theorem j_X10_write_40 {l : Launch} {p : Program} {e : Env} {s : State} {m : MethodId} {args : Array Value} {below : List Frame} {meth : Method} {c : Code} {Z : xz_T} {et : Nat → Nat} {Nn : Nat → Nat} {K : xs_T → Prop} (X : CallFix p m c cX10_write 3 s args (wq yX10_write cX10_write 3 none) RX10) (hk : xk Z s) (hr : meth.sig.returnType = none) (hlocks : meth.locks = false) : ∀ (n : Nat) (a1 : Int32) (a2 : Int32) (S : xs_T) (H : Heap) (locs : List Loc) (ls : Array Slot), v_X10_write_40 K n a1 a2 S → S.2.2.2.2 = Nn → wd Z et S H → xl Z locs → lv_has ls 3 [(0, .ref (et (0))), (1, .int (a1)), (2, .int (a2))] → W p l e (headSpec (wq yX10_write cX10_write 3 none) { frames := 0, cells := 0, slots := 0, locals := 0 }).room s m args below meth c H locs 0 0 (MQ below (xQv Z et Nn K) args s 0 0 (fun q => Z.2.2.1 ≤ q)) (F0 m 40 ls []) := by
  intro n
  induction n with
  | zero =>
    intro a1 a2 S H locs ls h hNN hw hl hv
    exact False.elim h
  | succ n ih =>
    intro a1 a2 S H locs ls h hNN hw hl hv
    rw [v_X10_write_40] at h
    refine lv_iload_n X.1 X.2.1 dX10_write_40 rfl (lv_at hv 2 rfl) ?_
    refine lv_sipush (v := 1280) X.1 X.2.1 dX10_write_41 (by decide) ?_
    refine lv_icmp_ge (tgt := 68) X.1 X.2.1 dX10_write_44 (by decide) (fun c_33 => ?_) (fun c_33 => ?_)
    · skip
      replace h := h.1 c_33
      refine lv_aload_n X.1 X.2.1 dX10_write_68 rfl (lv_at hv 0 rfl) ?_
      refine lv_dup X.1 X.2.1 dX10_write_69 rfl ?_
      refine xw_get X hk hw (i := 0) 18 xe_0 rfl tlX10 (by decide) rfl tw_537 dX10_write_70 ?_
      refine lv_iconst (v := 1) X.1 X.2.1 dX10_write_73 (by decide) ?_
      refine lv_isub X.1 X.2.1 dX10_write_74 ?_
      refine xw_put X hk hw hl (i := 0) 18 xe_0 rfl rfl tlX10 tyX10 tyX10_ok nmX10 (by decide) tw_537 rfl rfl (Nat.le_of_ble_eq_true rfl) dX10_write_75 (fun H locs hw hl => ?_)
      obtain ⟨S_34, e_35⟩ : ∃ T : xs_T, T = sF S 0 18 (((xF S 0 18) - 1)) := ⟨_, rfl⟩
      rw [← e_35] at hw
      replace h := h S_34 e_35
      have hN : S_34.2.2.2.2 = S.2.2.2.2 := by rw [e_35]; rfl
      replace hNN := hN.trans hNN
      exact j_X10_write_78 X hk hr hlocks (a1) S_34 _ _ _ h hNN hw hl (lv_sub hv [0, 1] rfl)
    · skip
      replace h := h.2 c_33
      refine lv_aload_n X.1 X.2.1 dX10_write_47 rfl (lv_at hv 0 rfl) ?_
      refine xw_get X hk hw (i := 0) 20 xe_0 rfl tlX10 (by decide) rfl tw_539 dX10_write_48 ?_
      refine lv_iload_n X.1 X.2.1 dX10_write_51 rfl (lv_at hv 2 rfl) ?_
      refine lv_bipush (v := 64) X.1 X.2.1 dX10_write_52 (by decide) ?_
      refine lv_isub X.1 X.2.1 dX10_write_54 ?_
      refine lv_aload_n X.1 X.2.1 dX10_write_55 rfl (lv_at hv 0 rfl) ?_
      refine xw_get X hk hw (i := 0) 20 xe_0 rfl tlX10 (by decide) rfl tw_539 dX10_write_56 ?_
      refine lv_iload_n X.1 X.2.1 dX10_write_59 rfl (lv_at hv 2 rfl) ?_
      obtain ⟨j_36, e_37, b_38, h⟩ := h
      refine xw_lld X hk hw xe_20 e_37 b_38 (by decide) dX10_write_60 ?_
      obtain ⟨j_39, e_40, b_41, h⟩ := h
      refine xw_lst X hk hw hl xe_20 rfl e_40 b_41 (by decide) dX10_write_61 (fun H locs hw hl => ?_)
      obtain ⟨S_42, e_43⟩ : ∃ T : xs_T, T = sL S 20 j_39 ((xL S 20 j_36)) := ⟨_, rfl⟩
      rw [← e_43] at hw
      replace h := h S_42 e_43
      have hN : S_42.2.2.2.2 = S.2.2.2.2 := by rw [e_43]; rfl
      replace hNN := hN.trans hNN
      refine lv_iinc (v := (a2 + 1)) (lv' := [(2, .int ((a2 + 1))), (0, .ref (et (0))), (1, .int (a1))]) X.1 X.2.1 dX10_write_62 hv (k := 2) rfl rfl (by decide) rfl (fun ls hv => ?_)
      refine lv_goto (tgt := 40) X.1 X.2.1 dX10_write_65 (by decide) ?_
      exact ih (a1) ((a2 + 1)) S_42 _ _ _ h hNN hw hl (lv_sub hv [1, 2, 0] rfl)
set_option maxHeartbeats 4000000 in
set_option maxRecDepth 100000 in
theorem j_X10_write_11 {l : Launch} {p : Program} {e : Env} {s : State} {m : MethodId} {args : Array Value} {below : List Frame} {meth : Method} {c : Code} {Z : xz_T} {et : Nat → Nat} {Nn : Nat → Nat} {K : xs_T → Prop} (X : CallFix p m c cX10_write 3 s args (wq yX10_write cX10_write 3 none) RX10) (hk : xk Z s) (hr : meth.sig.returnType = none) (hlocks : meth.locks = false) : ∀ (n : Nat) (a1 : Int32) (a2 : Int32) (S : xs_T) (H : Heap) (locs : List Loc) (ls : Array Slot), v_X10_write_11 K n a1 a2 S → S.2.2.2.2 = Nn → wd Z et S H → xl Z locs → lv_has ls 3 [(0, .ref (et (0))), (1, .int (a1)), (2, .int (a2))] → W p l e (headSpec (wq yX10_write cX10_write 3 none) { frames := 0, cells := 0, slots := 0, locals := 0 }).room s m args below meth c H locs 0 0 (MQ below (xQv Z et Nn K) args s 0 0 (fun q => Z.2.2.1 ≤ q)) (F0 m 11 ls []) := by
  intro n
  induction n with
  | zero =>
    intro a1 a2 S H locs ls h hNN hw hl hv
    exact False.elim h
  | succ n ih =>
    intro a1 a2 S H locs ls h hNN hw hl hv
    rw [v_X10_write_11] at h
    refine lv_iload_n X.1 X.2.1 dX10_write_11 rfl (lv_at hv 2 rfl) ?_
    refine lv_bipush (v := 20) X.1 X.2.1 dX10_write_12 (by decide) ?_
    refine lv_icmp_ge (tgt := 37) X.1 X.2.1 dX10_write_14 (by decide) (fun c_9 => ?_) (fun c_9 => ?_)
    · skip
      replace h := h.1 c_9
      refine lv_bipush (v := 64) X.1 X.2.1 dX10_write_37 (by decide) ?_
      refine lv_istore_n (lv' := [(2, .int (64)), (0, .ref (et (0))), (1, .int (a1))]) X.1 X.2.1 dX10_write_39 rfl hv (by decide) rfl (fun ls hv => ?_)
      obtain ⟨n_10, h⟩ := h
      exact j_X10_write_40 X hk hr hlocks n_10 (a1) (64) S _ _ _ h hNN hw hl (lv_sub hv [1, 2, 0] rfl)
    · skip
      replace h := h.2 c_9
      refine lv_aload_n X.1 X.2.1 dX10_write_17 rfl (lv_at hv 0 rfl) ?_
      refine xw_get X hk hw (i := 0) 19 xe_0 rfl tlX10 (by decide) rfl tw_538 dX10_write_18 ?_
      refine lv_iload_n X.1 X.2.1 dX10_write_21 rfl (lv_at hv 2 rfl) ?_
      refine lv_iconst (v := 1) X.1 X.2.1 dX10_write_22 (by decide) ?_
      refine lv_isub X.1 X.2.1 dX10_write_23 ?_
      refine lv_aload_n X.1 X.2.1 dX10_write_24 rfl (lv_at hv 0 rfl) ?_
      refine xw_get X hk hw (i := 0) 19 xe_0 rfl tlX10 (by decide) rfl tw_538 dX10_write_25 ?_
      refine lv_iload_n X.1 X.2.1 dX10_write_28 rfl (lv_at hv 2 rfl) ?_
      obtain ⟨j_11, e_12, b_13, h⟩ := h
      refine xw_ild X hk hw xe_19 e_12 b_13 (by decide) dX10_write_29 ?_
      obtain ⟨j_14, e_15, b_16, h⟩ := h
      refine xw_ist X hk hw hl xe_19 rfl e_15 b_16 (by decide) dX10_write_30 (fun H locs hw hl => ?_)
      obtain ⟨S_17, e_18⟩ : ∃ T : xs_T, T = sI S 19 j_14 ((xI S 19 j_11)) := ⟨_, rfl⟩
      rw [← e_18] at hw
      replace h := h S_17 e_18
      have hN : S_17.2.2.2.2 = S.2.2.2.2 := by rw [e_18]; rfl
      replace hNN := hN.trans hNN
      refine lv_iinc (v := (a2 + 1)) (lv' := [(2, .int ((a2 + 1))), (0, .ref (et (0))), (1, .int (a1))]) X.1 X.2.1 dX10_write_31 hv (k := 2) rfl rfl (by decide) rfl (fun ls hv => ?_)
      refine lv_goto (tgt := 11) X.1 X.2.1 dX10_write_34 (by decide) ?_
      exact ih (a1) ((a2 + 1)) S_17 _ _ _ h hNN hw hl (lv_sub hv [1, 2, 0] rfl)
set_option maxHeartbeats 4000000 in
set_option maxRecDepth 100000 in
theorem c_X10_write (l : Launch) (Z : xz_T) (et : Nat → Nat) (S : xs_T) (x1 : Int32) (K : xs_T → Prop) (h : v_X10_write x1 S K) : Met l yX10_write (wq yX10_write cX10_write 3 none) { frames := 0, cells := 0, slots := 0, locals := 0 } (xPc Z et S [.ref (et (0)), .int (x1)]) (xQv Z et S.2.2.2.2 K) 0 0 (fun q => Z.2.2.1 ≤ q) := by
  refine Met.ofW (cc := cX10_write) (maxL := 3) (ret := none) (by decide +kernel) rfl ?_
  intro p e s m args below meth c s₁ B hml hv0
  obtain ⟨rfl, hk, hw⟩ := hv0
  have X : CallFix p m c cX10_write 3 s _ (wq yX10_write cX10_write 3 none) RX10 := ⟨B.exec, B.bytes, hml, findClass_of_methodNamed B.named, atoms_spec (ws := (wq yX10_write cX10_write 3 none)) B.pre⟩
  have hr := B.returns
  have hlocks := B.notSynchronized
  have hl : xl Z [] := fun _ h => by cases h
  have hNN : S.2.2.2.2 = S.2.2.2.2 := rfl
  have hv := lv_entry [.ref (et (0)), .int (x1)] (n := 3) (Nat.le_of_ble_eq_true rfl)
  rw [lg_entry_eq]
  generalize (lg_sl [.ref (et (0)), .int (x1)] ++ List.replicate (3 - (lg_sl [.ref (et (0)), .int (x1)]).length) Slot.unset).toArray = ls at hv ⊢
  replace hv : lv_has ls 3 [(0, .ref (et (0))), (1, .int (x1))] := hv
  unfold v_X10_write at h
  refine lv_aload_n X.1 X.2.1 dX10_write_0 rfl (lv_at hv 0 rfl) ?_
  refine xw_get X hk hw (i := 0) 18 xe_0 rfl tlX10 (by decide) rfl tw_537 dX10_write_1 ?_
  refine lv_bipush (v := 20) X.1 X.2.1 dX10_write_4 (by decide) ?_
  refine lv_icmp_ne (tgt := 78) X.1 X.2.1 dX10_write_6 (by decide) (fun c_1 => ?_) (fun c_1 => ?_)
  · skip
    replace h := h.1 c_1
    exact j_X10_write_78 X hk hr hlocks (x1) S _ _ _ h hNN hw hl (lv_sub hv [0, 1] rfl)
  · skip
    replace h := h.2 c_1
    refine lv_iconst (v := 1) X.1 X.2.1 dX10_write_9 (by decide) ?_
    refine lv_istore_n (lv' := [(2, .int (1)), (0, .ref (et (0))), (1, .int (x1))]) X.1 X.2.1 dX10_write_10 rfl hv (by decide) rfl (fun ls hv => ?_)
    obtain ⟨n_2, h⟩ := h
    exact j_X10_write_11 X hk hr hlocks n_2 (x1) (1) S _ _ _ h hNN hw hl (lv_sub hv [1, 2, 0] rfl)
def v_X10_begin_198 (K : Int32 → xs_T → Prop) (a6 : Int32) (S : xs_T) : Prop := ((a6 ≤ 0 → ∀ S_67 : xs_T, S_67 = sF S 0 24 ((xF S 0 24)) → K (a6) S_67) ∧ (¬ a6 ≤ 0 → ∀ S_69 : xs_T, S_69 = sF S 0 24 (((xF S 0 24) + 1)) → K (a6) S_69))
def v_X10_begin_187 (K : Int32 → xs_T → Prop) (a5 : Int32) (a6 : Int32) (a7 : Int32) (S : xs_T) : Prop := ((a7 = 0 → v_X10_begin_198 K (a6) S) ∧ (¬ a7 = 0 → v_X10_write (a5) S (fun (S_64 : xs_T) => v_X10_begin_198 K (a6) S_64)))
def v_X10_begin_126 (K : Int32 → xs_T → Prop) : Nat → Int32 → Int32 → Int32 → Int32 → xs_T → Prop
  | 0, _, _, _, _, _ => False
  | n + 1, a5, a6, a7, a8, S => ((a5 < 0 → v_X10_begin_187 K (a5) (a6) (a7) S) ∧ (¬ a5 < 0 → ∃ j_48 : Nat, a5 = nI j_48 ∧ j_48 < 120 ∧ (((xI S 2 j_48) ≤ a8 → v_X10_begin_187 K (a5) (a6) (a7) S) ∧ (¬ (xI S 2 j_48) ≤ a8 → ((¬ a7 = 0 → v_X10_begin_126 K n (a5) (a6) (1) ((a8 + 1)) S) ∧ (a7 = 0 → ∃ j_53 : Nat, a8 = nI j_53 ∧ j_53 < 64 ∧ ∃ j_56 : Nat, a5 = nI j_56 ∧ j_56 < 120 ∧ ∃ j_59 : Nat, ((xI S 3 j_56) + a8) = nI j_59 ∧ j_59 < 3000 ∧ (((xL S 21 j_53) = (xL S 5 j_59) → v_X10_begin_126 K n (a5) (a6) (0) ((a8 + 1)) S) ∧ (¬ (xL S 21 j_53) = (xL S 5 j_59) → v_X10_begin_126 K n (a5) (a6) (1) ((a8 + 1)) S))))))))
def v_X10_begin_109 (K : Int32 → xs_T → Prop) (a1 : Int32) (a2 : Int32) (a3 : Int32) (a4 : Int32) (a5 : Int32) (S : xs_T) : Prop := v_X10_does (a1) (a2) (a3) (a4) S (fun (r_45 : Int32) (S_44 : xs_T) => ∃ n, v_X10_begin_126 K n (a5) (r_45) (0) (0) S_44)
def v_X10_begin_64 (K : Int32 → xs_T → Prop) : Nat → Int32 → Int32 → Int32 → Int32 → Int32 → Int32 → xs_T → Prop
  | 0, _, _, _, _, _, _, _ => False
  | n + 1, a1, a2, a3, a4, a5, a6, S => ((a5 < 0 → v_X10_begin_109 K (a1) (a2) (a3) (a4) (a5) S) ∧ (¬ a5 < 0 → ∃ j_29 : Nat, a5 = nI j_29 ∧ j_29 < 120 ∧ (((xI S 2 j_29) ≤ a6 → v_X10_begin_109 K (a1) (a2) (a3) (a4) (a5) S) ∧ (¬ (xI S 2 j_29) ≤ a6 → ∃ j_33 : Nat, a5 = nI j_33 ∧ j_33 < 120 ∧ ∃ j_36 : Nat, ((xI S 3 j_33) + a6) = nI j_36 ∧ j_36 < 3000 ∧ ∃ j_39 : Nat, a6 = nI j_39 ∧ j_39 < 64 ∧ ∀ S_42 : xs_T, S_42 = sL S 21 j_39 ((xL S 5 j_36)) → v_X10_begin_64 K n (a1) (a2) (a3) (a4) (a5) ((a6 + 1)) S_42))))
def v_X10_begin (x1 : Int32) (x2 : Int32) (x3 : Int32) (x4 : Int32) (S : xs_T) (K : Int32 → xs_T → Prop) : Prop := ∀ S_1 : xs_T, S_1 = sF S 0 23 (((xF S 0 23) + 1)) → ((¬ x1 = 1 → ((x1 = 2 → v_X10_rowOn (x2) S_1 (fun (r_6 : Int32) (S_5 : xs_T) => ∃ n, v_X10_begin_64 K n (x1) (x2) (x3) (x4) (r_6) (0) S_5)) ∧ (¬ x1 = 2 → ((x1 = 3 → v_X10_rowOn (x2) S_1 (fun (r_10 : Int32) (S_9 : xs_T) => ∃ n, v_X10_begin_64 K n (x1) (x2) (x3) (x4) (r_10) (0) S_9)) ∧ (¬ x1 = 3 → ((x1 = 4 → v_X10_rowOn (x2) S_1 (fun (r_14 : Int32) (S_13 : xs_T) => ∃ n, v_X10_begin_64 K n (x1) (x2) (x3) (x4) (r_14) (0) S_13)) ∧ (¬ x1 = 4 → ((x1 = 10 → v_X10_rowOn (x2) S_1 (fun (r_18 : Int32) (S_17 : xs_T) => ∃ n, v_X10_begin_64 K n (x1) (x2) (x3) (x4) (r_18) (0) S_17)) ∧ (¬ x1 = 10 → ((¬ x1 = 11 → ∃ n, v_X10_begin_64 K n (x1) (x2) (x3) (x4) ((-1)) (0) S_1) ∧ (x1 = 11 → v_X10_rowOn (x2) S_1 (fun (r_23 : Int32) (S_22 : xs_T) => ∃ n, v_X10_begin_64 K n (x1) (x2) (x3) (x4) (r_23) (0) S_22)))))))))))) ∧ (x1 = 1 → v_X10_rowOn (x3) S_1 (fun (r_26 : Int32) (S_25 : xs_T) => ∃ n, v_X10_begin_64 K n (x1) (x2) (x3) (x4) (r_26) (0) S_25)))
set_option maxHeartbeats 4000000 in
set_option maxRecDepth 100000 in
theorem j_X10_begin_198 {l : Launch} {p : Program} {e : Env} {s : State} {m : MethodId} {args : Array Value} {below : List Frame} {meth : Method} {c : Code} {Z : xz_T} {et : Nat → Nat} {Nn : Nat → Nat} {K : Int32 → xs_T → Prop} (X : CallFix p m c cX10_begin 9 s args (wq yX10_begin cX10_begin 9 (some .int)) RX10) (hk : xk Z s) (hr : meth.sig.returnType = (some .int)) (hlocks : meth.locks = false) : ∀ (a6 : Int32) (S : xs_T) (H : Heap) (locs : List Loc) (ls : Array Slot), v_X10_begin_198 K a6 S → S.2.2.2.2 = Nn → wd Z et S H → xl Z locs → lv_has ls 9 [(0, .ref (et (0))), (6, .int (a6))] → W p l e (headSpec (wq yX10_begin cX10_begin 9 (some .int)) { frames := 5, cells := 0, slots := 0, locals := 119 }).room s m args below meth c H locs 0 0 (MQ below (xQi Z et Nn K) args s 0 0 (fun q => Z.2.2.1 ≤ q)) (F0 m 198 ls []) := by
  intro a6 S H locs ls h hNN hw hl hv
  unfold v_X10_begin_198 at h
  refine lv_aload_n X.1 X.2.1 dX10_begin_198 rfl (lv_at hv 0 rfl) ?_
  refine lv_iload X.1 X.2.1 dX10_begin_199 (lv_at hv 1 rfl) ?_
  refine lv_if_le (tgt := 213) X.1 X.2.1 dX10_begin_201 (by decide) (fun c_66 => ?_) (fun c_66 => ?_)
  · skip
    replace h := h.1 c_66
    refine lv_aload_n X.1 X.2.1 dX10_begin_213 rfl (lv_at hv 0 rfl) ?_
    refine xw_get X hk hw (i := 0) 24 xe_0 rfl tlX10 (by decide) rfl tw_543 dX10_begin_214 ?_
    refine xw_put X hk hw hl (i := 0) 24 xe_0 rfl rfl tlX10 tyX10 tyX10_ok nmX10 (by decide) tw_543 rfl rfl (Nat.le_of_ble_eq_true rfl) dX10_begin_217 (fun H locs hw hl => ?_)
    obtain ⟨S_67, e_68⟩ : ∃ T : xs_T, T = sF S 0 24 ((xF S 0 24)) := ⟨_, rfl⟩
    rw [← e_68] at hw
    replace h := h S_67 e_68
    have hN : S_67.2.2.2.2 = S.2.2.2.2 := by rw [e_68]; rfl
    replace hNN := hN.trans hNN
    refine lv_iload X.1 X.2.1 dX10_begin_220 (lv_at hv 1 rfl) ?_
    exact xt_i X hr hlocks hNN hw hl h dX10_begin_222
  · skip
    replace h := h.2 c_66
    refine lv_aload_n X.1 X.2.1 dX10_begin_204 rfl (lv_at hv 0 rfl) ?_
    refine xw_get X hk hw (i := 0) 24 xe_0 rfl tlX10 (by decide) rfl tw_543 dX10_begin_205 ?_
    refine lv_iconst (v := 1) X.1 X.2.1 dX10_begin_208 (by decide) ?_
    refine lv_iadd X.1 X.2.1 dX10_begin_209 ?_
    refine lv_goto (tgt := 217) X.1 X.2.1 dX10_begin_210 (by decide) ?_
    refine xw_put X hk hw hl (i := 0) 24 xe_0 rfl rfl tlX10 tyX10 tyX10_ok nmX10 (by decide) tw_543 rfl rfl (Nat.le_of_ble_eq_true rfl) dX10_begin_217 (fun H locs hw hl => ?_)
    obtain ⟨S_69, e_70⟩ : ∃ T : xs_T, T = sF S 0 24 (((xF S 0 24) + 1)) := ⟨_, rfl⟩
    rw [← e_70] at hw
    replace h := h S_69 e_70
    have hN : S_69.2.2.2.2 = S.2.2.2.2 := by rw [e_70]; rfl
    replace hNN := hN.trans hNN
    refine lv_iload X.1 X.2.1 dX10_begin_220 (lv_at hv 1 rfl) ?_
    exact xt_i X hr hlocks hNN hw hl h dX10_begin_222
set_option maxHeartbeats 4000000 in
set_option maxRecDepth 100000 in
theorem j_X10_begin_187 {l : Launch} {p : Program} {e : Env} {s : State} {m : MethodId} {args : Array Value} {below : List Frame} {meth : Method} {c : Code} {Z : xz_T} {et : Nat → Nat} {Nn : Nat → Nat} {K : Int32 → xs_T → Prop} (X : CallFix p m c cX10_begin 9 s args (wq yX10_begin cX10_begin 9 (some .int)) RX10) (hk : xk Z s) (hr : meth.sig.returnType = (some .int)) (hlocks : meth.locks = false) : ∀ (a5 : Int32) (a6 : Int32) (a7 : Int32) (S : xs_T) (H : Heap) (locs : List Loc) (ls : Array Slot), v_X10_begin_187 K a5 a6 a7 S → S.2.2.2.2 = Nn → wd Z et S H → xl Z locs → lv_has ls 9 [(0, .ref (et (0))), (5, .int (a5)), (6, .int (a6)), (7, .int (a7))] → W p l e (headSpec (wq yX10_begin cX10_begin 9 (some .int)) { frames := 5, cells := 0, slots := 0, locals := 119 }).room s m args below meth c H locs 0 0 (MQ below (xQi Z et Nn K) args s 0 0 (fun q => Z.2.2.1 ≤ q)) (F0 m 187 ls []) := by
  intro a5 a6 a7 S H locs ls h hNN hw hl hv
  unfold v_X10_begin_187 at h
  refine lv_iload X.1 X.2.1 dX10_begin_187 (lv_at hv 3 rfl) ?_
  refine lv_if_eq (tgt := 198) X.1 X.2.1 dX10_begin_189 (by decide) (fun c_63 => ?_) (fun c_63 => ?_)
  · skip
    replace h := h.1 c_63
    exact j_X10_begin_198 X hk hr hlocks (a6) S _ _ _ h hNN hw hl (lv_sub hv [0, 2] rfl)
  · skip
    replace h := h.2 c_63
    refine lv_aload_n X.1 X.2.1 dX10_begin_192 rfl (lv_at hv 0 rfl) ?_
    refine lv_iload X.1 X.2.1 dX10_begin_193 (lv_at hv 1 rfl) ?_
    refine xc_v (xr_V (n := 1) (As := [.int (a5)]) (i := 0) X hk hw hv.1 (c_X10_write l Z et S (a5) _ h) (tb_V tw_717 tw_714 tw_716 tw_34 tw_44) xe_0 rfl rfl rfl rfl (by decide +kernel) ⟨Nat.le_of_ble_eq_true rfl, Nat.le_of_ble_eq_true rfl⟩ rfl (Nat.le_of_ble_eq_true rfl) dX10_begin_195 ⟨Nat.le_of_ble_eq_true rfl, Nat.le_of_ble_eq_true rfl⟩) hl (fun S_64 H locs h hN hw hl => ?_)
    replace hNN := hN.trans hNN
    exact j_X10_begin_198 X hk hr hlocks (a6) S_64 _ _ _ h hNN hw hl (lv_sub hv [0, 2] rfl)
set_option maxHeartbeats 4000000 in
set_option maxRecDepth 100000 in
theorem j_X10_begin_126 {l : Launch} {p : Program} {e : Env} {s : State} {m : MethodId} {args : Array Value} {below : List Frame} {meth : Method} {c : Code} {Z : xz_T} {et : Nat → Nat} {Nn : Nat → Nat} {K : Int32 → xs_T → Prop} (X : CallFix p m c cX10_begin 9 s args (wq yX10_begin cX10_begin 9 (some .int)) RX10) (hk : xk Z s) (hr : meth.sig.returnType = (some .int)) (hlocks : meth.locks = false) : ∀ (n : Nat) (a5 : Int32) (a6 : Int32) (a7 : Int32) (a8 : Int32) (S : xs_T) (H : Heap) (locs : List Loc) (ls : Array Slot), v_X10_begin_126 K n a5 a6 a7 a8 S → S.2.2.2.2 = Nn → wd Z et S H → xl Z locs → lv_has ls 9 [(0, .ref (et (0))), (5, .int (a5)), (6, .int (a6)), (7, .int (a7)), (8, .int (a8))] → W p l e (headSpec (wq yX10_begin cX10_begin 9 (some .int)) { frames := 5, cells := 0, slots := 0, locals := 119 }).room s m args below meth c H locs 0 0 (MQ below (xQi Z et Nn K) args s 0 0 (fun q => Z.2.2.1 ≤ q)) (F0 m 126 ls []) := by
  intro n
  induction n with
  | zero =>
    intro a5 a6 a7 a8 S H locs ls h hNN hw hl hv
    exact False.elim h
  | succ n ih =>
    intro a5 a6 a7 a8 S H locs ls h hNN hw hl hv
    rw [v_X10_begin_126] at h
    refine lv_iload X.1 X.2.1 dX10_begin_126 (lv_at hv 1 rfl) ?_
    refine lv_if_lt (tgt := 187) X.1 X.2.1 dX10_begin_128 (by decide) (fun c_47 => ?_) (fun c_47 => ?_)
    · skip
      replace h := h.1 c_47
      exact j_X10_begin_187 X hk hr hlocks (a5) (a6) (a7) S _ _ _ h hNN hw hl (lv_sub hv [0, 1, 2, 3] rfl)
    · skip
      replace h := h.2 c_47
      refine lv_iload X.1 X.2.1 dX10_begin_131 (lv_at hv 4 rfl) ?_
      refine lv_aload_n X.1 X.2.1 dX10_begin_133 rfl (lv_at hv 0 rfl) ?_
      refine xw_get X hk hw (i := 0) 2 xe_0 rfl tlX10 (by decide) rfl tw_521 dX10_begin_134 ?_
      refine lv_iload X.1 X.2.1 dX10_begin_137 (lv_at hv 1 rfl) ?_
      obtain ⟨j_48, e_49, b_50, h⟩ := h
      refine xw_ild X hk hw xe_2 e_49 b_50 (by decide) dX10_begin_139 ?_
      refine lv_icmp_ge (tgt := 187) X.1 X.2.1 dX10_begin_140 (by decide) (fun c_51 => ?_) (fun c_51 => ?_)
      · skip
        replace h := h.1 c_51
        exact j_X10_begin_187 X hk hr hlocks (a5) (a6) (a7) S _ _ _ h hNN hw hl (lv_sub hv [0, 1, 2, 3] rfl)
      · skip
        replace h := h.2 c_51
        refine lv_iload X.1 X.2.1 dX10_begin_143 (lv_at hv 3 rfl) ?_
        refine lv_if_ne (tgt := 174) X.1 X.2.1 dX10_begin_145 (by decide) (fun c_52 => ?_) (fun c_52 => ?_)
        · skip
          replace h := h.1 c_52
          refine lv_iconst (v := 1) X.1 X.2.1 dX10_begin_174 (by decide) ?_
          refine lv_goto (tgt := 179) X.1 X.2.1 dX10_begin_175 (by decide) ?_
          refine lv_istore (lv' := [(7, .int (1)), (0, .ref (et (0))), (5, .int (a5)), (6, .int (a6)), (8, .int (a8))]) X.1 X.2.1 dX10_begin_179 hv (by decide) rfl (fun ls hv => ?_)
          refine lv_iinc (v := (a8 + 1)) (lv' := [(8, .int ((a8 + 1))), (7, .int (1)), (0, .ref (et (0))), (5, .int (a5)), (6, .int (a6))]) X.1 X.2.1 dX10_begin_181 hv (k := 4) rfl rfl (by decide) rfl (fun ls hv => ?_)
          refine lv_goto (tgt := 126) X.1 X.2.1 dX10_begin_184 (by decide) ?_
          exact ih (a5) (a6) (1) ((a8 + 1)) S _ _ _ h hNN hw hl (lv_sub hv [2, 3, 4, 1, 0] rfl)
        · skip
          replace h := h.2 c_52
          refine lv_aload_n X.1 X.2.1 dX10_begin_148 rfl (lv_at hv 0 rfl) ?_
          refine xw_get X hk hw (i := 0) 21 xe_0 rfl tlX10 (by decide) rfl tw_540 dX10_begin_149 ?_
          refine lv_iload X.1 X.2.1 dX10_begin_152 (lv_at hv 4 rfl) ?_
          obtain ⟨j_53, e_54, b_55, h⟩ := h
          refine xw_lld X hk hw xe_21 e_54 b_55 (by decide) dX10_begin_154 ?_
          refine lv_aload_n X.1 X.2.1 dX10_begin_155 rfl (lv_at hv 0 rfl) ?_
          refine xw_get X hk hw (i := 0) 5 xe_0 rfl tlX10 (by decide) rfl tw_524 dX10_begin_156 ?_
          refine lv_aload_n X.1 X.2.1 dX10_begin_159 rfl (lv_at hv 0 rfl) ?_
          refine xw_get X hk hw (i := 0) 3 xe_0 rfl tlX10 (by decide) rfl tw_522 dX10_begin_160 ?_
          refine lv_iload X.1 X.2.1 dX10_begin_163 (lv_at hv 1 rfl) ?_
          obtain ⟨j_56, e_57, b_58, h⟩ := h
          refine xw_ild X hk hw xe_3 e_57 b_58 (by decide) dX10_begin_165 ?_
          refine lv_iload X.1 X.2.1 dX10_begin_166 (lv_at hv 4 rfl) ?_
          refine lv_iadd X.1 X.2.1 dX10_begin_168 ?_
          obtain ⟨j_59, e_60, b_61, h⟩ := h
          refine xw_lld X hk hw xe_5 e_60 b_61 (by decide) dX10_begin_169 ?_
          refine W.lcmp X.1 X.2.1 dX10_begin_170 ?_
          refine lv_if_eq (tgt := 178) X.1 X.2.1 dX10_begin_171 (by decide) (fun c_62 => ?_) (fun c_62 => ?_)
          · skip
            replace c_62 := (lg_cmp_eq _ _).mp c_62
            replace h := h.1 c_62
            refine lv_iconst (v := 0) X.1 X.2.1 dX10_begin_178 (by decide) ?_
            refine lv_istore (lv' := [(7, .int (0)), (0, .ref (et (0))), (5, .int (a5)), (6, .int (a6)), (8, .int (a8))]) X.1 X.2.1 dX10_begin_179 hv (by decide) rfl (fun ls hv => ?_)
            refine lv_iinc (v := (a8 + 1)) (lv' := [(8, .int ((a8 + 1))), (7, .int (0)), (0, .ref (et (0))), (5, .int (a5)), (6, .int (a6))]) X.1 X.2.1 dX10_begin_181 hv (k := 4) rfl rfl (by decide) rfl (fun ls hv => ?_)
            refine lv_goto (tgt := 126) X.1 X.2.1 dX10_begin_184 (by decide) ?_
            exact ih (a5) (a6) (0) ((a8 + 1)) S _ _ _ h hNN hw hl (lv_sub hv [2, 3, 4, 1, 0] rfl)
          · skip
            replace c_62 := fun q => c_62 ((lg_cmp_eq _ _).mpr q)
            replace h := h.2 c_62
            refine lv_iconst (v := 1) X.1 X.2.1 dX10_begin_174 (by decide) ?_
            refine lv_goto (tgt := 179) X.1 X.2.1 dX10_begin_175 (by decide) ?_
            refine lv_istore (lv' := [(7, .int (1)), (0, .ref (et (0))), (5, .int (a5)), (6, .int (a6)), (8, .int (a8))]) X.1 X.2.1 dX10_begin_179 hv (by decide) rfl (fun ls hv => ?_)
            refine lv_iinc (v := (a8 + 1)) (lv' := [(8, .int ((a8 + 1))), (7, .int (1)), (0, .ref (et (0))), (5, .int (a5)), (6, .int (a6))]) X.1 X.2.1 dX10_begin_181 hv (k := 4) rfl rfl (by decide) rfl (fun ls hv => ?_)
            refine lv_goto (tgt := 126) X.1 X.2.1 dX10_begin_184 (by decide) ?_
            exact ih (a5) (a6) (1) ((a8 + 1)) S _ _ _ h hNN hw hl (lv_sub hv [2, 3, 4, 1, 0] rfl)
set_option maxHeartbeats 4000000 in
set_option maxRecDepth 100000 in
theorem j_X10_begin_109 {l : Launch} {p : Program} {e : Env} {s : State} {m : MethodId} {args : Array Value} {below : List Frame} {meth : Method} {c : Code} {Z : xz_T} {et : Nat → Nat} {Nn : Nat → Nat} {K : Int32 → xs_T → Prop} (X : CallFix p m c cX10_begin 9 s args (wq yX10_begin cX10_begin 9 (some .int)) RX10) (hk : xk Z s) (hr : meth.sig.returnType = (some .int)) (hlocks : meth.locks = false) : ∀ (a1 : Int32) (a2 : Int32) (a3 : Int32) (a4 : Int32) (a5 : Int32) (S : xs_T) (H : Heap) (locs : List Loc) (ls : Array Slot), v_X10_begin_109 K a1 a2 a3 a4 a5 S → S.2.2.2.2 = Nn → wd Z et S H → xl Z locs → lv_has ls 9 [(0, .ref (et (0))), (1, .int (a1)), (2, .int (a2)), (3, .int (a3)), (4, .int (a4)), (5, .int (a5))] → W p l e (headSpec (wq yX10_begin cX10_begin 9 (some .int)) { frames := 5, cells := 0, slots := 0, locals := 119 }).room s m args below meth c H locs 0 0 (MQ below (xQi Z et Nn K) args s 0 0 (fun q => Z.2.2.1 ≤ q)) (F0 m 109 ls []) := by
  intro a1 a2 a3 a4 a5 S H locs ls h hNN hw hl hv
  unfold v_X10_begin_109 at h
  refine lv_aload_n X.1 X.2.1 dX10_begin_109 rfl (lv_at hv 0 rfl) ?_
  refine lv_iload_n X.1 X.2.1 dX10_begin_110 rfl (lv_at hv 1 rfl) ?_
  refine lv_iload_n X.1 X.2.1 dX10_begin_111 rfl (lv_at hv 2 rfl) ?_
  refine lv_iload_n X.1 X.2.1 dX10_begin_112 rfl (lv_at hv 3 rfl) ?_
  refine lv_iload X.1 X.2.1 dX10_begin_113 (lv_at hv 4 rfl) ?_
  refine xc_i (xr_V (n := 4) (As := [.int (a1), .int (a2), .int (a3), .int (a4)]) (i := 0) X hk hw hv.1 (c_X10_does l Z et S (a1) (a2) (a3) (a4) _ h) (tb_V tw_633 tw_630 tw_632 tw_19 tw_44) xe_0 rfl rfl rfl rfl (by decide +kernel) ⟨Nat.le_of_ble_eq_true rfl, Nat.le_of_ble_eq_true rfl⟩ rfl (Nat.le_of_ble_eq_true rfl) dX10_begin_115 ⟨Nat.le_of_ble_eq_true rfl, Nat.le_of_ble_eq_true rfl⟩) hl (fun r_45 S_44 H locs h hN hw hl => ?_)
  replace hNN := hN.trans hNN
  refine lv_istore (lv' := [(6, .int (r_45)), (0, .ref (et (0))), (1, .int (a1)), (2, .int (a2)), (3, .int (a3)), (4, .int (a4)), (5, .int (a5))]) X.1 X.2.1 dX10_begin_118 hv (by decide) rfl (fun ls hv => ?_)
  refine lv_iconst (v := 0) X.1 X.2.1 dX10_begin_120 (by decide) ?_
  refine lv_istore (lv' := [(7, .int (0)), (6, .int (r_45)), (0, .ref (et (0))), (1, .int (a1)), (2, .int (a2)), (3, .int (a3)), (4, .int (a4)), (5, .int (a5))]) X.1 X.2.1 dX10_begin_121 hv (by decide) rfl (fun ls hv => ?_)
  refine lv_iconst (v := 0) X.1 X.2.1 dX10_begin_123 (by decide) ?_
  refine lv_istore (lv' := [(8, .int (0)), (7, .int (0)), (6, .int (r_45)), (0, .ref (et (0))), (1, .int (a1)), (2, .int (a2)), (3, .int (a3)), (4, .int (a4)), (5, .int (a5))]) X.1 X.2.1 dX10_begin_124 hv (by decide) rfl (fun ls hv => ?_)
  obtain ⟨n_46, h⟩ := h
  exact j_X10_begin_126 X hk hr hlocks n_46 (a5) (r_45) (0) (0) S_44 _ _ _ h hNN hw hl (lv_sub hv [3, 8, 2, 1, 0] rfl)
set_option maxHeartbeats 4000000 in
set_option maxRecDepth 100000 in
theorem j_X10_begin_64 {l : Launch} {p : Program} {e : Env} {s : State} {m : MethodId} {args : Array Value} {below : List Frame} {meth : Method} {c : Code} {Z : xz_T} {et : Nat → Nat} {Nn : Nat → Nat} {K : Int32 → xs_T → Prop} (X : CallFix p m c cX10_begin 9 s args (wq yX10_begin cX10_begin 9 (some .int)) RX10) (hk : xk Z s) (hr : meth.sig.returnType = (some .int)) (hlocks : meth.locks = false) : ∀ (n : Nat) (a1 : Int32) (a2 : Int32) (a3 : Int32) (a4 : Int32) (a5 : Int32) (a6 : Int32) (S : xs_T) (H : Heap) (locs : List Loc) (ls : Array Slot), v_X10_begin_64 K n a1 a2 a3 a4 a5 a6 S → S.2.2.2.2 = Nn → wd Z et S H → xl Z locs → lv_has ls 9 [(0, .ref (et (0))), (1, .int (a1)), (2, .int (a2)), (3, .int (a3)), (4, .int (a4)), (5, .int (a5)), (6, .int (a6))] → W p l e (headSpec (wq yX10_begin cX10_begin 9 (some .int)) { frames := 5, cells := 0, slots := 0, locals := 119 }).room s m args below meth c H locs 0 0 (MQ below (xQi Z et Nn K) args s 0 0 (fun q => Z.2.2.1 ≤ q)) (F0 m 64 ls []) := by
  intro n
  induction n with
  | zero =>
    intro a1 a2 a3 a4 a5 a6 S H locs ls h hNN hw hl hv
    exact False.elim h
  | succ n ih =>
    intro a1 a2 a3 a4 a5 a6 S H locs ls h hNN hw hl hv
    rw [v_X10_begin_64] at h
    refine lv_iload X.1 X.2.1 dX10_begin_64 (lv_at hv 5 rfl) ?_
    refine lv_if_lt (tgt := 109) X.1 X.2.1 dX10_begin_66 (by decide) (fun c_28 => ?_) (fun c_28 => ?_)
    · skip
      replace h := h.1 c_28
      exact j_X10_begin_109 X hk hr hlocks (a1) (a2) (a3) (a4) (a5) S _ _ _ h hNN hw hl (lv_sub hv [0, 1, 2, 3, 4, 5] rfl)
    · skip
      replace h := h.2 c_28
      refine lv_iload X.1 X.2.1 dX10_begin_69 (lv_at hv 6 rfl) ?_
      refine lv_aload_n X.1 X.2.1 dX10_begin_71 rfl (lv_at hv 0 rfl) ?_
      refine xw_get X hk hw (i := 0) 2 xe_0 rfl tlX10 (by decide) rfl tw_521 dX10_begin_72 ?_
      refine lv_iload X.1 X.2.1 dX10_begin_75 (lv_at hv 5 rfl) ?_
      obtain ⟨j_29, e_30, b_31, h⟩ := h
      refine xw_ild X hk hw xe_2 e_30 b_31 (by decide) dX10_begin_77 ?_
      refine lv_icmp_ge (tgt := 109) X.1 X.2.1 dX10_begin_78 (by decide) (fun c_32 => ?_) (fun c_32 => ?_)
      · skip
        replace h := h.1 c_32
        exact j_X10_begin_109 X hk hr hlocks (a1) (a2) (a3) (a4) (a5) S _ _ _ h hNN hw hl (lv_sub hv [0, 1, 2, 3, 4, 5] rfl)
      · skip
        replace h := h.2 c_32
        refine lv_aload_n X.1 X.2.1 dX10_begin_81 rfl (lv_at hv 0 rfl) ?_
        refine xw_get X hk hw (i := 0) 21 xe_0 rfl tlX10 (by decide) rfl tw_540 dX10_begin_82 ?_
        refine lv_iload X.1 X.2.1 dX10_begin_85 (lv_at hv 6 rfl) ?_
        refine lv_aload_n X.1 X.2.1 dX10_begin_87 rfl (lv_at hv 0 rfl) ?_
        refine xw_get X hk hw (i := 0) 5 xe_0 rfl tlX10 (by decide) rfl tw_524 dX10_begin_88 ?_
        refine lv_aload_n X.1 X.2.1 dX10_begin_91 rfl (lv_at hv 0 rfl) ?_
        refine xw_get X hk hw (i := 0) 3 xe_0 rfl tlX10 (by decide) rfl tw_522 dX10_begin_92 ?_
        refine lv_iload X.1 X.2.1 dX10_begin_95 (lv_at hv 5 rfl) ?_
        obtain ⟨j_33, e_34, b_35, h⟩ := h
        refine xw_ild X hk hw xe_3 e_34 b_35 (by decide) dX10_begin_97 ?_
        refine lv_iload X.1 X.2.1 dX10_begin_98 (lv_at hv 6 rfl) ?_
        refine lv_iadd X.1 X.2.1 dX10_begin_100 ?_
        obtain ⟨j_36, e_37, b_38, h⟩ := h
        refine xw_lld X hk hw xe_5 e_37 b_38 (by decide) dX10_begin_101 ?_
        obtain ⟨j_39, e_40, b_41, h⟩ := h
        refine xw_lst X hk hw hl xe_21 rfl e_40 b_41 (by decide) dX10_begin_102 (fun H locs hw hl => ?_)
        obtain ⟨S_42, e_43⟩ : ∃ T : xs_T, T = sL S 21 j_39 ((xL S 5 j_36)) := ⟨_, rfl⟩
        rw [← e_43] at hw
        replace h := h S_42 e_43
        have hN : S_42.2.2.2.2 = S.2.2.2.2 := by rw [e_43]; rfl
        replace hNN := hN.trans hNN
        refine lv_iinc (v := (a6 + 1)) (lv' := [(6, .int ((a6 + 1))), (0, .ref (et (0))), (1, .int (a1)), (2, .int (a2)), (3, .int (a3)), (4, .int (a4)), (5, .int (a5))]) X.1 X.2.1 dX10_begin_103 hv (k := 6) rfl rfl (by decide) rfl (fun ls hv => ?_)
        refine lv_goto (tgt := 64) X.1 X.2.1 dX10_begin_106 (by decide) ?_
        exact ih (a1) (a2) (a3) (a4) (a5) ((a6 + 1)) S_42 _ _ _ h hNN hw hl (lv_sub hv [1, 2, 3, 4, 5, 6, 0] rfl)
set_option maxHeartbeats 4000000 in
set_option maxRecDepth 100000 in
theorem c_X10_begin (l : Launch) (Z : xz_T) (et : Nat → Nat) (S : xs_T) (x1 : Int32) (x2 : Int32) (x3 : Int32) (x4 : Int32) (K : Int32 → xs_T → Prop) (h : v_X10_begin x1 x2 x3 x4 S K) : Met l yX10_begin (wq yX10_begin cX10_begin 9 (some .int)) { frames := 5, cells := 0, slots := 0, locals := 119 } (xPc Z et S [.ref (et (0)), .int (x1), .int (x2), .int (x3), .int (x4)]) (xQi Z et S.2.2.2.2 K) 0 0 (fun q => Z.2.2.1 ≤ q) := by
  refine Met.ofW (cc := cX10_begin) (maxL := 9) (ret := (some .int)) (by decide +kernel) rfl ?_
  intro p e s m args below meth c s₁ B hml hv0
  obtain ⟨rfl, hk, hw⟩ := hv0
  have X : CallFix p m c cX10_begin 9 s _ (wq yX10_begin cX10_begin 9 (some .int)) RX10 := ⟨B.exec, B.bytes, hml, findClass_of_methodNamed B.named, atoms_spec (ws := (wq yX10_begin cX10_begin 9 (some .int))) B.pre⟩
  have hr := B.returns
  have hlocks := B.notSynchronized
  have hl : xl Z [] := fun _ h => by cases h
  have hNN : S.2.2.2.2 = S.2.2.2.2 := rfl
  have hv := lv_entry [.ref (et (0)), .int (x1), .int (x2), .int (x3), .int (x4)] (n := 9) (Nat.le_of_ble_eq_true rfl)
  rw [lg_entry_eq]
  generalize (lg_sl [.ref (et (0)), .int (x1), .int (x2), .int (x3), .int (x4)] ++ List.replicate (9 - (lg_sl [.ref (et (0)), .int (x1), .int (x2), .int (x3), .int (x4)]).length) Slot.unset).toArray = ls at hv ⊢
  replace hv : lv_has ls 9 [(0, .ref (et (0))), (1, .int (x1)), (2, .int (x2)), (3, .int (x3)), (4, .int (x4))] := hv
  unfold v_X10_begin at h
  refine lv_aload_n X.1 X.2.1 dX10_begin_0 rfl (lv_at hv 0 rfl) ?_
  refine lv_dup X.1 X.2.1 dX10_begin_1 rfl ?_
  refine xw_get X hk hw (i := 0) 23 xe_0 rfl tlX10 (by decide) rfl tw_542 dX10_begin_2 ?_
  refine lv_iconst (v := 1) X.1 X.2.1 dX10_begin_5 (by decide) ?_
  refine lv_iadd X.1 X.2.1 dX10_begin_6 ?_
  refine xw_put X hk hw hl (i := 0) 23 xe_0 rfl rfl tlX10 tyX10 tyX10_ok nmX10 (by decide) tw_542 rfl rfl (Nat.le_of_ble_eq_true rfl) dX10_begin_7 (fun H locs hw hl => ?_)
  obtain ⟨S_1, e_2⟩ : ∃ T : xs_T, T = sF S 0 23 (((xF S 0 23) + 1)) := ⟨_, rfl⟩
  rw [← e_2] at hw
  replace h := h S_1 e_2
  have hN : S_1.2.2.2.2 = S.2.2.2.2 := by rw [e_2]; rfl
  replace hNN := hN.trans hNN
  refine lv_iload_n X.1 X.2.1 dX10_begin_10 rfl (lv_at hv 1 rfl) ?_
  refine lv_iconst (v := 1) X.1 X.2.1 dX10_begin_11 (by decide) ?_
  refine lv_icmp_ne (tgt := 23) X.1 X.2.1 dX10_begin_12 (by decide) (fun c_3 => ?_) (fun c_3 => ?_)
  · skip
    replace h := h.1 c_3
    refine lv_iload_n X.1 X.2.1 dX10_begin_23 rfl (lv_at hv 1 rfl) ?_
    refine lv_iconst (v := 2) X.1 X.2.1 dX10_begin_24 (by decide) ?_
    refine lv_icmp_eq (tgt := 50) X.1 X.2.1 dX10_begin_25 (by decide) (fun c_4 => ?_) (fun c_4 => ?_)
    · skip
      replace h := h.1 c_4
      refine lv_aload_n X.1 X.2.1 dX10_begin_50 rfl (lv_at hv 0 rfl) ?_
      refine lv_iload_n X.1 X.2.1 dX10_begin_51 rfl (lv_at hv 2 rfl) ?_
      refine xc_i (xr_V (n := 1) (As := [.int (x2)]) (i := 0) X hk hw hv.1 (c_X10_rowOn l Z et S_1 (x2) _ h) (tb_V tw_629 tw_626 tw_628 tw_18 tw_44) xe_0 rfl rfl rfl rfl (by decide +kernel) ⟨Nat.le_of_ble_eq_true rfl, Nat.le_of_ble_eq_true rfl⟩ rfl (Nat.le_of_ble_eq_true rfl) dX10_begin_52 ⟨Nat.le_of_ble_eq_true rfl, Nat.le_of_ble_eq_true rfl⟩) hl (fun r_6 S_5 H locs h hN hw hl => ?_)
      replace hNN := hN.trans hNN
      refine lv_goto (tgt := 59) X.1 X.2.1 dX10_begin_55 (by decide) ?_
      refine lv_istore (lv' := [(5, .int (r_6)), (0, .ref (et (0))), (1, .int (x1)), (2, .int (x2)), (3, .int (x3)), (4, .int (x4))]) X.1 X.2.1 dX10_begin_59 hv (by decide) rfl (fun ls hv => ?_)
      refine lv_iconst (v := 0) X.1 X.2.1 dX10_begin_61 (by decide) ?_
      refine lv_istore (lv' := [(6, .int (0)), (5, .int (r_6)), (0, .ref (et (0))), (1, .int (x1)), (2, .int (x2)), (3, .int (x3)), (4, .int (x4))]) X.1 X.2.1 dX10_begin_62 hv (by decide) rfl (fun ls hv => ?_)
      obtain ⟨n_7, h⟩ := h
      exact j_X10_begin_64 X hk hr hlocks n_7 (x1) (x2) (x3) (x4) (r_6) (0) S_5 _ _ _ h hNN hw hl (lv_sub hv [2, 3, 4, 5, 6, 1, 0] rfl)
    · skip
      replace h := h.2 c_4
      refine lv_iload_n X.1 X.2.1 dX10_begin_28 rfl (lv_at hv 1 rfl) ?_
      refine lv_iconst (v := 3) X.1 X.2.1 dX10_begin_29 (by decide) ?_
      refine lv_icmp_eq (tgt := 50) X.1 X.2.1 dX10_begin_30 (by decide) (fun c_8 => ?_) (fun c_8 => ?_)
      · skip
        replace h := h.1 c_8
        refine lv_aload_n X.1 X.2.1 dX10_begin_50 rfl (lv_at hv 0 rfl) ?_
        refine lv_iload_n X.1 X.2.1 dX10_begin_51 rfl (lv_at hv 2 rfl) ?_
        refine xc_i (xr_V (n := 1) (As := [.int (x2)]) (i := 0) X hk hw hv.1 (c_X10_rowOn l Z et S_1 (x2) _ h) (tb_V tw_629 tw_626 tw_628 tw_18 tw_44) xe_0 rfl rfl rfl rfl (by decide +kernel) ⟨Nat.le_of_ble_eq_true rfl, Nat.le_of_ble_eq_true rfl⟩ rfl (Nat.le_of_ble_eq_true rfl) dX10_begin_52 ⟨Nat.le_of_ble_eq_true rfl, Nat.le_of_ble_eq_true rfl⟩) hl (fun r_10 S_9 H locs h hN hw hl => ?_)
        replace hNN := hN.trans hNN
        refine lv_goto (tgt := 59) X.1 X.2.1 dX10_begin_55 (by decide) ?_
        refine lv_istore (lv' := [(5, .int (r_10)), (0, .ref (et (0))), (1, .int (x1)), (2, .int (x2)), (3, .int (x3)), (4, .int (x4))]) X.1 X.2.1 dX10_begin_59 hv (by decide) rfl (fun ls hv => ?_)
        refine lv_iconst (v := 0) X.1 X.2.1 dX10_begin_61 (by decide) ?_
        refine lv_istore (lv' := [(6, .int (0)), (5, .int (r_10)), (0, .ref (et (0))), (1, .int (x1)), (2, .int (x2)), (3, .int (x3)), (4, .int (x4))]) X.1 X.2.1 dX10_begin_62 hv (by decide) rfl (fun ls hv => ?_)
        obtain ⟨n_11, h⟩ := h
        exact j_X10_begin_64 X hk hr hlocks n_11 (x1) (x2) (x3) (x4) (r_10) (0) S_9 _ _ _ h hNN hw hl (lv_sub hv [2, 3, 4, 5, 6, 1, 0] rfl)
      · skip
        replace h := h.2 c_8
        refine lv_iload_n X.1 X.2.1 dX10_begin_33 rfl (lv_at hv 1 rfl) ?_
        refine lv_iconst (v := 4) X.1 X.2.1 dX10_begin_34 (by decide) ?_
        refine lv_icmp_eq (tgt := 50) X.1 X.2.1 dX10_begin_35 (by decide) (fun c_12 => ?_) (fun c_12 => ?_)
        · skip
          replace h := h.1 c_12
          refine lv_aload_n X.1 X.2.1 dX10_begin_50 rfl (lv_at hv 0 rfl) ?_
          refine lv_iload_n X.1 X.2.1 dX10_begin_51 rfl (lv_at hv 2 rfl) ?_
          refine xc_i (xr_V (n := 1) (As := [.int (x2)]) (i := 0) X hk hw hv.1 (c_X10_rowOn l Z et S_1 (x2) _ h) (tb_V tw_629 tw_626 tw_628 tw_18 tw_44) xe_0 rfl rfl rfl rfl (by decide +kernel) ⟨Nat.le_of_ble_eq_true rfl, Nat.le_of_ble_eq_true rfl⟩ rfl (Nat.le_of_ble_eq_true rfl) dX10_begin_52 ⟨Nat.le_of_ble_eq_true rfl, Nat.le_of_ble_eq_true rfl⟩) hl (fun r_14 S_13 H locs h hN hw hl => ?_)
          replace hNN := hN.trans hNN
          refine lv_goto (tgt := 59) X.1 X.2.1 dX10_begin_55 (by decide) ?_
          refine lv_istore (lv' := [(5, .int (r_14)), (0, .ref (et (0))), (1, .int (x1)), (2, .int (x2)), (3, .int (x3)), (4, .int (x4))]) X.1 X.2.1 dX10_begin_59 hv (by decide) rfl (fun ls hv => ?_)
          refine lv_iconst (v := 0) X.1 X.2.1 dX10_begin_61 (by decide) ?_
          refine lv_istore (lv' := [(6, .int (0)), (5, .int (r_14)), (0, .ref (et (0))), (1, .int (x1)), (2, .int (x2)), (3, .int (x3)), (4, .int (x4))]) X.1 X.2.1 dX10_begin_62 hv (by decide) rfl (fun ls hv => ?_)
          obtain ⟨n_15, h⟩ := h
          exact j_X10_begin_64 X hk hr hlocks n_15 (x1) (x2) (x3) (x4) (r_14) (0) S_13 _ _ _ h hNN hw hl (lv_sub hv [2, 3, 4, 5, 6, 1, 0] rfl)
        · skip
          replace h := h.2 c_12
          refine lv_iload_n X.1 X.2.1 dX10_begin_38 rfl (lv_at hv 1 rfl) ?_
          refine lv_bipush (v := 10) X.1 X.2.1 dX10_begin_39 (by decide) ?_
          refine lv_icmp_eq (tgt := 50) X.1 X.2.1 dX10_begin_41 (by decide) (fun c_16 => ?_) (fun c_16 => ?_)
          · skip
            replace h := h.1 c_16
            refine lv_aload_n X.1 X.2.1 dX10_begin_50 rfl (lv_at hv 0 rfl) ?_
            refine lv_iload_n X.1 X.2.1 dX10_begin_51 rfl (lv_at hv 2 rfl) ?_
            refine xc_i (xr_V (n := 1) (As := [.int (x2)]) (i := 0) X hk hw hv.1 (c_X10_rowOn l Z et S_1 (x2) _ h) (tb_V tw_629 tw_626 tw_628 tw_18 tw_44) xe_0 rfl rfl rfl rfl (by decide +kernel) ⟨Nat.le_of_ble_eq_true rfl, Nat.le_of_ble_eq_true rfl⟩ rfl (Nat.le_of_ble_eq_true rfl) dX10_begin_52 ⟨Nat.le_of_ble_eq_true rfl, Nat.le_of_ble_eq_true rfl⟩) hl (fun r_18 S_17 H locs h hN hw hl => ?_)
            replace hNN := hN.trans hNN
            refine lv_goto (tgt := 59) X.1 X.2.1 dX10_begin_55 (by decide) ?_
            refine lv_istore (lv' := [(5, .int (r_18)), (0, .ref (et (0))), (1, .int (x1)), (2, .int (x2)), (3, .int (x3)), (4, .int (x4))]) X.1 X.2.1 dX10_begin_59 hv (by decide) rfl (fun ls hv => ?_)
            refine lv_iconst (v := 0) X.1 X.2.1 dX10_begin_61 (by decide) ?_
            refine lv_istore (lv' := [(6, .int (0)), (5, .int (r_18)), (0, .ref (et (0))), (1, .int (x1)), (2, .int (x2)), (3, .int (x3)), (4, .int (x4))]) X.1 X.2.1 dX10_begin_62 hv (by decide) rfl (fun ls hv => ?_)
            obtain ⟨n_19, h⟩ := h
            exact j_X10_begin_64 X hk hr hlocks n_19 (x1) (x2) (x3) (x4) (r_18) (0) S_17 _ _ _ h hNN hw hl (lv_sub hv [2, 3, 4, 5, 6, 1, 0] rfl)
          · skip
            replace h := h.2 c_16
            refine lv_iload_n X.1 X.2.1 dX10_begin_44 rfl (lv_at hv 1 rfl) ?_
            refine lv_bipush (v := 11) X.1 X.2.1 dX10_begin_45 (by decide) ?_
            refine lv_icmp_ne (tgt := 58) X.1 X.2.1 dX10_begin_47 (by decide) (fun c_20 => ?_) (fun c_20 => ?_)
            · skip
              replace h := h.1 c_20
              refine lv_iconst (v := (-1)) X.1 X.2.1 dX10_begin_58 (by decide) ?_
              refine lv_istore (lv' := [(5, .int ((-1))), (0, .ref (et (0))), (1, .int (x1)), (2, .int (x2)), (3, .int (x3)), (4, .int (x4))]) X.1 X.2.1 dX10_begin_59 hv (by decide) rfl (fun ls hv => ?_)
              refine lv_iconst (v := 0) X.1 X.2.1 dX10_begin_61 (by decide) ?_
              refine lv_istore (lv' := [(6, .int (0)), (5, .int ((-1))), (0, .ref (et (0))), (1, .int (x1)), (2, .int (x2)), (3, .int (x3)), (4, .int (x4))]) X.1 X.2.1 dX10_begin_62 hv (by decide) rfl (fun ls hv => ?_)
              obtain ⟨n_21, h⟩ := h
              exact j_X10_begin_64 X hk hr hlocks n_21 (x1) (x2) (x3) (x4) ((-1)) (0) S_1 _ _ _ h hNN hw hl (lv_sub hv [2, 3, 4, 5, 6, 1, 0] rfl)
            · skip
              replace h := h.2 c_20
              refine lv_aload_n X.1 X.2.1 dX10_begin_50 rfl (lv_at hv 0 rfl) ?_
              refine lv_iload_n X.1 X.2.1 dX10_begin_51 rfl (lv_at hv 2 rfl) ?_
              refine xc_i (xr_V (n := 1) (As := [.int (x2)]) (i := 0) X hk hw hv.1 (c_X10_rowOn l Z et S_1 (x2) _ h) (tb_V tw_629 tw_626 tw_628 tw_18 tw_44) xe_0 rfl rfl rfl rfl (by decide +kernel) ⟨Nat.le_of_ble_eq_true rfl, Nat.le_of_ble_eq_true rfl⟩ rfl (Nat.le_of_ble_eq_true rfl) dX10_begin_52 ⟨Nat.le_of_ble_eq_true rfl, Nat.le_of_ble_eq_true rfl⟩) hl (fun r_23 S_22 H locs h hN hw hl => ?_)
              replace hNN := hN.trans hNN
              refine lv_goto (tgt := 59) X.1 X.2.1 dX10_begin_55 (by decide) ?_
              refine lv_istore (lv' := [(5, .int (r_23)), (0, .ref (et (0))), (1, .int (x1)), (2, .int (x2)), (3, .int (x3)), (4, .int (x4))]) X.1 X.2.1 dX10_begin_59 hv (by decide) rfl (fun ls hv => ?_)
              refine lv_iconst (v := 0) X.1 X.2.1 dX10_begin_61 (by decide) ?_
              refine lv_istore (lv' := [(6, .int (0)), (5, .int (r_23)), (0, .ref (et (0))), (1, .int (x1)), (2, .int (x2)), (3, .int (x3)), (4, .int (x4))]) X.1 X.2.1 dX10_begin_62 hv (by decide) rfl (fun ls hv => ?_)
              obtain ⟨n_24, h⟩ := h
              exact j_X10_begin_64 X hk hr hlocks n_24 (x1) (x2) (x3) (x4) (r_23) (0) S_22 _ _ _ h hNN hw hl (lv_sub hv [2, 3, 4, 5, 6, 1, 0] rfl)
  · skip
    replace h := h.2 c_3
    refine lv_aload_n X.1 X.2.1 dX10_begin_15 rfl (lv_at hv 0 rfl) ?_
    refine lv_iload_n X.1 X.2.1 dX10_begin_16 rfl (lv_at hv 3 rfl) ?_
    refine xc_i (xr_V (n := 1) (As := [.int (x3)]) (i := 0) X hk hw hv.1 (c_X10_rowOn l Z et S_1 (x3) _ h) (tb_V tw_629 tw_626 tw_628 tw_18 tw_44) xe_0 rfl rfl rfl rfl (by decide +kernel) ⟨Nat.le_of_ble_eq_true rfl, Nat.le_of_ble_eq_true rfl⟩ rfl (Nat.le_of_ble_eq_true rfl) dX10_begin_17 ⟨Nat.le_of_ble_eq_true rfl, Nat.le_of_ble_eq_true rfl⟩) hl (fun r_26 S_25 H locs h hN hw hl => ?_)
    replace hNN := hN.trans hNN
    refine lv_goto (tgt := 59) X.1 X.2.1 dX10_begin_20 (by decide) ?_
    refine lv_istore (lv' := [(5, .int (r_26)), (0, .ref (et (0))), (1, .int (x1)), (2, .int (x2)), (3, .int (x3)), (4, .int (x4))]) X.1 X.2.1 dX10_begin_59 hv (by decide) rfl (fun ls hv => ?_)
    refine lv_iconst (v := 0) X.1 X.2.1 dX10_begin_61 (by decide) ?_
    refine lv_istore (lv' := [(6, .int (0)), (5, .int (r_26)), (0, .ref (et (0))), (1, .int (x1)), (2, .int (x2)), (3, .int (x3)), (4, .int (x4))]) X.1 X.2.1 dX10_begin_62 hv (by decide) rfl (fun ls hv => ?_)
    obtain ⟨n_27, h⟩ := h
    exact j_X10_begin_64 X hk hr hlocks n_27 (x1) (x2) (x3) (x4) (r_26) (0) S_25 _ _ _ h hNN hw hl (lv_sub hv [2, 3, 4, 5, 6, 1, 0] rfl)
def v_X10_act (x1 : Int32) (x2 : Int32) (x3 : Int32) (x4 : Int32) (S : xs_T) (K : Int32 → xs_T → Prop) : Prop := v_X10_in (x1) (0) (12) S (fun (r_2 : Int32) (S_1 : xs_T) => ((r_2 = 0 → K ((-1)) S_1) ∧ (¬ r_2 = 0 → v_X10_isOrder (x1) (x2) (x3) (x4) S_1 (fun (r_5 : Int32) (S_4 : xs_T) => ((¬ r_5 = 0 → ((¬ (xF S_4 0 23) = 4000 → v_X10_begin (x1) (x2) (x3) (x4) S_4 (fun (r_9 : Int32) (S_8 : xs_T) => K (r_9) S_8)) ∧ ((xF S_4 0 23) = 4000 → K (6) S_4))) ∧ (r_5 = 0 → K ((-1)) S_4))))))
set_option maxHeartbeats 4000000 in
set_option maxRecDepth 100000 in
theorem c_X10_act (l : Launch) (Z : xz_T) (et : Nat → Nat) (S : xs_T) (x1 : Int32) (x2 : Int32) (x3 : Int32) (x4 : Int32) (K : Int32 → xs_T → Prop) (h : v_X10_act x1 x2 x3 x4 S K) : Met l yX10_act (wq yX10_act cX10_act 5 (some .int)) { frames := 6, cells := 0, slots := 0, locals := 147 } (xPc Z et S [.ref (et (0)), .int (x1), .int (x2), .int (x3), .int (x4)]) (xQi Z et S.2.2.2.2 K) 0 0 (fun q => Z.2.2.1 ≤ q) := by
  refine Met.ofW (cc := cX10_act) (maxL := 5) (ret := (some .int)) (by decide +kernel) rfl ?_
  intro p e s m args below meth c s₁ B hml hv0
  obtain ⟨rfl, hk, hw⟩ := hv0
  have X : CallFix p m c cX10_act 5 s _ (wq yX10_act cX10_act 5 (some .int)) RX10 := ⟨B.exec, B.bytes, hml, findClass_of_methodNamed B.named, atoms_spec (ws := (wq yX10_act cX10_act 5 (some .int))) B.pre⟩
  have hr := B.returns
  have hlocks := B.notSynchronized
  have hl : xl Z [] := fun _ h => by cases h
  have hNN : S.2.2.2.2 = S.2.2.2.2 := rfl
  have hv := lv_entry [.ref (et (0)), .int (x1), .int (x2), .int (x3), .int (x4)] (n := 5) (Nat.le_of_ble_eq_true rfl)
  rw [lg_entry_eq]
  generalize (lg_sl [.ref (et (0)), .int (x1), .int (x2), .int (x3), .int (x4)] ++ List.replicate (5 - (lg_sl [.ref (et (0)), .int (x1), .int (x2), .int (x3), .int (x4)]).length) Slot.unset).toArray = ls at hv ⊢
  replace hv : lv_has ls 5 [(0, .ref (et (0))), (1, .int (x1)), (2, .int (x2)), (3, .int (x3)), (4, .int (x4))] := hv
  unfold v_X10_act at h
  refine lv_iload_n X.1 X.2.1 dX10_act_0 rfl (lv_at hv 1 rfl) ?_
  refine lv_iconst (v := 0) X.1 X.2.1 dX10_act_1 (by decide) ?_
  refine lv_bipush (v := 12) X.1 X.2.1 dX10_act_2 (by decide) ?_
  refine xc_i (xr_S (n := 3) X hk hw hv.1 (c_X10_in l Z et S (x1) (0) (12) _ h) (tb_S tw_613 tw_611 tw_612 tw_44) rfl rfl (by decide +kernel) ⟨Nat.le_of_ble_eq_true rfl, Nat.le_of_ble_eq_true rfl⟩ rfl (Nat.le_of_ble_eq_true rfl) dX10_act_4 ⟨Nat.le_of_ble_eq_true rfl, Nat.le_of_ble_eq_true rfl⟩) hl (fun r_2 S_1 H locs h hN hw hl => ?_)
  replace hNN := hN.trans hNN
  refine lv_if_eq (tgt := 21) X.1 X.2.1 dX10_act_7 (by decide) (fun c_3 => ?_) (fun c_3 => ?_)
  · skip
    replace h := h.1 c_3
    refine lv_iconst (v := (-1)) X.1 X.2.1 dX10_act_21 (by decide) ?_
    exact xt_i X hr hlocks hNN hw hl h dX10_act_22
  · skip
    replace h := h.2 c_3
    refine lv_iload_n X.1 X.2.1 dX10_act_10 rfl (lv_at hv 1 rfl) ?_
    refine lv_iload_n X.1 X.2.1 dX10_act_11 rfl (lv_at hv 2 rfl) ?_
    refine lv_iload_n X.1 X.2.1 dX10_act_12 rfl (lv_at hv 3 rfl) ?_
    refine lv_iload X.1 X.2.1 dX10_act_13 (lv_at hv 4 rfl) ?_
    refine xc_i (xr_S (n := 4) X hk hw hv.1 (c_X10_isOrder l Z et S_1 (x1) (x2) (x3) (x4) _ h) (tb_S tw_610 tw_608 tw_609 tw_44) rfl rfl (by decide +kernel) ⟨Nat.le_of_ble_eq_true rfl, Nat.le_of_ble_eq_true rfl⟩ rfl (Nat.le_of_ble_eq_true rfl) dX10_act_15 ⟨Nat.le_of_ble_eq_true rfl, Nat.le_of_ble_eq_true rfl⟩) hl (fun r_5 S_4 H locs h hN hw hl => ?_)
    replace hNN := hN.trans hNN
    refine lv_if_ne (tgt := 23) X.1 X.2.1 dX10_act_18 (by decide) (fun c_6 => ?_) (fun c_6 => ?_)
    · skip
      replace h := h.1 c_6
      refine lv_aload_n X.1 X.2.1 dX10_act_23 rfl (lv_at hv 0 rfl) ?_
      refine xw_get X hk hw (i := 0) 23 xe_0 rfl tlX10 (by decide) rfl tw_542 dX10_act_24 ?_
      refine lv_sipush (v := 4000) X.1 X.2.1 dX10_act_27 (by decide) ?_
      refine lv_icmp_ne (tgt := 38) X.1 X.2.1 dX10_act_30 (by decide) (fun c_7 => ?_) (fun c_7 => ?_)
      · skip
        replace h := h.1 c_7
        refine lv_aload_n X.1 X.2.1 dX10_act_38 rfl (lv_at hv 0 rfl) ?_
        refine lv_iload_n X.1 X.2.1 dX10_act_39 rfl (lv_at hv 1 rfl) ?_
        refine lv_iload_n X.1 X.2.1 dX10_act_40 rfl (lv_at hv 2 rfl) ?_
        refine lv_iload_n X.1 X.2.1 dX10_act_41 rfl (lv_at hv 3 rfl) ?_
        refine lv_iload X.1 X.2.1 dX10_act_42 (lv_at hv 4 rfl) ?_
        refine xc_i (xr_V (n := 4) (As := [.int (x1), .int (x2), .int (x3), .int (x4)]) (i := 0) X hk hw hv.1 (c_X10_begin l Z et S_4 (x1) (x2) (x3) (x4) _ h) (tb_V tw_625 tw_622 tw_624 tw_17 tw_44) xe_0 rfl rfl rfl rfl (by decide +kernel) ⟨Nat.le_of_ble_eq_true rfl, Nat.le_of_ble_eq_true rfl⟩ rfl (Nat.le_of_ble_eq_true rfl) dX10_act_44 ⟨Nat.le_of_ble_eq_true rfl, Nat.le_of_ble_eq_true rfl⟩) hl (fun r_9 S_8 H locs h hN hw hl => ?_)
        replace hNN := hN.trans hNN
        exact xt_i X hr hlocks hNN hw hl h dX10_act_47
      · skip
        replace h := h.2 c_7
        refine lv_bipush (v := 6) X.1 X.2.1 dX10_act_33 (by decide) ?_
        refine lv_goto (tgt := 47) X.1 X.2.1 dX10_act_35 (by decide) ?_
        exact xt_i X hr hlocks hNN hw hl h dX10_act_47
    · skip
      replace h := h.2 c_6
      refine lv_iconst (v := (-1)) X.1 X.2.1 dX10_act_21 (by decide) ?_
      exact xt_i X hr hlocks hNN hw hl h dX10_act_22
def v_X10_again (x1 : Int32) (S : xs_T) (K : Int32 → xs_T → Prop) : Prop := ∃ j_1 : Nat, x1 = nI j_1 ∧ j_1 < 60 ∧ ∃ j_4 : Nat, x1 = nI j_4 ∧ j_4 < 60 ∧ (((xI S 16 j_4) ≤ (xI S 17 j_1) → ∃ j_8 : Nat, x1 = nI j_8 ∧ j_8 < 60 ∧ ∀ S_11 : xs_T, S_11 = sI S 17 j_8 (0) → K ((x1 + 1)) S_11) ∧ (¬ (xI S 16 j_4) ≤ (xI S 17 j_1) → ∃ j_13 : Nat, x1 = nI j_13 ∧ j_13 < 60 ∧ ∃ j_16 : Nat, x1 = nI j_16 ∧ j_16 < 60 ∧ ∀ S_19 : xs_T, S_19 = sI S 17 j_16 (((xI S 17 j_13) + 1)) → ∃ j_21 : Nat, x1 = nI j_21 ∧ j_21 < 60 ∧ (((xI S_19 15 j_21) ≤ x1 → ∃ j_25 : Nat, x1 = nI j_25 ∧ j_25 < 60 ∧ K ((x1 - (xI S_19 15 j_25))) S_19) ∧ (¬ (xI S_19 15 j_21) ≤ x1 → K (0) S_19))))
set_option maxHeartbeats 4000000 in
set_option maxRecDepth 100000 in
theorem c_X10_again (l : Launch) (Z : xz_T) (et : Nat → Nat) (S : xs_T) (x1 : Int32) (K : Int32 → xs_T → Prop) (h : v_X10_again x1 S K) : Met l yX10_again (wq yX10_again cX10_again 2 (some .int)) { frames := 0, cells := 0, slots := 0, locals := 0 } (xPc Z et S [.ref (et (0)), .int (x1)]) (xQi Z et S.2.2.2.2 K) 0 0 (fun q => Z.2.2.1 ≤ q) := by
  refine Met.ofW (cc := cX10_again) (maxL := 2) (ret := (some .int)) (by decide +kernel) rfl ?_
  intro p e s m args below meth c s₁ B hml hv0
  obtain ⟨rfl, hk, hw⟩ := hv0
  have X : CallFix p m c cX10_again 2 s _ (wq yX10_again cX10_again 2 (some .int)) RX10 := ⟨B.exec, B.bytes, hml, findClass_of_methodNamed B.named, atoms_spec (ws := (wq yX10_again cX10_again 2 (some .int))) B.pre⟩
  have hr := B.returns
  have hlocks := B.notSynchronized
  have hl : xl Z [] := fun _ h => by cases h
  have hNN : S.2.2.2.2 = S.2.2.2.2 := rfl
  have hv := lv_entry [.ref (et (0)), .int (x1)] (n := 2) (Nat.le_of_ble_eq_true rfl)
  rw [lg_entry_eq]
  generalize (lg_sl [.ref (et (0)), .int (x1)] ++ List.replicate (2 - (lg_sl [.ref (et (0)), .int (x1)]).length) Slot.unset).toArray = ls at hv ⊢
  replace hv : lv_has ls 2 [(0, .ref (et (0))), (1, .int (x1))] := hv
  unfold v_X10_again at h
  refine lv_aload_n X.1 X.2.1 dX10_again_0 rfl (lv_at hv 0 rfl) ?_
  refine xw_get X hk hw (i := 0) 17 xe_0 rfl tlX10 (by decide) rfl tw_536 dX10_again_1 ?_
  refine lv_iload_n X.1 X.2.1 dX10_again_4 rfl (lv_at hv 1 rfl) ?_
  obtain ⟨j_1, e_2, b_3, h⟩ := h
  refine xw_ild X hk hw xe_17 e_2 b_3 (by decide) dX10_again_5 ?_
  refine lv_aload_n X.1 X.2.1 dX10_again_6 rfl (lv_at hv 0 rfl) ?_
  refine xw_get X hk hw (i := 0) 16 xe_0 rfl tlX10 (by decide) rfl tw_535 dX10_again_7 ?_
  refine lv_iload_n X.1 X.2.1 dX10_again_10 rfl (lv_at hv 1 rfl) ?_
  obtain ⟨j_4, e_5, b_6, h⟩ := h
  refine xw_ild X hk hw xe_16 e_5 b_6 (by decide) dX10_again_11 ?_
  refine lv_icmp_ge (tgt := 48) X.1 X.2.1 dX10_again_12 (by decide) (fun c_7 => ?_) (fun c_7 => ?_)
  · skip
    replace h := h.1 c_7
    refine lv_aload_n X.1 X.2.1 dX10_again_48 rfl (lv_at hv 0 rfl) ?_
    refine xw_get X hk hw (i := 0) 17 xe_0 rfl tlX10 (by decide) rfl tw_536 dX10_again_49 ?_
    refine lv_iload_n X.1 X.2.1 dX10_again_52 rfl (lv_at hv 1 rfl) ?_
    refine lv_iconst (v := 0) X.1 X.2.1 dX10_again_53 (by decide) ?_
    obtain ⟨j_8, e_9, b_10, h⟩ := h
    refine xw_ist X hk hw hl xe_17 rfl e_9 b_10 (by decide) dX10_again_54 (fun H locs hw hl => ?_)
    obtain ⟨S_11, e_12⟩ : ∃ T : xs_T, T = sI S 17 j_8 (0) := ⟨_, rfl⟩
    rw [← e_12] at hw
    replace h := h S_11 e_12
    have hN : S_11.2.2.2.2 = S.2.2.2.2 := by rw [e_12]; rfl
    replace hNN := hN.trans hNN
    refine lv_iload_n X.1 X.2.1 dX10_again_55 rfl (lv_at hv 1 rfl) ?_
    refine lv_iconst (v := 1) X.1 X.2.1 dX10_again_56 (by decide) ?_
    refine lv_iadd X.1 X.2.1 dX10_again_57 ?_
    exact xt_i X hr hlocks hNN hw hl h dX10_again_58
  · skip
    replace h := h.2 c_7
    refine lv_aload_n X.1 X.2.1 dX10_again_15 rfl (lv_at hv 0 rfl) ?_
    refine xw_get X hk hw (i := 0) 17 xe_0 rfl tlX10 (by decide) rfl tw_536 dX10_again_16 ?_
    refine lv_iload_n X.1 X.2.1 dX10_again_19 rfl (lv_at hv 1 rfl) ?_
    refine lv_dup2_11 X.1 X.2.1 dX10_again_20 rfl rfl ?_
    obtain ⟨j_13, e_14, b_15, h⟩ := h
    refine xw_ild X hk hw xe_17 e_14 b_15 (by decide) dX10_again_21 ?_
    refine lv_iconst (v := 1) X.1 X.2.1 dX10_again_22 (by decide) ?_
    refine lv_iadd X.1 X.2.1 dX10_again_23 ?_
    obtain ⟨j_16, e_17, b_18, h⟩ := h
    refine xw_ist X hk hw hl xe_17 rfl e_17 b_18 (by decide) dX10_again_24 (fun H locs hw hl => ?_)
    obtain ⟨S_19, e_20⟩ : ∃ T : xs_T, T = sI S 17 j_16 (((xI S 17 j_13) + 1)) := ⟨_, rfl⟩
    rw [← e_20] at hw
    replace h := h S_19 e_20
    have hN : S_19.2.2.2.2 = S.2.2.2.2 := by rw [e_20]; rfl
    replace hNN := hN.trans hNN
    refine lv_iload_n X.1 X.2.1 dX10_again_25 rfl (lv_at hv 1 rfl) ?_
    refine lv_aload_n X.1 X.2.1 dX10_again_26 rfl (lv_at hv 0 rfl) ?_
    refine xw_get X hk hw (i := 0) 15 xe_0 rfl tlX10 (by decide) rfl tw_534 dX10_again_27 ?_
    refine lv_iload_n X.1 X.2.1 dX10_again_30 rfl (lv_at hv 1 rfl) ?_
    obtain ⟨j_21, e_22, b_23, h⟩ := h
    refine xw_ild X hk hw xe_15 e_22 b_23 (by decide) dX10_again_31 ?_
    refine lv_icmp_ge (tgt := 39) X.1 X.2.1 dX10_again_32 (by decide) (fun c_24 => ?_) (fun c_24 => ?_)
    · skip
      replace h := h.1 c_24
      refine lv_iload_n X.1 X.2.1 dX10_again_39 rfl (lv_at hv 1 rfl) ?_
      refine lv_aload_n X.1 X.2.1 dX10_again_40 rfl (lv_at hv 0 rfl) ?_
      refine xw_get X hk hw (i := 0) 15 xe_0 rfl tlX10 (by decide) rfl tw_534 dX10_again_41 ?_
      refine lv_iload_n X.1 X.2.1 dX10_again_44 rfl (lv_at hv 1 rfl) ?_
      obtain ⟨j_25, e_26, b_27, h⟩ := h
      refine xw_ild X hk hw xe_15 e_26 b_27 (by decide) dX10_again_45 ?_
      refine lv_isub X.1 X.2.1 dX10_again_46 ?_
      exact xt_i X hr hlocks hNN hw hl h dX10_again_47
    · skip
      replace h := h.2 c_24
      refine lv_iconst (v := 0) X.1 X.2.1 dX10_again_35 (by decide) ?_
      refine lv_goto (tgt := 47) X.1 X.2.1 dX10_again_36 (by decide) ?_
      exact xt_i X hr hlocks hNN hw hl h dX10_again_47
def v_X10_behind_56 (K : Int32 → xs_T → Prop) (a3 : Int32) (S : xs_T) : Prop := (((xF S 0 12) ≤ a3 → K ((-1)) S) ∧ (¬ (xF S 0 12) ≤ a3 → ∃ j_19 : Nat, a3 = nI j_19 ∧ j_19 < 60 ∧ ((¬ (xI S 13 j_19) = 13 → K ((-1)) S) ∧ ((xI S 13 j_19) = 13 → K ((a3 + 1)) S))))
def v_X10_behind_4 (K : Int32 → xs_T → Prop) : Nat → Int32 → Int32 → xs_T → Prop
  | 0, _, _, _ => False
  | n + 1, a2, a3, S => (((xF S 0 12) ≤ a3 → v_X10_behind_56 K (a3) S) ∧ (¬ (xF S 0 12) ≤ a3 → ∃ j_3 : Nat, a3 = nI j_3 ∧ j_3 < 60 ∧ ((¬ (xI S 13 j_3) = 13 → v_X10_behind_56 K (a3) S) ∧ ((xI S 13 j_3) = 13 → ∃ j_7 : Nat, a3 = nI j_7 ∧ j_7 < 60 ∧ (((xI S 14 j_7) = 0 → v_X10_behind_56 K (a3) S) ∧ (¬ (xI S 14 j_7) = 0 → ∃ j_11 : Nat, a3 = nI j_11 ∧ j_11 < 60 ∧ (((xI S 14 j_11) = a2 → v_X10_behind_56 K (a3) S) ∧ (¬ (xI S 14 j_11) = a2 → ∃ j_15 : Nat, a3 = nI j_15 ∧ j_15 < 60 ∧ v_X10_behind_4 K n (a2) (((a3 + (xI S 16 j_15)) + 1)) S))))))))
def v_X10_behind (x1 : Int32) (x2 : Int32) (S : xs_T) (K : Int32 → xs_T → Prop) : Prop := ∃ n, v_X10_behind_4 K n (x2) ((x1 + 1)) S
set_option maxHeartbeats 4000000 in
set_option maxRecDepth 100000 in
theorem j_X10_behind_56 {l : Launch} {p : Program} {e : Env} {s : State} {m : MethodId} {args : Array Value} {below : List Frame} {meth : Method} {c : Code} {Z : xz_T} {et : Nat → Nat} {Nn : Nat → Nat} {K : Int32 → xs_T → Prop} (X : CallFix p m c cX10_behind 4 s args (wq yX10_behind cX10_behind 4 (some .int)) RX10) (hk : xk Z s) (hr : meth.sig.returnType = (some .int)) (hlocks : meth.locks = false) : ∀ (a3 : Int32) (S : xs_T) (H : Heap) (locs : List Loc) (ls : Array Slot), v_X10_behind_56 K a3 S → S.2.2.2.2 = Nn → wd Z et S H → xl Z locs → lv_has ls 4 [(0, .ref (et (0))), (3, .int (a3))] → W p l e (headSpec (wq yX10_behind cX10_behind 4 (some .int)) { frames := 0, cells := 0, slots := 0, locals := 0 }).room s m args below meth c H locs 0 0 (MQ below (xQi Z et Nn K) args s 0 0 (fun q => Z.2.2.1 ≤ q)) (F0 m 56 ls []) := by
  intro a3 S H locs ls h hNN hw hl hv
  unfold v_X10_behind_56 at h
  refine lv_iload_n X.1 X.2.1 dX10_behind_56 rfl (lv_at hv 1 rfl) ?_
  refine lv_aload_n X.1 X.2.1 dX10_behind_57 rfl (lv_at hv 0 rfl) ?_
  refine xw_get X hk hw (i := 0) 12 xe_0 rfl tlX10 (by decide) rfl tw_531 dX10_behind_58 ?_
  refine lv_icmp_ge (tgt := 81) X.1 X.2.1 dX10_behind_61 (by decide) (fun c_18 => ?_) (fun c_18 => ?_)
  · skip
    replace h := h.1 c_18
    refine lv_iconst (v := (-1)) X.1 X.2.1 dX10_behind_81 (by decide) ?_
    exact xt_i X hr hlocks hNN hw hl h dX10_behind_82
  · skip
    replace h := h.2 c_18
    refine lv_aload_n X.1 X.2.1 dX10_behind_64 rfl (lv_at hv 0 rfl) ?_
    refine xw_get X hk hw (i := 0) 13 xe_0 rfl tlX10 (by decide) rfl tw_532 dX10_behind_65 ?_
    refine lv_iload_n X.1 X.2.1 dX10_behind_68 rfl (lv_at hv 1 rfl) ?_
    obtain ⟨j_19, e_20, b_21, h⟩ := h
    refine xw_ild X hk hw xe_13 e_20 b_21 (by decide) dX10_behind_69 ?_
    refine lv_bipush (v := 13) X.1 X.2.1 dX10_behind_70 (by decide) ?_
    refine lv_icmp_ne (tgt := 81) X.1 X.2.1 dX10_behind_72 (by decide) (fun c_22 => ?_) (fun c_22 => ?_)
    · skip
      replace h := h.1 c_22
      refine lv_iconst (v := (-1)) X.1 X.2.1 dX10_behind_81 (by decide) ?_
      exact xt_i X hr hlocks hNN hw hl h dX10_behind_82
    · skip
      replace h := h.2 c_22
      refine lv_iload_n X.1 X.2.1 dX10_behind_75 rfl (lv_at hv 1 rfl) ?_
      refine lv_iconst (v := 1) X.1 X.2.1 dX10_behind_76 (by decide) ?_
      refine lv_iadd X.1 X.2.1 dX10_behind_77 ?_
      refine lv_goto (tgt := 82) X.1 X.2.1 dX10_behind_78 (by decide) ?_
      exact xt_i X hr hlocks hNN hw hl h dX10_behind_82
set_option maxHeartbeats 4000000 in
set_option maxRecDepth 100000 in
theorem j_X10_behind_4 {l : Launch} {p : Program} {e : Env} {s : State} {m : MethodId} {args : Array Value} {below : List Frame} {meth : Method} {c : Code} {Z : xz_T} {et : Nat → Nat} {Nn : Nat → Nat} {K : Int32 → xs_T → Prop} (X : CallFix p m c cX10_behind 4 s args (wq yX10_behind cX10_behind 4 (some .int)) RX10) (hk : xk Z s) (hr : meth.sig.returnType = (some .int)) (hlocks : meth.locks = false) : ∀ (n : Nat) (a2 : Int32) (a3 : Int32) (S : xs_T) (H : Heap) (locs : List Loc) (ls : Array Slot), v_X10_behind_4 K n a2 a3 S → S.2.2.2.2 = Nn → wd Z et S H → xl Z locs → lv_has ls 4 [(0, .ref (et (0))), (2, .int (a2)), (3, .int (a3))] → W p l e (headSpec (wq yX10_behind cX10_behind 4 (some .int)) { frames := 0, cells := 0, slots := 0, locals := 0 }).room s m args below meth c H locs 0 0 (MQ below (xQi Z et Nn K) args s 0 0 (fun q => Z.2.2.1 ≤ q)) (F0 m 4 ls []) := by
  intro n
  induction n with
  | zero =>
    intro a2 a3 S H locs ls h hNN hw hl hv
    exact False.elim h
  | succ n ih =>
    intro a2 a3 S H locs ls h hNN hw hl hv
    rw [v_X10_behind_4] at h
    refine lv_iload_n X.1 X.2.1 dX10_behind_4 rfl (lv_at hv 2 rfl) ?_
    refine lv_aload_n X.1 X.2.1 dX10_behind_5 rfl (lv_at hv 0 rfl) ?_
    refine xw_get X hk hw (i := 0) 12 xe_0 rfl tlX10 (by decide) rfl tw_531 dX10_behind_6 ?_
    refine lv_icmp_ge (tgt := 56) X.1 X.2.1 dX10_behind_9 (by decide) (fun c_2 => ?_) (fun c_2 => ?_)
    · skip
      replace h := h.1 c_2
      exact j_X10_behind_56 X hk hr hlocks (a3) S _ _ _ h hNN hw hl (lv_sub hv [0, 2] rfl)
    · skip
      replace h := h.2 c_2
      refine lv_aload_n X.1 X.2.1 dX10_behind_12 rfl (lv_at hv 0 rfl) ?_
      refine xw_get X hk hw (i := 0) 13 xe_0 rfl tlX10 (by decide) rfl tw_532 dX10_behind_13 ?_
      refine lv_iload_n X.1 X.2.1 dX10_behind_16 rfl (lv_at hv 2 rfl) ?_
      obtain ⟨j_3, e_4, b_5, h⟩ := h
      refine xw_ild X hk hw xe_13 e_4 b_5 (by decide) dX10_behind_17 ?_
      refine lv_bipush (v := 13) X.1 X.2.1 dX10_behind_18 (by decide) ?_
      refine lv_icmp_ne (tgt := 56) X.1 X.2.1 dX10_behind_20 (by decide) (fun c_6 => ?_) (fun c_6 => ?_)
      · skip
        replace h := h.1 c_6
        exact j_X10_behind_56 X hk hr hlocks (a3) S _ _ _ h hNN hw hl (lv_sub hv [0, 2] rfl)
      · skip
        replace h := h.2 c_6
        refine lv_aload_n X.1 X.2.1 dX10_behind_23 rfl (lv_at hv 0 rfl) ?_
        refine xw_get X hk hw (i := 0) 14 xe_0 rfl tlX10 (by decide) rfl tw_533 dX10_behind_24 ?_
        refine lv_iload_n X.1 X.2.1 dX10_behind_27 rfl (lv_at hv 2 rfl) ?_
        obtain ⟨j_7, e_8, b_9, h⟩ := h
        refine xw_ild X hk hw xe_14 e_8 b_9 (by decide) dX10_behind_28 ?_
        refine lv_if_eq (tgt := 56) X.1 X.2.1 dX10_behind_29 (by decide) (fun c_10 => ?_) (fun c_10 => ?_)
        · skip
          replace h := h.1 c_10
          exact j_X10_behind_56 X hk hr hlocks (a3) S _ _ _ h hNN hw hl (lv_sub hv [0, 2] rfl)
        · skip
          replace h := h.2 c_10
          refine lv_aload_n X.1 X.2.1 dX10_behind_32 rfl (lv_at hv 0 rfl) ?_
          refine xw_get X hk hw (i := 0) 14 xe_0 rfl tlX10 (by decide) rfl tw_533 dX10_behind_33 ?_
          refine lv_iload_n X.1 X.2.1 dX10_behind_36 rfl (lv_at hv 2 rfl) ?_
          obtain ⟨j_11, e_12, b_13, h⟩ := h
          refine xw_ild X hk hw xe_14 e_12 b_13 (by decide) dX10_behind_37 ?_
          refine lv_iload_n X.1 X.2.1 dX10_behind_38 rfl (lv_at hv 1 rfl) ?_
          refine lv_icmp_eq (tgt := 56) X.1 X.2.1 dX10_behind_39 (by decide) (fun c_14 => ?_) (fun c_14 => ?_)
          · skip
            replace h := h.1 c_14
            exact j_X10_behind_56 X hk hr hlocks (a3) S _ _ _ h hNN hw hl (lv_sub hv [0, 2] rfl)
          · skip
            replace h := h.2 c_14
            refine lv_iload_n X.1 X.2.1 dX10_behind_42 rfl (lv_at hv 2 rfl) ?_
            refine lv_aload_n X.1 X.2.1 dX10_behind_43 rfl (lv_at hv 0 rfl) ?_
            refine xw_get X hk hw (i := 0) 16 xe_0 rfl tlX10 (by decide) rfl tw_535 dX10_behind_44 ?_
            refine lv_iload_n X.1 X.2.1 dX10_behind_47 rfl (lv_at hv 2 rfl) ?_
            obtain ⟨j_15, e_16, b_17, h⟩ := h
            refine xw_ild X hk hw xe_16 e_16 b_17 (by decide) dX10_behind_48 ?_
            refine lv_iadd X.1 X.2.1 dX10_behind_49 ?_
            refine lv_iconst (v := 1) X.1 X.2.1 dX10_behind_50 (by decide) ?_
            refine lv_iadd X.1 X.2.1 dX10_behind_51 ?_
            refine lv_istore_n (lv' := [(3, .int (((a3 + (xI S 16 j_15)) + 1))), (0, .ref (et (0))), (2, .int (a2))]) X.1 X.2.1 dX10_behind_52 rfl hv (by decide) rfl (fun ls hv => ?_)
            refine lv_goto (tgt := 4) X.1 X.2.1 dX10_behind_53 (by decide) ?_
            exact ih (a2) (((a3 + (xI S 16 j_15)) + 1)) S _ _ _ h hNN hw hl (lv_sub hv [1, 2, 0] rfl)
set_option maxHeartbeats 4000000 in
set_option maxRecDepth 100000 in
theorem c_X10_behind (l : Launch) (Z : xz_T) (et : Nat → Nat) (S : xs_T) (x1 : Int32) (x2 : Int32) (K : Int32 → xs_T → Prop) (h : v_X10_behind x1 x2 S K) : Met l yX10_behind (wq yX10_behind cX10_behind 4 (some .int)) { frames := 0, cells := 0, slots := 0, locals := 0 } (xPc Z et S [.ref (et (0)), .int (x1), .int (x2)]) (xQi Z et S.2.2.2.2 K) 0 0 (fun q => Z.2.2.1 ≤ q) := by
  refine Met.ofW (cc := cX10_behind) (maxL := 4) (ret := (some .int)) (by decide +kernel) rfl ?_
  intro p e s m args below meth c s₁ B hml hv0
  obtain ⟨rfl, hk, hw⟩ := hv0
  have X : CallFix p m c cX10_behind 4 s _ (wq yX10_behind cX10_behind 4 (some .int)) RX10 := ⟨B.exec, B.bytes, hml, findClass_of_methodNamed B.named, atoms_spec (ws := (wq yX10_behind cX10_behind 4 (some .int))) B.pre⟩
  have hr := B.returns
  have hlocks := B.notSynchronized
  have hl : xl Z [] := fun _ h => by cases h
  have hNN : S.2.2.2.2 = S.2.2.2.2 := rfl
  have hv := lv_entry [.ref (et (0)), .int (x1), .int (x2)] (n := 4) (Nat.le_of_ble_eq_true rfl)
  rw [lg_entry_eq]
  generalize (lg_sl [.ref (et (0)), .int (x1), .int (x2)] ++ List.replicate (4 - (lg_sl [.ref (et (0)), .int (x1), .int (x2)]).length) Slot.unset).toArray = ls at hv ⊢
  replace hv : lv_has ls 4 [(0, .ref (et (0))), (1, .int (x1)), (2, .int (x2))] := hv
  unfold v_X10_behind at h
  refine lv_iload_n X.1 X.2.1 dX10_behind_0 rfl (lv_at hv 1 rfl) ?_
  refine lv_iconst (v := 1) X.1 X.2.1 dX10_behind_1 (by decide) ?_
  refine lv_iadd X.1 X.2.1 dX10_behind_2 ?_
  refine lv_istore_n (lv' := [(3, .int ((x1 + 1))), (0, .ref (et (0))), (1, .int (x1)), (2, .int (x2))]) X.1 X.2.1 dX10_behind_3 rfl hv (by decide) rfl (fun ls hv => ?_)
  obtain ⟨n_1, h⟩ := h
  exact j_X10_behind_4 X hk hr hlocks n_1 (x2) ((x1 + 1)) S _ _ _ h hNN hw hl (lv_sub hv [1, 3, 0] rfl)
end
section
def v_X10_run_46 (K : Int32 → xs_T → Prop) : Nat → Int32 → Int32 → xs_T → Prop
  | 0, _, _, _ => False
  | n + 1, a1, a2, S => (((xF S 0 12) ≤ a2 → K (0) S) ∧ (¬ (xF S 0 12) ≤ a2 → ((¬ (xF S 0 23) = 4000 → ((¬ (xF S 0 26) = a1 → ∀ S_19 : xs_T, S_19 = sF S 0 26 (((xF S 0 26) + 1)) → ∃ j_21 : Nat, a2 = nI j_21 ∧ j_21 < 60 ∧ ((¬ (xI S_19 13 j_21) = 13 → ∃ j_25 : Nat, a2 = nI j_25 ∧ j_25 < 60 ∧ ((¬ (xI S_19 13 j_25) = 14 → ∃ j_29 : Nat, a2 = nI j_29 ∧ j_29 < 60 ∧ ∃ j_32 : Nat, a2 = nI j_32 ∧ j_32 < 60 ∧ ∃ j_35 : Nat, a2 = nI j_35 ∧ j_35 < 60 ∧ ∃ j_38 : Nat, a2 = nI j_38 ∧ j_38 < 60 ∧ v_X10_begin ((xI S_19 13 j_29)) ((xI S_19 14 j_32)) ((xI S_19 15 j_35)) ((xI S_19 16 j_38)) S_19 (fun (r_42 : Int32) (S_41 : xs_T) => ((¬ r_42 = 0 → v_X10_behind (a2) (r_42) S_41 (fun (r_45 : Int32) (S_44 : xs_T) => ((0 ≤ r_45 → ((r_42 ≤ 0 → ∀ S_48 : xs_T, S_48 = sF S_44 0 25 ((xF S_44 0 25)) → v_X10_run_46 K n (a1) (r_45) S_48) ∧ (¬ r_42 ≤ 0 → ∀ S_50 : xs_T, S_50 = sF S_44 0 25 (((xF S_44 0 25) + 1)) → v_X10_run_46 K n (a1) (r_45) S_50))) ∧ (¬ 0 ≤ r_45 → ∀ S_52 : xs_T, S_52 = sF S_44 0 27 (a2) → K (r_42) S_52)))) ∧ (r_42 = 0 → ((0 ≤ (a2 + 1) → ((r_42 ≤ 0 → ∀ S_56 : xs_T, S_56 = sF S_41 0 25 ((xF S_41 0 25)) → v_X10_run_46 K n (a1) ((a2 + 1)) S_56) ∧ (¬ r_42 ≤ 0 → ∀ S_58 : xs_T, S_58 = sF S_41 0 25 (((xF S_41 0 25) + 1)) → v_X10_run_46 K n (a1) ((a2 + 1)) S_58))) ∧ (¬ 0 ≤ (a2 + 1) → ∀ S_60 : xs_T, S_60 = sF S_41 0 27 (a2) → K (r_42) S_60)))))) ∧ ((xI S_19 13 j_25) = 14 → ∀ S_62 : xs_T, S_62 = sF S_19 0 23 (((xF S_19 0 23) + 1)) → v_X10_again (a2) S_62 (fun (r_65 : Int32) (S_64 : xs_T) => v_X10_run_46 K n (a1) (r_65) S_64)))) ∧ ((xI S_19 13 j_21) = 13 → ∀ S_66 : xs_T, S_66 = sF S_19 0 23 (((xF S_19 0 23) + 1)) → ∃ j_68 : Nat, a2 = nI j_68 ∧ j_68 < 60 ∧ v_X10_run_46 K n (a1) (((a2 + 1) + (xI S_66 16 j_68))) S_66))) ∧ ((xF S 0 26) = a1 → K (7) S))) ∧ ((xF S 0 23) = 4000 → ∀ S_71 : xs_T, S_71 = sF S 0 27 (a2) → K (6) S_71))))
def v_X10_run_25 (K : Int32 → xs_T → Prop) : Nat → Int32 → Int32 → xs_T → Prop
  | 0, _, _, _ => False
  | n + 1, a1, a2, S => ((60 ≤ a2 → ∃ n, v_X10_run_46 K n (a1) (0) S) ∧ (¬ 60 ≤ a2 → ∃ j_11 : Nat, a2 = nI j_11 ∧ j_11 < 60 ∧ ∀ S_14 : xs_T, S_14 = sI S 17 j_11 (0) → v_X10_run_25 K n (a1) ((a2 + 1)) S_14))
def v_X10_run (x1 : Int32) (S : xs_T) (K : Int32 → xs_T → Prop) : Prop := v_X10_in (x1) (0) (300) S (fun (r_2 : Int32) (S_1 : xs_T) => ((¬ r_2 = 0 → ∀ S_4 : xs_T, S_4 = sF S_1 0 26 (0) → ∀ S_6 : xs_T, S_6 = sF S_4 0 27 ((-1)) → ∃ n, v_X10_run_25 K n (x1) (0) S_6) ∧ (r_2 = 0 → K ((-1)) S_1)))
set_option maxHeartbeats 4000000 in
set_option maxRecDepth 100000 in
theorem j_X10_run_46 {l : Launch} {p : Program} {e : Env} {s : State} {m : MethodId} {args : Array Value} {below : List Frame} {meth : Method} {c : Code} {Z : xz_T} {et : Nat → Nat} {Nn : Nat → Nat} {K : Int32 → xs_T → Prop} (X : CallFix p m c cX10_run 5 s args (wq yX10_run cX10_run 5 (some .int)) RX10) (hk : xk Z s) (hr : meth.sig.returnType = (some .int)) (hlocks : meth.locks = false) : ∀ (n : Nat) (a1 : Int32) (a2 : Int32) (S : xs_T) (H : Heap) (locs : List Loc) (ls : Array Slot), v_X10_run_46 K n a1 a2 S → S.2.2.2.2 = Nn → wd Z et S H → xl Z locs → lv_has ls 5 [(0, .ref (et (0))), (1, .int (a1)), (2, .int (a2))] → W p l e (headSpec (wq yX10_run cX10_run 5 (some .int)) { frames := 6, cells := 0, slots := 0, locals := 147 }).room s m args below meth c H locs 0 0 (MQ below (xQi Z et Nn K) args s 0 0 (fun q => Z.2.2.1 ≤ q)) (F0 m 46 ls []) := by
  intro n
  induction n with
  | zero =>
    intro a1 a2 S H locs ls h hNN hw hl hv
    exact False.elim h
  | succ n ih =>
    intro a1 a2 S H locs ls h hNN hw hl hv
    rw [v_X10_run_46] at h
    refine lv_iload_n X.1 X.2.1 dX10_run_46 rfl (lv_at hv 2 rfl) ?_
    refine lv_aload_n X.1 X.2.1 dX10_run_47 rfl (lv_at hv 0 rfl) ?_
    refine xw_get X hk hw (i := 0) 12 xe_0 rfl tlX10 (by decide) rfl tw_531 dX10_run_48 ?_
    refine lv_icmp_ge (tgt := 244) X.1 X.2.1 dX10_run_51 (by decide) (fun c_16 => ?_) (fun c_16 => ?_)
    · skip
      replace h := h.1 c_16
      refine lv_iconst (v := 0) X.1 X.2.1 dX10_run_244 (by decide) ?_
      exact xt_i X hr hlocks hNN hw hl h dX10_run_245
    · skip
      replace h := h.2 c_16
      refine lv_aload_n X.1 X.2.1 dX10_run_54 rfl (lv_at hv 0 rfl) ?_
      refine xw_get X hk hw (i := 0) 23 xe_0 rfl tlX10 (by decide) rfl tw_542 dX10_run_55 ?_
      refine lv_sipush (v := 4000) X.1 X.2.1 dX10_run_58 (by decide) ?_
      refine lv_icmp_ne (tgt := 72) X.1 X.2.1 dX10_run_61 (by decide) (fun c_17 => ?_) (fun c_17 => ?_)
      · skip
        replace h := h.1 c_17
        refine lv_aload_n X.1 X.2.1 dX10_run_72 rfl (lv_at hv 0 rfl) ?_
        refine xw_get X hk hw (i := 0) 26 xe_0 rfl tlX10 (by decide) rfl tw_545 dX10_run_73 ?_
        refine lv_iload_n X.1 X.2.1 dX10_run_76 rfl (lv_at hv 1 rfl) ?_
        refine lv_icmp_ne (tgt := 83) X.1 X.2.1 dX10_run_77 (by decide) (fun c_18 => ?_) (fun c_18 => ?_)
        · skip
          replace h := h.1 c_18
          refine lv_aload_n X.1 X.2.1 dX10_run_83 rfl (lv_at hv 0 rfl) ?_
          refine lv_dup X.1 X.2.1 dX10_run_84 rfl ?_
          refine xw_get X hk hw (i := 0) 26 xe_0 rfl tlX10 (by decide) rfl tw_545 dX10_run_85 ?_
          refine lv_iconst (v := 1) X.1 X.2.1 dX10_run_88 (by decide) ?_
          refine lv_iadd X.1 X.2.1 dX10_run_89 ?_
          refine xw_put X hk hw hl (i := 0) 26 xe_0 rfl rfl tlX10 tyX10 tyX10_ok nmX10 (by decide) tw_545 rfl rfl (Nat.le_of_ble_eq_true rfl) dX10_run_90 (fun H locs hw hl => ?_)
          obtain ⟨S_19, e_20⟩ : ∃ T : xs_T, T = sF S 0 26 (((xF S 0 26) + 1)) := ⟨_, rfl⟩
          rw [← e_20] at hw
          replace h := h S_19 e_20
          have hN : S_19.2.2.2.2 = S.2.2.2.2 := by rw [e_20]; rfl
          replace hNN := hN.trans hNN
          refine lv_aload_n X.1 X.2.1 dX10_run_93 rfl (lv_at hv 0 rfl) ?_
          refine xw_get X hk hw (i := 0) 13 xe_0 rfl tlX10 (by decide) rfl tw_532 dX10_run_94 ?_
          refine lv_iload_n X.1 X.2.1 dX10_run_97 rfl (lv_at hv 2 rfl) ?_
          obtain ⟨j_21, e_22, b_23, h⟩ := h
          refine xw_ild X hk hw xe_13 e_22 b_23 (by decide) dX10_run_98 ?_
          refine lv_bipush (v := 13) X.1 X.2.1 dX10_run_99 (by decide) ?_
          refine lv_icmp_ne (tgt := 128) X.1 X.2.1 dX10_run_101 (by decide) (fun c_24 => ?_) (fun c_24 => ?_)
          · skip
            replace h := h.1 c_24
            refine lv_aload_n X.1 X.2.1 dX10_run_128 rfl (lv_at hv 0 rfl) ?_
            refine xw_get X hk hw (i := 0) 13 xe_0 rfl tlX10 (by decide) rfl tw_532 dX10_run_129 ?_
            refine lv_iload_n X.1 X.2.1 dX10_run_132 rfl (lv_at hv 2 rfl) ?_
            obtain ⟨j_25, e_26, b_27, h⟩ := h
            refine xw_ild X hk hw xe_13 e_26 b_27 (by decide) dX10_run_133 ?_
            refine lv_bipush (v := 14) X.1 X.2.1 dX10_run_134 (by decide) ?_
            refine lv_icmp_ne (tgt := 158) X.1 X.2.1 dX10_run_136 (by decide) (fun c_28 => ?_) (fun c_28 => ?_)
            · skip
              replace h := h.1 c_28
              refine lv_aload_n X.1 X.2.1 dX10_run_158 rfl (lv_at hv 0 rfl) ?_
              refine lv_aload_n X.1 X.2.1 dX10_run_159 rfl (lv_at hv 0 rfl) ?_
              refine xw_get X hk hw (i := 0) 13 xe_0 rfl tlX10 (by decide) rfl tw_532 dX10_run_160 ?_
              refine lv_iload_n X.1 X.2.1 dX10_run_163 rfl (lv_at hv 2 rfl) ?_
              obtain ⟨j_29, e_30, b_31, h⟩ := h
              refine xw_ild X hk hw xe_13 e_30 b_31 (by decide) dX10_run_164 ?_
              refine lv_aload_n X.1 X.2.1 dX10_run_165 rfl (lv_at hv 0 rfl) ?_
              refine xw_get X hk hw (i := 0) 14 xe_0 rfl tlX10 (by decide) rfl tw_533 dX10_run_166 ?_
              refine lv_iload_n X.1 X.2.1 dX10_run_169 rfl (lv_at hv 2 rfl) ?_
              obtain ⟨j_32, e_33, b_34, h⟩ := h
              refine xw_ild X hk hw xe_14 e_33 b_34 (by decide) dX10_run_170 ?_
              refine lv_aload_n X.1 X.2.1 dX10_run_171 rfl (lv_at hv 0 rfl) ?_
              refine xw_get X hk hw (i := 0) 15 xe_0 rfl tlX10 (by decide) rfl tw_534 dX10_run_172 ?_
              refine lv_iload_n X.1 X.2.1 dX10_run_175 rfl (lv_at hv 2 rfl) ?_
              obtain ⟨j_35, e_36, b_37, h⟩ := h
              refine xw_ild X hk hw xe_15 e_36 b_37 (by decide) dX10_run_176 ?_
              refine lv_aload_n X.1 X.2.1 dX10_run_177 rfl (lv_at hv 0 rfl) ?_
              refine xw_get X hk hw (i := 0) 16 xe_0 rfl tlX10 (by decide) rfl tw_535 dX10_run_178 ?_
              refine lv_iload_n X.1 X.2.1 dX10_run_181 rfl (lv_at hv 2 rfl) ?_
              obtain ⟨j_38, e_39, b_40, h⟩ := h
              refine xw_ild X hk hw xe_16 e_39 b_40 (by decide) dX10_run_182 ?_
              refine xc_i (xr_V (n := 4) (As := [.int ((xI S_19 13 j_29)), .int ((xI S_19 14 j_32)), .int ((xI S_19 15 j_35)), .int ((xI S_19 16 j_38))]) (i := 0) X hk hw hv.1 (c_X10_begin l Z et S_19 ((xI S_19 13 j_29)) ((xI S_19 14 j_32)) ((xI S_19 15 j_35)) ((xI S_19 16 j_38)) _ h) (tb_V tw_625 tw_622 tw_624 tw_17 tw_44) xe_0 rfl rfl rfl rfl (by decide +kernel) ⟨Nat.le_of_ble_eq_true rfl, Nat.le_of_ble_eq_true rfl⟩ rfl (Nat.le_of_ble_eq_true rfl) dX10_run_183 ⟨Nat.le_of_ble_eq_true rfl, Nat.le_of_ble_eq_true rfl⟩) hl (fun r_42 S_41 H locs h hN hw hl => ?_)
              replace hNN := hN.trans hNN
              refine lv_istore_n (lv' := [(3, .int (r_42)), (0, .ref (et (0))), (1, .int (a1)), (2, .int (a2))]) X.1 X.2.1 dX10_run_186 rfl hv (by decide) rfl (fun ls hv => ?_)
              refine lv_iload_n X.1 X.2.1 dX10_run_187 rfl (lv_at hv 0 rfl) ?_
              refine lv_if_ne (tgt := 197) X.1 X.2.1 dX10_run_188 (by decide) (fun c_43 => ?_) (fun c_43 => ?_)
              · skip
                replace h := h.1 c_43
                refine lv_aload_n X.1 X.2.1 dX10_run_197 rfl (lv_at hv 1 rfl) ?_
                refine lv_iload_n X.1 X.2.1 dX10_run_198 rfl (lv_at hv 3 rfl) ?_
                refine lv_iload_n X.1 X.2.1 dX10_run_199 rfl (lv_at hv 0 rfl) ?_
                refine xc_i (xr_V (n := 2) (As := [.int (a2), .int (r_42)]) (i := 0) X hk hw hv.1 (c_X10_behind l Z et S_41 (a2) (r_42) _ h) (tb_V tw_729 tw_726 tw_728 tw_36 tw_44) xe_0 rfl rfl rfl rfl (by decide +kernel) ⟨Nat.le_of_ble_eq_true rfl, Nat.le_of_ble_eq_true rfl⟩ rfl (Nat.le_of_ble_eq_true rfl) dX10_run_200 ⟨Nat.le_of_ble_eq_true rfl, Nat.le_of_ble_eq_true rfl⟩) hl (fun r_45 S_44 H locs h hN hw hl => ?_)
                replace hNN := hN.trans hNN
                refine lv_istore (lv' := [(4, .int (r_45)), (3, .int (r_42)), (0, .ref (et (0))), (1, .int (a1)), (2, .int (a2))]) X.1 X.2.1 dX10_run_203 hv (by decide) rfl (fun ls hv => ?_)
                refine lv_iload X.1 X.2.1 dX10_run_205 (lv_at hv 0 rfl) ?_
                refine lv_if_ge (tgt := 217) X.1 X.2.1 dX10_run_207 (by decide) (fun c_46 => ?_) (fun c_46 => ?_)
                · skip
                  replace h := h.1 c_46
                  refine lv_aload_n X.1 X.2.1 dX10_run_217 rfl (lv_at hv 2 rfl) ?_
                  refine lv_iload_n X.1 X.2.1 dX10_run_218 rfl (lv_at hv 1 rfl) ?_
                  refine lv_if_le (tgt := 231) X.1 X.2.1 dX10_run_219 (by decide) (fun c_47 => ?_) (fun c_47 => ?_)
                  · skip
                    replace h := h.1 c_47
                    refine lv_aload_n X.1 X.2.1 dX10_run_231 rfl (lv_at hv 2 rfl) ?_
                    refine xw_get X hk hw (i := 0) 25 xe_0 rfl tlX10 (by decide) rfl tw_544 dX10_run_232 ?_
                    refine xw_put X hk hw hl (i := 0) 25 xe_0 rfl rfl tlX10 tyX10 tyX10_ok nmX10 (by decide) tw_544 rfl rfl (Nat.le_of_ble_eq_true rfl) dX10_run_235 (fun H locs hw hl => ?_)
                    obtain ⟨S_48, e_49⟩ : ∃ T : xs_T, T = sF S_44 0 25 ((xF S_44 0 25)) := ⟨_, rfl⟩
                    rw [← e_49] at hw
                    replace h := h S_48 e_49
                    have hN : S_48.2.2.2.2 = S_44.2.2.2.2 := by rw [e_49]; rfl
                    replace hNN := hN.trans hNN
                    refine lv_iload X.1 X.2.1 dX10_run_238 (lv_at hv 0 rfl) ?_
                    refine lv_istore_n (lv' := [(2, .int (r_45)), (4, .int (r_45)), (3, .int (r_42)), (0, .ref (et (0))), (1, .int (a1))]) X.1 X.2.1 dX10_run_240 rfl hv (by decide) rfl (fun ls hv => ?_)
                    refine lv_goto (tgt := 46) X.1 X.2.1 dX10_run_241 (by decide) ?_
                    exact ih (a1) (r_45) S_48 _ _ _ h hNN hw hl (lv_sub hv [3, 4, 0] rfl)
                  · skip
                    replace h := h.2 c_47
                    refine lv_aload_n X.1 X.2.1 dX10_run_222 rfl (lv_at hv 2 rfl) ?_
                    refine xw_get X hk hw (i := 0) 25 xe_0 rfl tlX10 (by decide) rfl tw_544 dX10_run_223 ?_
                    refine lv_iconst (v := 1) X.1 X.2.1 dX10_run_226 (by decide) ?_
                    refine lv_iadd X.1 X.2.1 dX10_run_227 ?_
                    refine lv_goto (tgt := 235) X.1 X.2.1 dX10_run_228 (by decide) ?_
                    refine xw_put X hk hw hl (i := 0) 25 xe_0 rfl rfl tlX10 tyX10 tyX10_ok nmX10 (by decide) tw_544 rfl rfl (Nat.le_of_ble_eq_true rfl) dX10_run_235 (fun H locs hw hl => ?_)
                    obtain ⟨S_50, e_51⟩ : ∃ T : xs_T, T = sF S_44 0 25 (((xF S_44 0 25) + 1)) := ⟨_, rfl⟩
                    rw [← e_51] at hw
                    replace h := h S_50 e_51
                    have hN : S_50.2.2.2.2 = S_44.2.2.2.2 := by rw [e_51]; rfl
                    replace hNN := hN.trans hNN
                    refine lv_iload X.1 X.2.1 dX10_run_238 (lv_at hv 0 rfl) ?_
                    refine lv_istore_n (lv' := [(2, .int (r_45)), (4, .int (r_45)), (3, .int (r_42)), (0, .ref (et (0))), (1, .int (a1))]) X.1 X.2.1 dX10_run_240 rfl hv (by decide) rfl (fun ls hv => ?_)
                    refine lv_goto (tgt := 46) X.1 X.2.1 dX10_run_241 (by decide) ?_
                    exact ih (a1) (r_45) S_50 _ _ _ h hNN hw hl (lv_sub hv [3, 4, 0] rfl)
                · skip
                  replace h := h.2 c_46
                  refine lv_aload_n X.1 X.2.1 dX10_run_210 rfl (lv_at hv 2 rfl) ?_
                  refine lv_iload_n X.1 X.2.1 dX10_run_211 rfl (lv_at hv 4 rfl) ?_
                  refine xw_put X hk hw hl (i := 0) 27 xe_0 rfl rfl tlX10 tyX10 tyX10_ok nmX10 (by decide) tw_546 rfl rfl (Nat.le_of_ble_eq_true rfl) dX10_run_212 (fun H locs hw hl => ?_)
                  obtain ⟨S_52, e_53⟩ : ∃ T : xs_T, T = sF S_44 0 27 (a2) := ⟨_, rfl⟩
                  rw [← e_53] at hw
                  replace h := h S_52 e_53
                  have hN : S_52.2.2.2.2 = S_44.2.2.2.2 := by rw [e_53]; rfl
                  replace hNN := hN.trans hNN
                  refine lv_iload_n X.1 X.2.1 dX10_run_215 rfl (lv_at hv 1 rfl) ?_
                  exact xt_i X hr hlocks hNN hw hl h dX10_run_216
              · skip
                replace h := h.2 c_43
                refine lv_iload_n X.1 X.2.1 dX10_run_191 rfl (lv_at hv 3 rfl) ?_
                refine lv_iconst (v := 1) X.1 X.2.1 dX10_run_192 (by decide) ?_
                refine lv_iadd X.1 X.2.1 dX10_run_193 ?_
                refine lv_goto (tgt := 203) X.1 X.2.1 dX10_run_194 (by decide) ?_
                refine lv_istore (lv' := [(4, .int ((a2 + 1))), (3, .int (r_42)), (0, .ref (et (0))), (1, .int (a1)), (2, .int (a2))]) X.1 X.2.1 dX10_run_203 hv (by decide) rfl (fun ls hv => ?_)
                refine lv_iload X.1 X.2.1 dX10_run_205 (lv_at hv 0 rfl) ?_
                refine lv_if_ge (tgt := 217) X.1 X.2.1 dX10_run_207 (by decide) (fun c_54 => ?_) (fun c_54 => ?_)
                · skip
                  replace h := h.1 c_54
                  refine lv_aload_n X.1 X.2.1 dX10_run_217 rfl (lv_at hv 2 rfl) ?_
                  refine lv_iload_n X.1 X.2.1 dX10_run_218 rfl (lv_at hv 1 rfl) ?_
                  refine lv_if_le (tgt := 231) X.1 X.2.1 dX10_run_219 (by decide) (fun c_55 => ?_) (fun c_55 => ?_)
                  · skip
                    replace h := h.1 c_55
                    refine lv_aload_n X.1 X.2.1 dX10_run_231 rfl (lv_at hv 2 rfl) ?_
                    refine xw_get X hk hw (i := 0) 25 xe_0 rfl tlX10 (by decide) rfl tw_544 dX10_run_232 ?_
                    refine xw_put X hk hw hl (i := 0) 25 xe_0 rfl rfl tlX10 tyX10 tyX10_ok nmX10 (by decide) tw_544 rfl rfl (Nat.le_of_ble_eq_true rfl) dX10_run_235 (fun H locs hw hl => ?_)
                    obtain ⟨S_56, e_57⟩ : ∃ T : xs_T, T = sF S_41 0 25 ((xF S_41 0 25)) := ⟨_, rfl⟩
                    rw [← e_57] at hw
                    replace h := h S_56 e_57
                    have hN : S_56.2.2.2.2 = S_41.2.2.2.2 := by rw [e_57]; rfl
                    replace hNN := hN.trans hNN
                    refine lv_iload X.1 X.2.1 dX10_run_238 (lv_at hv 0 rfl) ?_
                    refine lv_istore_n (lv' := [(2, .int ((a2 + 1))), (4, .int ((a2 + 1))), (3, .int (r_42)), (0, .ref (et (0))), (1, .int (a1))]) X.1 X.2.1 dX10_run_240 rfl hv (by decide) rfl (fun ls hv => ?_)
                    refine lv_goto (tgt := 46) X.1 X.2.1 dX10_run_241 (by decide) ?_
                    exact ih (a1) ((a2 + 1)) S_56 _ _ _ h hNN hw hl (lv_sub hv [3, 4, 0] rfl)
                  · skip
                    replace h := h.2 c_55
                    refine lv_aload_n X.1 X.2.1 dX10_run_222 rfl (lv_at hv 2 rfl) ?_
                    refine xw_get X hk hw (i := 0) 25 xe_0 rfl tlX10 (by decide) rfl tw_544 dX10_run_223 ?_
                    refine lv_iconst (v := 1) X.1 X.2.1 dX10_run_226 (by decide) ?_
                    refine lv_iadd X.1 X.2.1 dX10_run_227 ?_
                    refine lv_goto (tgt := 235) X.1 X.2.1 dX10_run_228 (by decide) ?_
                    refine xw_put X hk hw hl (i := 0) 25 xe_0 rfl rfl tlX10 tyX10 tyX10_ok nmX10 (by decide) tw_544 rfl rfl (Nat.le_of_ble_eq_true rfl) dX10_run_235 (fun H locs hw hl => ?_)
                    obtain ⟨S_58, e_59⟩ : ∃ T : xs_T, T = sF S_41 0 25 (((xF S_41 0 25) + 1)) := ⟨_, rfl⟩
                    rw [← e_59] at hw
                    replace h := h S_58 e_59
                    have hN : S_58.2.2.2.2 = S_41.2.2.2.2 := by rw [e_59]; rfl
                    replace hNN := hN.trans hNN
                    refine lv_iload X.1 X.2.1 dX10_run_238 (lv_at hv 0 rfl) ?_
                    refine lv_istore_n (lv' := [(2, .int ((a2 + 1))), (4, .int ((a2 + 1))), (3, .int (r_42)), (0, .ref (et (0))), (1, .int (a1))]) X.1 X.2.1 dX10_run_240 rfl hv (by decide) rfl (fun ls hv => ?_)
                    refine lv_goto (tgt := 46) X.1 X.2.1 dX10_run_241 (by decide) ?_
                    exact ih (a1) ((a2 + 1)) S_58 _ _ _ h hNN hw hl (lv_sub hv [3, 4, 0] rfl)
                · skip
                  replace h := h.2 c_54
                  refine lv_aload_n X.1 X.2.1 dX10_run_210 rfl (lv_at hv 2 rfl) ?_
                  refine lv_iload_n X.1 X.2.1 dX10_run_211 rfl (lv_at hv 4 rfl) ?_
                  refine xw_put X hk hw hl (i := 0) 27 xe_0 rfl rfl tlX10 tyX10 tyX10_ok nmX10 (by decide) tw_546 rfl rfl (Nat.le_of_ble_eq_true rfl) dX10_run_212 (fun H locs hw hl => ?_)
                  obtain ⟨S_60, e_61⟩ : ∃ T : xs_T, T = sF S_41 0 27 (a2) := ⟨_, rfl⟩
                  rw [← e_61] at hw
                  replace h := h S_60 e_61
                  have hN : S_60.2.2.2.2 = S_41.2.2.2.2 := by rw [e_61]; rfl
                  replace hNN := hN.trans hNN
                  refine lv_iload_n X.1 X.2.1 dX10_run_215 rfl (lv_at hv 1 rfl) ?_
                  exact xt_i X hr hlocks hNN hw hl h dX10_run_216
            · skip
              replace h := h.2 c_28
              refine lv_aload_n X.1 X.2.1 dX10_run_139 rfl (lv_at hv 0 rfl) ?_
              refine lv_dup X.1 X.2.1 dX10_run_140 rfl ?_
              refine xw_get X hk hw (i := 0) 23 xe_0 rfl tlX10 (by decide) rfl tw_542 dX10_run_141 ?_
              refine lv_iconst (v := 1) X.1 X.2.1 dX10_run_144 (by decide) ?_
              refine lv_iadd X.1 X.2.1 dX10_run_145 ?_
              refine xw_put X hk hw hl (i := 0) 23 xe_0 rfl rfl tlX10 tyX10 tyX10_ok nmX10 (by decide) tw_542 rfl rfl (Nat.le_of_ble_eq_true rfl) dX10_run_146 (fun H locs hw hl => ?_)
              obtain ⟨S_62, e_63⟩ : ∃ T : xs_T, T = sF S_19 0 23 (((xF S_19 0 23) + 1)) := ⟨_, rfl⟩
              rw [← e_63] at hw
              replace h := h S_62 e_63
              have hN : S_62.2.2.2.2 = S_19.2.2.2.2 := by rw [e_63]; rfl
              replace hNN := hN.trans hNN
              refine lv_aload_n X.1 X.2.1 dX10_run_149 rfl (lv_at hv 0 rfl) ?_
              refine lv_iload_n X.1 X.2.1 dX10_run_150 rfl (lv_at hv 2 rfl) ?_
              refine xc_i (xr_V (n := 1) (As := [.int (a2)]) (i := 0) X hk hw hv.1 (c_X10_again l Z et S_62 (a2) _ h) (tb_V tw_725 tw_722 tw_724 tw_35 tw_44) xe_0 rfl rfl rfl rfl (by decide +kernel) ⟨Nat.le_of_ble_eq_true rfl, Nat.le_of_ble_eq_true rfl⟩ rfl (Nat.le_of_ble_eq_true rfl) dX10_run_151 ⟨Nat.le_of_ble_eq_true rfl, Nat.le_of_ble_eq_true rfl⟩) hl (fun r_65 S_64 H locs h hN hw hl => ?_)
              replace hNN := hN.trans hNN
              refine lv_istore_n (lv' := [(2, .int (r_65)), (0, .ref (et (0))), (1, .int (a1))]) X.1 X.2.1 dX10_run_154 rfl hv (by decide) rfl (fun ls hv => ?_)
              refine lv_goto (tgt := 46) X.1 X.2.1 dX10_run_155 (by decide) ?_
              exact ih (a1) (r_65) S_64 _ _ _ h hNN hw hl (lv_sub hv [1, 2, 0] rfl)
          · skip
            replace h := h.2 c_24
            refine lv_aload_n X.1 X.2.1 dX10_run_104 rfl (lv_at hv 0 rfl) ?_
            refine lv_dup X.1 X.2.1 dX10_run_105 rfl ?_
            refine xw_get X hk hw (i := 0) 23 xe_0 rfl tlX10 (by decide) rfl tw_542 dX10_run_106 ?_
            refine lv_iconst (v := 1) X.1 X.2.1 dX10_run_109 (by decide) ?_
            refine lv_iadd X.1 X.2.1 dX10_run_110 ?_
            refine xw_put X hk hw hl (i := 0) 23 xe_0 rfl rfl tlX10 tyX10 tyX10_ok nmX10 (by decide) tw_542 rfl rfl (Nat.le_of_ble_eq_true rfl) dX10_run_111 (fun H locs hw hl => ?_)
            obtain ⟨S_66, e_67⟩ : ∃ T : xs_T, T = sF S_19 0 23 (((xF S_19 0 23) + 1)) := ⟨_, rfl⟩
            rw [← e_67] at hw
            replace h := h S_66 e_67
            have hN : S_66.2.2.2.2 = S_19.2.2.2.2 := by rw [e_67]; rfl
            replace hNN := hN.trans hNN
            refine lv_iload_n X.1 X.2.1 dX10_run_114 rfl (lv_at hv 2 rfl) ?_
            refine lv_iconst (v := 1) X.1 X.2.1 dX10_run_115 (by decide) ?_
            refine lv_iadd X.1 X.2.1 dX10_run_116 ?_
            refine lv_aload_n X.1 X.2.1 dX10_run_117 rfl (lv_at hv 0 rfl) ?_
            refine xw_get X hk hw (i := 0) 16 xe_0 rfl tlX10 (by decide) rfl tw_535 dX10_run_118 ?_
            refine lv_iload_n X.1 X.2.1 dX10_run_121 rfl (lv_at hv 2 rfl) ?_
            obtain ⟨j_68, e_69, b_70, h⟩ := h
            refine xw_ild X hk hw xe_16 e_69 b_70 (by decide) dX10_run_122 ?_
            refine lv_iadd X.1 X.2.1 dX10_run_123 ?_
            refine lv_istore_n (lv' := [(2, .int (((a2 + 1) + (xI S_66 16 j_68)))), (0, .ref (et (0))), (1, .int (a1))]) X.1 X.2.1 dX10_run_124 rfl hv (by decide) rfl (fun ls hv => ?_)
            refine lv_goto (tgt := 46) X.1 X.2.1 dX10_run_125 (by decide) ?_
            exact ih (a1) (((a2 + 1) + (xI S_66 16 j_68))) S_66 _ _ _ h hNN hw hl (lv_sub hv [1, 2, 0] rfl)
        · skip
          replace h := h.2 c_18
          refine lv_bipush (v := 7) X.1 X.2.1 dX10_run_80 (by decide) ?_
          exact xt_i X hr hlocks hNN hw hl h dX10_run_82
      · skip
        replace h := h.2 c_17
        refine lv_aload_n X.1 X.2.1 dX10_run_64 rfl (lv_at hv 0 rfl) ?_
        refine lv_iload_n X.1 X.2.1 dX10_run_65 rfl (lv_at hv 2 rfl) ?_
        refine xw_put X hk hw hl (i := 0) 27 xe_0 rfl rfl tlX10 tyX10 tyX10_ok nmX10 (by decide) tw_546 rfl rfl (Nat.le_of_ble_eq_true rfl) dX10_run_66 (fun H locs hw hl => ?_)
        obtain ⟨S_71, e_72⟩ : ∃ T : xs_T, T = sF S 0 27 (a2) := ⟨_, rfl⟩
        rw [← e_72] at hw
        replace h := h S_71 e_72
        have hN : S_71.2.2.2.2 = S.2.2.2.2 := by rw [e_72]; rfl
        replace hNN := hN.trans hNN
        refine lv_bipush (v := 6) X.1 X.2.1 dX10_run_69 (by decide) ?_
        exact xt_i X hr hlocks hNN hw hl h dX10_run_71
set_option maxHeartbeats 4000000 in
set_option maxRecDepth 100000 in
theorem j_X10_run_25 {l : Launch} {p : Program} {e : Env} {s : State} {m : MethodId} {args : Array Value} {below : List Frame} {meth : Method} {c : Code} {Z : xz_T} {et : Nat → Nat} {Nn : Nat → Nat} {K : Int32 → xs_T → Prop} (X : CallFix p m c cX10_run 5 s args (wq yX10_run cX10_run 5 (some .int)) RX10) (hk : xk Z s) (hr : meth.sig.returnType = (some .int)) (hlocks : meth.locks = false) : ∀ (n : Nat) (a1 : Int32) (a2 : Int32) (S : xs_T) (H : Heap) (locs : List Loc) (ls : Array Slot), v_X10_run_25 K n a1 a2 S → S.2.2.2.2 = Nn → wd Z et S H → xl Z locs → lv_has ls 5 [(0, .ref (et (0))), (1, .int (a1)), (2, .int (a2))] → W p l e (headSpec (wq yX10_run cX10_run 5 (some .int)) { frames := 6, cells := 0, slots := 0, locals := 147 }).room s m args below meth c H locs 0 0 (MQ below (xQi Z et Nn K) args s 0 0 (fun q => Z.2.2.1 ≤ q)) (F0 m 25 ls []) := by
  intro n
  induction n with
  | zero =>
    intro a1 a2 S H locs ls h hNN hw hl hv
    exact False.elim h
  | succ n ih =>
    intro a1 a2 S H locs ls h hNN hw hl hv
    rw [v_X10_run_25] at h
    refine lv_iload_n X.1 X.2.1 dX10_run_25 rfl (lv_at hv 2 rfl) ?_
    refine lv_bipush (v := 60) X.1 X.2.1 dX10_run_26 (by decide) ?_
    refine lv_icmp_ge (tgt := 44) X.1 X.2.1 dX10_run_28 (by decide) (fun c_9 => ?_) (fun c_9 => ?_)
    · skip
      replace h := h.1 c_9
      refine lv_iconst (v := 0) X.1 X.2.1 dX10_run_44 (by decide) ?_
      refine lv_istore_n (lv' := [(2, .int (0)), (0, .ref (et (0))), (1, .int (a1))]) X.1 X.2.1 dX10_run_45 rfl hv (by decide) rfl (fun ls hv => ?_)
      obtain ⟨n_10, h⟩ := h
      exact j_X10_run_46 X hk hr hlocks n_10 (a1) (0) S _ _ _ h hNN hw hl (lv_sub hv [1, 2, 0] rfl)
    · skip
      replace h := h.2 c_9
      refine lv_aload_n X.1 X.2.1 dX10_run_31 rfl (lv_at hv 0 rfl) ?_
      refine xw_get X hk hw (i := 0) 17 xe_0 rfl tlX10 (by decide) rfl tw_536 dX10_run_32 ?_
      refine lv_iload_n X.1 X.2.1 dX10_run_35 rfl (lv_at hv 2 rfl) ?_
      refine lv_iconst (v := 0) X.1 X.2.1 dX10_run_36 (by decide) ?_
      obtain ⟨j_11, e_12, b_13, h⟩ := h
      refine xw_ist X hk hw hl xe_17 rfl e_12 b_13 (by decide) dX10_run_37 (fun H locs hw hl => ?_)
      obtain ⟨S_14, e_15⟩ : ∃ T : xs_T, T = sI S 17 j_11 (0) := ⟨_, rfl⟩
      rw [← e_15] at hw
      replace h := h S_14 e_15
      have hN : S_14.2.2.2.2 = S.2.2.2.2 := by rw [e_15]; rfl
      replace hNN := hN.trans hNN
      refine lv_iinc (v := (a2 + 1)) (lv' := [(2, .int ((a2 + 1))), (0, .ref (et (0))), (1, .int (a1))]) X.1 X.2.1 dX10_run_38 hv (k := 2) rfl rfl (by decide) rfl (fun ls hv => ?_)
      refine lv_goto (tgt := 25) X.1 X.2.1 dX10_run_41 (by decide) ?_
      exact ih (a1) ((a2 + 1)) S_14 _ _ _ h hNN hw hl (lv_sub hv [1, 2, 0] rfl)
set_option maxHeartbeats 4000000 in
set_option maxRecDepth 100000 in
theorem c_X10_run (l : Launch) (Z : xz_T) (et : Nat → Nat) (S : xs_T) (x1 : Int32) (K : Int32 → xs_T → Prop) (h : v_X10_run x1 S K) : Met l yX10_run (wq yX10_run cX10_run 5 (some .int)) { frames := 6, cells := 0, slots := 0, locals := 147 } (xPc Z et S [.ref (et (0)), .int (x1)]) (xQi Z et S.2.2.2.2 K) 0 0 (fun q => Z.2.2.1 ≤ q) := by
  refine Met.ofW (cc := cX10_run) (maxL := 5) (ret := (some .int)) (by decide +kernel) rfl ?_
  intro p e s m args below meth c s₁ B hml hv0
  obtain ⟨rfl, hk, hw⟩ := hv0
  have X : CallFix p m c cX10_run 5 s _ (wq yX10_run cX10_run 5 (some .int)) RX10 := ⟨B.exec, B.bytes, hml, findClass_of_methodNamed B.named, atoms_spec (ws := (wq yX10_run cX10_run 5 (some .int))) B.pre⟩
  have hr := B.returns
  have hlocks := B.notSynchronized
  have hl : xl Z [] := fun _ h => by cases h
  have hNN : S.2.2.2.2 = S.2.2.2.2 := rfl
  have hv := lv_entry [.ref (et (0)), .int (x1)] (n := 5) (Nat.le_of_ble_eq_true rfl)
  rw [lg_entry_eq]
  generalize (lg_sl [.ref (et (0)), .int (x1)] ++ List.replicate (5 - (lg_sl [.ref (et (0)), .int (x1)]).length) Slot.unset).toArray = ls at hv ⊢
  replace hv : lv_has ls 5 [(0, .ref (et (0))), (1, .int (x1))] := hv
  unfold v_X10_run at h
  refine lv_iload_n X.1 X.2.1 dX10_run_0 rfl (lv_at hv 1 rfl) ?_
  refine lv_iconst (v := 0) X.1 X.2.1 dX10_run_1 (by decide) ?_
  refine lv_sipush (v := 300) X.1 X.2.1 dX10_run_2 (by decide) ?_
  refine xc_i (xr_S (n := 3) X hk hw hv.1 (c_X10_in l Z et S (x1) (0) (300) _ h) (tb_S tw_613 tw_611 tw_612 tw_44) rfl rfl (by decide +kernel) ⟨Nat.le_of_ble_eq_true rfl, Nat.le_of_ble_eq_true rfl⟩ rfl (Nat.le_of_ble_eq_true rfl) dX10_run_5 ⟨Nat.le_of_ble_eq_true rfl, Nat.le_of_ble_eq_true rfl⟩) hl (fun r_2 S_1 H locs h hN hw hl => ?_)
  replace hNN := hN.trans hNN
  refine lv_if_ne (tgt := 13) X.1 X.2.1 dX10_run_8 (by decide) (fun c_3 => ?_) (fun c_3 => ?_)
  · skip
    replace h := h.1 c_3
    refine lv_aload_n X.1 X.2.1 dX10_run_13 rfl (lv_at hv 0 rfl) ?_
    refine lv_iconst (v := 0) X.1 X.2.1 dX10_run_14 (by decide) ?_
    refine xw_put X hk hw hl (i := 0) 26 xe_0 rfl rfl tlX10 tyX10 tyX10_ok nmX10 (by decide) tw_545 rfl rfl (Nat.le_of_ble_eq_true rfl) dX10_run_15 (fun H locs hw hl => ?_)
    obtain ⟨S_4, e_5⟩ : ∃ T : xs_T, T = sF S_1 0 26 (0) := ⟨_, rfl⟩
    rw [← e_5] at hw
    replace h := h S_4 e_5
    have hN : S_4.2.2.2.2 = S_1.2.2.2.2 := by rw [e_5]; rfl
    replace hNN := hN.trans hNN
    refine lv_aload_n X.1 X.2.1 dX10_run_18 rfl (lv_at hv 0 rfl) ?_
    refine lv_iconst (v := (-1)) X.1 X.2.1 dX10_run_19 (by decide) ?_
    refine xw_put X hk hw hl (i := 0) 27 xe_0 rfl rfl tlX10 tyX10 tyX10_ok nmX10 (by decide) tw_546 rfl rfl (Nat.le_of_ble_eq_true rfl) dX10_run_20 (fun H locs hw hl => ?_)
    obtain ⟨S_6, e_7⟩ : ∃ T : xs_T, T = sF S_4 0 27 ((-1)) := ⟨_, rfl⟩
    rw [← e_7] at hw
    replace h := h S_6 e_7
    have hN : S_6.2.2.2.2 = S_4.2.2.2.2 := by rw [e_7]; rfl
    replace hNN := hN.trans hNN
    refine lv_iconst (v := 0) X.1 X.2.1 dX10_run_23 (by decide) ?_
    refine lv_istore_n (lv' := [(2, .int (0)), (0, .ref (et (0))), (1, .int (x1))]) X.1 X.2.1 dX10_run_24 rfl hv (by decide) rfl (fun ls hv => ?_)
    obtain ⟨n_8, h⟩ := h
    exact j_X10_run_25 X hk hr hlocks n_8 (x1) (0) S_6 _ _ _ h hNN hw hl (lv_sub hv [1, 2, 0] rfl)
  · skip
    replace h := h.2 c_3
    refine lv_iconst (v := (-1)) X.1 X.2.1 dX10_run_11 (by decide) ?_
    exact xt_i X hr hlocks hNN hw hl h dX10_run_12
def v_X10_back_31 (K : Int32 → xs_T → Prop) : Nat → Int32 → Int32 → xs_T → Prop
  | 0, _, _, _ => False
  | n + 1, a1, a2, S => ∃ j_8 : Nat, a1 = nI j_8 ∧ j_8 < 120 ∧ (((xI S 2 j_8) ≤ a2 → K (1) S) ∧ (¬ (xI S 2 j_8) ≤ a2 → ∃ j_12 : Nat, a1 = nI j_12 ∧ j_12 < 120 ∧ ∃ j_15 : Nat, ((64 * (xF S 0 18)) + a2) = nI j_15 ∧ j_15 < 1280 ∧ ∃ j_18 : Nat, ((xI S 3 j_12) + a2) = nI j_18 ∧ j_18 < 3000 ∧ ∀ S_21 : xs_T, S_21 = sL S 5 j_18 ((xL S 20 j_15)) → v_X10_back_31 K n (a1) ((a2 + 1)) S_21))
def v_X10_back  (S : xs_T) (K : Int32 → xs_T → Prop) : Prop := ((¬ (xF S 0 18) = 0 → ∀ S_2 : xs_T, S_2 = sF S 0 18 (((xF S 0 18) - 1)) → ∃ j_4 : Nat, (xF S_2 0 18) = nI j_4 ∧ j_4 < 20 ∧ ∃ n, v_X10_back_31 K n ((xI S_2 19 j_4)) (0) S_2) ∧ ((xF S 0 18) = 0 → K (0) S))
set_option maxHeartbeats 4000000 in
set_option maxRecDepth 100000 in
theorem j_X10_back_31 {l : Launch} {p : Program} {e : Env} {s : State} {m : MethodId} {args : Array Value} {below : List Frame} {meth : Method} {c : Code} {Z : xz_T} {et : Nat → Nat} {Nn : Nat → Nat} {K : Int32 → xs_T → Prop} (X : CallFix p m c cX10_back 3 s args (wq yX10_back cX10_back 3 (some .boolean)) RX10) (hk : xk Z s) (hr : meth.sig.returnType = (some .boolean)) (hlocks : meth.locks = false) : ∀ (n : Nat) (a1 : Int32) (a2 : Int32) (S : xs_T) (H : Heap) (locs : List Loc) (ls : Array Slot), v_X10_back_31 K n a1 a2 S → S.2.2.2.2 = Nn → wd Z et S H → xl Z locs → lv_has ls 3 [(0, .ref (et (0))), (1, .int (a1)), (2, .int (a2))] → W p l e (headSpec (wq yX10_back cX10_back 3 (some .boolean)) { frames := 0, cells := 0, slots := 0, locals := 0 }).room s m args below meth c H locs 0 0 (MQ below (xQi Z et Nn K) args s 0 0 (fun q => Z.2.2.1 ≤ q)) (F0 m 31 ls []) := by
  intro n
  induction n with
  | zero =>
    intro a1 a2 S H locs ls h hNN hw hl hv
    exact False.elim h
  | succ n ih =>
    intro a1 a2 S H locs ls h hNN hw hl hv
    rw [v_X10_back_31] at h
    refine lv_iload_n X.1 X.2.1 dX10_back_31 rfl (lv_at hv 2 rfl) ?_
    refine lv_aload_n X.1 X.2.1 dX10_back_32 rfl (lv_at hv 0 rfl) ?_
    refine xw_get X hk hw (i := 0) 2 xe_0 rfl tlX10 (by decide) rfl tw_521 dX10_back_33 ?_
    refine lv_iload_n X.1 X.2.1 dX10_back_36 rfl (lv_at hv 1 rfl) ?_
    obtain ⟨j_8, e_9, b_10, h⟩ := h
    refine xw_ild X hk hw xe_2 e_9 b_10 (by decide) dX10_back_37 ?_
    refine lv_icmp_ge (tgt := 74) X.1 X.2.1 dX10_back_38 (by decide) (fun c_11 => ?_) (fun c_11 => ?_)
    · skip
      replace h := h.1 c_11
      refine lv_iconst (v := 1) X.1 X.2.1 dX10_back_74 (by decide) ?_
      exact xt_z X hr hlocks hNN hw hl (by decide) h dX10_back_75
    · skip
      replace h := h.2 c_11
      refine lv_aload_n X.1 X.2.1 dX10_back_41 rfl (lv_at hv 0 rfl) ?_
      refine xw_get X hk hw (i := 0) 5 xe_0 rfl tlX10 (by decide) rfl tw_524 dX10_back_42 ?_
      refine lv_aload_n X.1 X.2.1 dX10_back_45 rfl (lv_at hv 0 rfl) ?_
      refine xw_get X hk hw (i := 0) 3 xe_0 rfl tlX10 (by decide) rfl tw_522 dX10_back_46 ?_
      refine lv_iload_n X.1 X.2.1 dX10_back_49 rfl (lv_at hv 1 rfl) ?_
      obtain ⟨j_12, e_13, b_14, h⟩ := h
      refine xw_ild X hk hw xe_3 e_13 b_14 (by decide) dX10_back_50 ?_
      refine lv_iload_n X.1 X.2.1 dX10_back_51 rfl (lv_at hv 2 rfl) ?_
      refine lv_iadd X.1 X.2.1 dX10_back_52 ?_
      refine lv_aload_n X.1 X.2.1 dX10_back_53 rfl (lv_at hv 0 rfl) ?_
      refine xw_get X hk hw (i := 0) 20 xe_0 rfl tlX10 (by decide) rfl tw_539 dX10_back_54 ?_
      refine lv_bipush (v := 64) X.1 X.2.1 dX10_back_57 (by decide) ?_
      refine lv_aload_n X.1 X.2.1 dX10_back_59 rfl (lv_at hv 0 rfl) ?_
      refine xw_get X hk hw (i := 0) 18 xe_0 rfl tlX10 (by decide) rfl tw_537 dX10_back_60 ?_
      refine lv_imul X.1 X.2.1 dX10_back_63 ?_
      refine lv_iload_n X.1 X.2.1 dX10_back_64 rfl (lv_at hv 2 rfl) ?_
      refine lv_iadd X.1 X.2.1 dX10_back_65 ?_
      obtain ⟨j_15, e_16, b_17, h⟩ := h
      refine xw_lld X hk hw xe_20 e_16 b_17 (by decide) dX10_back_66 ?_
      obtain ⟨j_18, e_19, b_20, h⟩ := h
      refine xw_lst X hk hw hl xe_5 rfl e_19 b_20 (by decide) dX10_back_67 (fun H locs hw hl => ?_)
      obtain ⟨S_21, e_22⟩ : ∃ T : xs_T, T = sL S 5 j_18 ((xL S 20 j_15)) := ⟨_, rfl⟩
      rw [← e_22] at hw
      replace h := h S_21 e_22
      have hN : S_21.2.2.2.2 = S.2.2.2.2 := by rw [e_22]; rfl
      replace hNN := hN.trans hNN
      refine lv_iinc (v := (a2 + 1)) (lv' := [(2, .int ((a2 + 1))), (0, .ref (et (0))), (1, .int (a1))]) X.1 X.2.1 dX10_back_68 hv (k := 2) rfl rfl (by decide) rfl (fun ls hv => ?_)
      refine lv_goto (tgt := 31) X.1 X.2.1 dX10_back_71 (by decide) ?_
      exact ih (a1) ((a2 + 1)) S_21 _ _ _ h hNN hw hl (lv_sub hv [1, 2, 0] rfl)
set_option maxHeartbeats 4000000 in
set_option maxRecDepth 100000 in
theorem c_X10_back (l : Launch) (Z : xz_T) (et : Nat → Nat) (S : xs_T)  (K : Int32 → xs_T → Prop) (h : v_X10_back  S K) : Met l yX10_back (wq yX10_back cX10_back 3 (some .boolean)) { frames := 0, cells := 0, slots := 0, locals := 0 } (xPc Z et S [.ref (et (0))]) (xQi Z et S.2.2.2.2 K) 0 0 (fun q => Z.2.2.1 ≤ q) := by
  refine Met.ofW (cc := cX10_back) (maxL := 3) (ret := (some .boolean)) (by decide +kernel) rfl ?_
  intro p e s m args below meth c s₁ B hml hv0
  obtain ⟨rfl, hk, hw⟩ := hv0
  have X : CallFix p m c cX10_back 3 s _ (wq yX10_back cX10_back 3 (some .boolean)) RX10 := ⟨B.exec, B.bytes, hml, findClass_of_methodNamed B.named, atoms_spec (ws := (wq yX10_back cX10_back 3 (some .boolean))) B.pre⟩
  have hr := B.returns
  have hlocks := B.notSynchronized
  have hl : xl Z [] := fun _ h => by cases h
  have hNN : S.2.2.2.2 = S.2.2.2.2 := rfl
  have hv := lv_entry [.ref (et (0))] (n := 3) (Nat.le_of_ble_eq_true rfl)
  rw [lg_entry_eq]
  generalize (lg_sl [.ref (et (0))] ++ List.replicate (3 - (lg_sl [.ref (et (0))]).length) Slot.unset).toArray = ls at hv ⊢
  replace hv : lv_has ls 3 [(0, .ref (et (0)))] := hv
  unfold v_X10_back at h
  refine lv_aload_n X.1 X.2.1 dX10_back_0 rfl (lv_at hv 0 rfl) ?_
  refine xw_get X hk hw (i := 0) 18 xe_0 rfl tlX10 (by decide) rfl tw_537 dX10_back_1 ?_
  refine lv_if_ne (tgt := 9) X.1 X.2.1 dX10_back_4 (by decide) (fun c_1 => ?_) (fun c_1 => ?_)
  · skip
    replace h := h.1 c_1
    refine lv_aload_n X.1 X.2.1 dX10_back_9 rfl (lv_at hv 0 rfl) ?_
    refine lv_dup X.1 X.2.1 dX10_back_10 rfl ?_
    refine xw_get X hk hw (i := 0) 18 xe_0 rfl tlX10 (by decide) rfl tw_537 dX10_back_11 ?_
    refine lv_iconst (v := 1) X.1 X.2.1 dX10_back_14 (by decide) ?_
    refine lv_isub X.1 X.2.1 dX10_back_15 ?_
    refine xw_put X hk hw hl (i := 0) 18 xe_0 rfl rfl tlX10 tyX10 tyX10_ok nmX10 (by decide) tw_537 rfl rfl (Nat.le_of_ble_eq_true rfl) dX10_back_16 (fun H locs hw hl => ?_)
    obtain ⟨S_2, e_3⟩ : ∃ T : xs_T, T = sF S 0 18 (((xF S 0 18) - 1)) := ⟨_, rfl⟩
    rw [← e_3] at hw
    replace h := h S_2 e_3
    have hN : S_2.2.2.2.2 = S.2.2.2.2 := by rw [e_3]; rfl
    replace hNN := hN.trans hNN
    refine lv_aload_n X.1 X.2.1 dX10_back_19 rfl (lv_at hv 0 rfl) ?_
    refine xw_get X hk hw (i := 0) 19 xe_0 rfl tlX10 (by decide) rfl tw_538 dX10_back_20 ?_
    refine lv_aload_n X.1 X.2.1 dX10_back_23 rfl (lv_at hv 0 rfl) ?_
    refine xw_get X hk hw (i := 0) 18 xe_0 rfl tlX10 (by decide) rfl tw_537 dX10_back_24 ?_
    obtain ⟨j_4, e_5, b_6, h⟩ := h
    refine xw_ild X hk hw xe_19 e_5 b_6 (by decide) dX10_back_27 ?_
    refine lv_istore_n (lv' := [(1, .int ((xI S_2 19 j_4))), (0, .ref (et (0)))]) X.1 X.2.1 dX10_back_28 rfl hv (by decide) rfl (fun ls hv => ?_)
    refine lv_iconst (v := 0) X.1 X.2.1 dX10_back_29 (by decide) ?_
    refine lv_istore_n (lv' := [(2, .int (0)), (1, .int ((xI S_2 19 j_4))), (0, .ref (et (0)))]) X.1 X.2.1 dX10_back_30 rfl hv (by decide) rfl (fun ls hv => ?_)
    obtain ⟨n_7, h⟩ := h
    exact j_X10_back_31 X hk hr hlocks n_7 ((xI S_2 19 j_4)) (0) S_2 _ _ _ h hNN hw hl (lv_sub hv [2, 1, 0] rfl)
  · skip
    replace h := h.2 c_1
    refine lv_iconst (v := 0) X.1 X.2.1 dX10_back_7 (by decide) ?_
    exact xt_z X hr hlocks hNN hw hl (by decide) h dX10_back_8
def v_X10_first_2 (K : Int32 → xs_T → Prop) : Nat → Int32 → Int32 → xs_T → Prop
  | 0, _, _, _ => False
  | n + 1, a1, a2, S => ∃ j_2 : Nat, a2 = nI j_2 ∧ j_2 < 10 ∧ ∃ j_5 : Nat, a1 = nI j_5 ∧ j_5 < 10 ∧ ((¬ (xI S 9 j_2) = (xI S 9 j_5) → v_X10_first_2 K n (a1) ((a2 + 1)) S) ∧ ((xI S 9 j_2) = (xI S 9 j_5) → ∃ j_9 : Nat, a2 = nI j_9 ∧ j_9 < 10 ∧ ∃ j_12 : Nat, a1 = nI j_12 ∧ j_12 < 10 ∧ (((xI S 10 j_9) = (xI S 10 j_12) → K (a2) S) ∧ (¬ (xI S 10 j_9) = (xI S 10 j_12) → v_X10_first_2 K n (a1) ((a2 + 1)) S))))
def v_X10_first (x1 : Int32) (S : xs_T) (K : Int32 → xs_T → Prop) : Prop := ∃ n, v_X10_first_2 K n (x1) (0) S
set_option maxHeartbeats 4000000 in
set_option maxRecDepth 100000 in
theorem j_X10_first_2 {l : Launch} {p : Program} {e : Env} {s : State} {m : MethodId} {args : Array Value} {below : List Frame} {meth : Method} {c : Code} {Z : xz_T} {et : Nat → Nat} {Nn : Nat → Nat} {K : Int32 → xs_T → Prop} (X : CallFix p m c cX10_first 3 s args (wq yX10_first cX10_first 3 (some .int)) RX10) (hk : xk Z s) (hr : meth.sig.returnType = (some .int)) (hlocks : meth.locks = false) : ∀ (n : Nat) (a1 : Int32) (a2 : Int32) (S : xs_T) (H : Heap) (locs : List Loc) (ls : Array Slot), v_X10_first_2 K n a1 a2 S → S.2.2.2.2 = Nn → wd Z et S H → xl Z locs → lv_has ls 3 [(0, .ref (et (0))), (1, .int (a1)), (2, .int (a2))] → W p l e (headSpec (wq yX10_first cX10_first 3 (some .int)) { frames := 0, cells := 0, slots := 0, locals := 0 }).room s m args below meth c H locs 0 0 (MQ below (xQi Z et Nn K) args s 0 0 (fun q => Z.2.2.1 ≤ q)) (F0 m 2 ls []) := by
  intro n
  induction n with
  | zero =>
    intro a1 a2 S H locs ls h hNN hw hl hv
    exact False.elim h
  | succ n ih =>
    intro a1 a2 S H locs ls h hNN hw hl hv
    rw [v_X10_first_2] at h
    refine lv_aload_n X.1 X.2.1 dX10_first_2 rfl (lv_at hv 0 rfl) ?_
    refine xw_get X hk hw (i := 0) 9 xe_0 rfl tlX10 (by decide) rfl tw_528 dX10_first_3 ?_
    refine lv_iload_n X.1 X.2.1 dX10_first_6 rfl (lv_at hv 2 rfl) ?_
    obtain ⟨j_2, e_3, b_4, h⟩ := h
    refine xw_ild X hk hw xe_9 e_3 b_4 (by decide) dX10_first_7 ?_
    refine lv_aload_n X.1 X.2.1 dX10_first_8 rfl (lv_at hv 0 rfl) ?_
    refine xw_get X hk hw (i := 0) 9 xe_0 rfl tlX10 (by decide) rfl tw_528 dX10_first_9 ?_
    refine lv_iload_n X.1 X.2.1 dX10_first_12 rfl (lv_at hv 1 rfl) ?_
    obtain ⟨j_5, e_6, b_7, h⟩ := h
    refine xw_ild X hk hw xe_9 e_6 b_7 (by decide) dX10_first_13 ?_
    refine lv_icmp_ne (tgt := 32) X.1 X.2.1 dX10_first_14 (by decide) (fun c_8 => ?_) (fun c_8 => ?_)
    · skip
      replace h := h.1 c_8
      refine lv_iinc (v := (a2 + 1)) (lv' := [(2, .int ((a2 + 1))), (0, .ref (et (0))), (1, .int (a1))]) X.1 X.2.1 dX10_first_32 hv (k := 2) rfl rfl (by decide) rfl (fun ls hv => ?_)
      refine lv_goto (tgt := 2) X.1 X.2.1 dX10_first_35 (by decide) ?_
      exact ih (a1) ((a2 + 1)) S _ _ _ h hNN hw hl (lv_sub hv [1, 2, 0] rfl)
    · skip
      replace h := h.2 c_8
      refine lv_aload_n X.1 X.2.1 dX10_first_17 rfl (lv_at hv 0 rfl) ?_
      refine xw_get X hk hw (i := 0) 10 xe_0 rfl tlX10 (by decide) rfl tw_529 dX10_first_18 ?_
      refine lv_iload_n X.1 X.2.1 dX10_first_21 rfl (lv_at hv 2 rfl) ?_
      obtain ⟨j_9, e_10, b_11, h⟩ := h
      refine xw_ild X hk hw xe_10 e_10 b_11 (by decide) dX10_first_22 ?_
      refine lv_aload_n X.1 X.2.1 dX10_first_23 rfl (lv_at hv 0 rfl) ?_
      refine xw_get X hk hw (i := 0) 10 xe_0 rfl tlX10 (by decide) rfl tw_529 dX10_first_24 ?_
      refine lv_iload_n X.1 X.2.1 dX10_first_27 rfl (lv_at hv 1 rfl) ?_
      obtain ⟨j_12, e_13, b_14, h⟩ := h
      refine xw_ild X hk hw xe_10 e_13 b_14 (by decide) dX10_first_28 ?_
      refine lv_icmp_eq (tgt := 38) X.1 X.2.1 dX10_first_29 (by decide) (fun c_15 => ?_) (fun c_15 => ?_)
      · skip
        replace h := h.1 c_15
        refine lv_iload_n X.1 X.2.1 dX10_first_38 rfl (lv_at hv 2 rfl) ?_
        exact xt_i X hr hlocks hNN hw hl h dX10_first_39
      · skip
        replace h := h.2 c_15
        refine lv_iinc (v := (a2 + 1)) (lv' := [(2, .int ((a2 + 1))), (0, .ref (et (0))), (1, .int (a1))]) X.1 X.2.1 dX10_first_32 hv (k := 2) rfl rfl (by decide) rfl (fun ls hv => ?_)
        refine lv_goto (tgt := 2) X.1 X.2.1 dX10_first_35 (by decide) ?_
        exact ih (a1) ((a2 + 1)) S _ _ _ h hNN hw hl (lv_sub hv [1, 2, 0] rfl)
set_option maxHeartbeats 4000000 in
set_option maxRecDepth 100000 in
theorem c_X10_first (l : Launch) (Z : xz_T) (et : Nat → Nat) (S : xs_T) (x1 : Int32) (K : Int32 → xs_T → Prop) (h : v_X10_first x1 S K) : Met l yX10_first (wq yX10_first cX10_first 3 (some .int)) { frames := 0, cells := 0, slots := 0, locals := 0 } (xPc Z et S [.ref (et (0)), .int (x1)]) (xQi Z et S.2.2.2.2 K) 0 0 (fun q => Z.2.2.1 ≤ q) := by
  refine Met.ofW (cc := cX10_first) (maxL := 3) (ret := (some .int)) (by decide +kernel) rfl ?_
  intro p e s m args below meth c s₁ B hml hv0
  obtain ⟨rfl, hk, hw⟩ := hv0
  have X : CallFix p m c cX10_first 3 s _ (wq yX10_first cX10_first 3 (some .int)) RX10 := ⟨B.exec, B.bytes, hml, findClass_of_methodNamed B.named, atoms_spec (ws := (wq yX10_first cX10_first 3 (some .int))) B.pre⟩
  have hr := B.returns
  have hlocks := B.notSynchronized
  have hl : xl Z [] := fun _ h => by cases h
  have hNN : S.2.2.2.2 = S.2.2.2.2 := rfl
  have hv := lv_entry [.ref (et (0)), .int (x1)] (n := 3) (Nat.le_of_ble_eq_true rfl)
  rw [lg_entry_eq]
  generalize (lg_sl [.ref (et (0)), .int (x1)] ++ List.replicate (3 - (lg_sl [.ref (et (0)), .int (x1)]).length) Slot.unset).toArray = ls at hv ⊢
  replace hv : lv_has ls 3 [(0, .ref (et (0))), (1, .int (x1))] := hv
  unfold v_X10_first at h
  refine lv_iconst (v := 0) X.1 X.2.1 dX10_first_0 (by decide) ?_
  refine lv_istore_n (lv' := [(2, .int (0)), (0, .ref (et (0))), (1, .int (x1))]) X.1 X.2.1 dX10_first_1 rfl hv (by decide) rfl (fun ls hv => ?_)
  obtain ⟨n_1, h⟩ := h
  exact j_X10_first_2 X hk hr hlocks n_1 (x1) (0) S _ _ _ h hNN hw hl (lv_sub hv [1, 2, 0] rfl)
def v_X10_look (x1 : Int32) (x2 : Int32) (S : xs_T) (K : Int32 → xs_T → Prop) : Prop := v_X10_in (x1) (0) (9) S (fun (r_2 : Int32) (S_1 : xs_T) => ((¬ r_2 = 0 → (((x2 = 0) → ∃ j_4 : Nat, x1 = nI j_4 ∧ j_4 < 10 ∧ ((¬ (xI S_1 9 j_4) = 0 → ∃ j_8 : Nat, x1 = nI j_8 ∧ j_8 < 10 ∧ ((¬ (xI S_1 9 j_8) = 1 → ∃ j_12 : Nat, x1 = nI j_12 ∧ j_12 < 10 ∧ ((¬ (xI S_1 9 j_12) = 2 → ∃ j_16 : Nat, x1 = nI j_16 ∧ j_16 < 10 ∧ ∃ j_19 : Nat, (xI S_1 10 j_16) = nI j_19 ∧ j_19 < 401 ∧ K ((12 + (xI S_1 7 j_19))) S_1) ∧ ((xI S_1 9 j_12) = 2 → K (12) S_1))) ∧ ((xI S_1 9 j_8) = 1 → ∃ j_22 : Nat, x1 = nI j_22 ∧ j_22 < 10 ∧ ∃ j_25 : Nat, (xI S_1 10 j_22) = nI j_25 ∧ j_25 < 120 ∧ K ((xI S_1 1 j_25)) S_1))) ∧ ((xI S_1 9 j_4) = 0 → K ((-1)) S_1))) ∧ ((x2 = 1) → ∃ j_28 : Nat, x1 = nI j_28 ∧ j_28 < 10 ∧ ((¬ (xI S_1 9 j_28) = 1 → ∃ j_32 : Nat, x1 = nI j_32 ∧ j_32 < 10 ∧ ((¬ (xI S_1 9 j_32) = 3 → K ((-1)) S_1) ∧ ((xI S_1 9 j_32) = 3 → ∃ j_36 : Nat, x1 = nI j_36 ∧ j_36 < 10 ∧ K ((xI S_1 10 j_36)) S_1))) ∧ ((xI S_1 9 j_28) = 1 → ∃ j_39 : Nat, x1 = nI j_39 ∧ j_39 < 10 ∧ ∃ j_42 : Nat, (xI S_1 10 j_39) = nI j_42 ∧ j_42 < 120 ∧ K ((xI S_1 2 j_42)) S_1))) ∧ ((x2 = 2) → ∃ j_45 : Nat, x1 = nI j_45 ∧ j_45 < 10 ∧ K ((xI S_1 11 j_45)) S_1) ∧ ((x2 = 3) → ∃ j_48 : Nat, x1 = nI j_48 ∧ j_48 < 10 ∧ ((¬ (xI S_1 9 j_48) = 0 → v_X10_first (x1) S_1 (fun (r_53 : Int32) (S_52 : xs_T) => K (r_53) S_52)) ∧ ((xI S_1 9 j_48) = 0 → K ((-1)) S_1))) ∧ (¬ x2 = 0 → ¬ x2 = 1 → ¬ x2 = 2 → ¬ x2 = 3 → K ((-1)) S_1))) ∧ (r_2 = 0 → K ((-1)) S_1)))
set_option maxHeartbeats 4000000 in
set_option maxRecDepth 100000 in
theorem c_X10_look (l : Launch) (Z : xz_T) (et : Nat → Nat) (S : xs_T) (x1 : Int32) (x2 : Int32) (K : Int32 → xs_T → Prop) (h : v_X10_look x1 x2 S K) : Met l yX10_look (wq yX10_look cX10_look 3 (some .int)) { frames := 1, cells := 0, slots := 0, locals := 22 } (xPc Z et S [.ref (et (0)), .int (x1), .int (x2)]) (xQi Z et S.2.2.2.2 K) 0 0 (fun q => Z.2.2.1 ≤ q) := by
  refine Met.ofW (cc := cX10_look) (maxL := 3) (ret := (some .int)) (by decide +kernel) rfl ?_
  intro p e s m args below meth c s₁ B hml hv0
  obtain ⟨rfl, hk, hw⟩ := hv0
  have X : CallFix p m c cX10_look 3 s _ (wq yX10_look cX10_look 3 (some .int)) RX10 := ⟨B.exec, B.bytes, hml, findClass_of_methodNamed B.named, atoms_spec (ws := (wq yX10_look cX10_look 3 (some .int))) B.pre⟩
  have hr := B.returns
  have hlocks := B.notSynchronized
  have hl : xl Z [] := fun _ h => by cases h
  have hNN : S.2.2.2.2 = S.2.2.2.2 := rfl
  have hv := lv_entry [.ref (et (0)), .int (x1), .int (x2)] (n := 3) (Nat.le_of_ble_eq_true rfl)
  rw [lg_entry_eq]
  generalize (lg_sl [.ref (et (0)), .int (x1), .int (x2)] ++ List.replicate (3 - (lg_sl [.ref (et (0)), .int (x1), .int (x2)]).length) Slot.unset).toArray = ls at hv ⊢
  replace hv : lv_has ls 3 [(0, .ref (et (0))), (1, .int (x1)), (2, .int (x2))] := hv
  unfold v_X10_look at h
  refine lv_iload_n X.1 X.2.1 dX10_look_0 rfl (lv_at hv 1 rfl) ?_
  refine lv_iconst (v := 0) X.1 X.2.1 dX10_look_1 (by decide) ?_
  refine lv_bipush (v := 9) X.1 X.2.1 dX10_look_2 (by decide) ?_
  refine xc_i (xr_S (n := 3) X hk hw hv.1 (c_X10_in l Z et S (x1) (0) (9) _ h) (tb_S tw_613 tw_611 tw_612 tw_44) rfl rfl (by decide +kernel) ⟨Nat.le_of_ble_eq_true rfl, Nat.le_of_ble_eq_true rfl⟩ rfl (Nat.le_of_ble_eq_true rfl) dX10_look_4 ⟨Nat.le_of_ble_eq_true rfl, Nat.le_of_ble_eq_true rfl⟩) hl (fun r_2 S_1 H locs h hN hw hl => ?_)
  replace hNN := hN.trans hNN
  refine lv_if_ne (tgt := 12) X.1 X.2.1 dX10_look_7 (by decide) (fun c_3 => ?_) (fun c_3 => ?_)
  · skip
    replace h := h.1 c_3
    refine lv_iload_n X.1 X.2.1 dX10_look_12 rfl (lv_at hv 2 rfl) ?_
    have hsw := h
    by_cases k_0 : x2 = 0
    · have h := hsw.1 k_0
      refine lv_tableIn (off := 31) (tgt := 44) X.1 X.2.1 dX10_look_13 (by rw [k_0]; decide) (by rw [k_0]; decide) (by rw [k_0]; rfl) (by decide) ?_
      refine lv_aload_n X.1 X.2.1 dX10_look_44 rfl (lv_at hv 0 rfl) ?_
      refine xw_get X hk hw (i := 0) 9 xe_0 rfl tlX10 (by decide) rfl tw_528 dX10_look_45 ?_
      refine lv_iload_n X.1 X.2.1 dX10_look_48 rfl (lv_at hv 1 rfl) ?_
      obtain ⟨j_4, e_5, b_6, h⟩ := h
      refine xw_ild X hk hw xe_9 e_5 b_6 (by decide) dX10_look_49 ?_
      refine lv_if_ne (tgt := 57) X.1 X.2.1 dX10_look_50 (by decide) (fun c_7 => ?_) (fun c_7 => ?_)
      · skip
        replace h := h.1 c_7
        refine lv_aload_n X.1 X.2.1 dX10_look_57 rfl (lv_at hv 0 rfl) ?_
        refine xw_get X hk hw (i := 0) 9 xe_0 rfl tlX10 (by decide) rfl tw_528 dX10_look_58 ?_
        refine lv_iload_n X.1 X.2.1 dX10_look_61 rfl (lv_at hv 1 rfl) ?_
        obtain ⟨j_8, e_9, b_10, h⟩ := h
        refine xw_ild X hk hw xe_9 e_9 b_10 (by decide) dX10_look_62 ?_
        refine lv_iconst (v := 1) X.1 X.2.1 dX10_look_63 (by decide) ?_
        refine lv_icmp_ne (tgt := 81) X.1 X.2.1 dX10_look_64 (by decide) (fun c_11 => ?_) (fun c_11 => ?_)
        · skip
          replace h := h.1 c_11
          refine lv_aload_n X.1 X.2.1 dX10_look_81 rfl (lv_at hv 0 rfl) ?_
          refine xw_get X hk hw (i := 0) 9 xe_0 rfl tlX10 (by decide) rfl tw_528 dX10_look_82 ?_
          refine lv_iload_n X.1 X.2.1 dX10_look_85 rfl (lv_at hv 1 rfl) ?_
          obtain ⟨j_12, e_13, b_14, h⟩ := h
          refine xw_ild X hk hw xe_9 e_13 b_14 (by decide) dX10_look_86 ?_
          refine lv_iconst (v := 2) X.1 X.2.1 dX10_look_87 (by decide) ?_
          refine lv_icmp_ne (tgt := 96) X.1 X.2.1 dX10_look_88 (by decide) (fun c_15 => ?_) (fun c_15 => ?_)
          · skip
            replace h := h.1 c_15
            refine lv_bipush (v := 12) X.1 X.2.1 dX10_look_96 (by decide) ?_
            refine lv_aload_n X.1 X.2.1 dX10_look_98 rfl (lv_at hv 0 rfl) ?_
            refine xw_get X hk hw (i := 0) 7 xe_0 rfl tlX10 (by decide) rfl tw_526 dX10_look_99 ?_
            refine lv_aload_n X.1 X.2.1 dX10_look_102 rfl (lv_at hv 0 rfl) ?_
            refine xw_get X hk hw (i := 0) 10 xe_0 rfl tlX10 (by decide) rfl tw_529 dX10_look_103 ?_
            refine lv_iload_n X.1 X.2.1 dX10_look_106 rfl (lv_at hv 1 rfl) ?_
            obtain ⟨j_16, e_17, b_18, h⟩ := h
            refine xw_ild X hk hw xe_10 e_17 b_18 (by decide) dX10_look_107 ?_
            obtain ⟨j_19, e_20, b_21, h⟩ := h
            refine xw_ild X hk hw xe_7 e_20 b_21 (by decide) dX10_look_108 ?_
            refine lv_iadd X.1 X.2.1 dX10_look_109 ?_
            exact xt_i X hr hlocks hNN hw hl h dX10_look_110
          · skip
            replace h := h.2 c_15
            refine lv_bipush (v := 12) X.1 X.2.1 dX10_look_91 (by decide) ?_
            refine lv_goto (tgt := 110) X.1 X.2.1 dX10_look_93 (by decide) ?_
            exact xt_i X hr hlocks hNN hw hl h dX10_look_110
        · skip
          replace h := h.2 c_11
          refine lv_aload_n X.1 X.2.1 dX10_look_67 rfl (lv_at hv 0 rfl) ?_
          refine xw_get X hk hw (i := 0) 1 xe_0 rfl tlX10 (by decide) rfl tw_520 dX10_look_68 ?_
          refine lv_aload_n X.1 X.2.1 dX10_look_71 rfl (lv_at hv 0 rfl) ?_
          refine xw_get X hk hw (i := 0) 10 xe_0 rfl tlX10 (by decide) rfl tw_529 dX10_look_72 ?_
          refine lv_iload_n X.1 X.2.1 dX10_look_75 rfl (lv_at hv 1 rfl) ?_
          obtain ⟨j_22, e_23, b_24, h⟩ := h
          refine xw_ild X hk hw xe_10 e_23 b_24 (by decide) dX10_look_76 ?_
          obtain ⟨j_25, e_26, b_27, h⟩ := h
          refine xw_ild X hk hw xe_1 e_26 b_27 (by decide) dX10_look_77 ?_
          refine lv_goto (tgt := 110) X.1 X.2.1 dX10_look_78 (by decide) ?_
          exact xt_i X hr hlocks hNN hw hl h dX10_look_110
      · skip
        replace h := h.2 c_7
        refine lv_iconst (v := (-1)) X.1 X.2.1 dX10_look_53 (by decide) ?_
        refine lv_goto (tgt := 110) X.1 X.2.1 dX10_look_54 (by decide) ?_
        exact xt_i X hr hlocks hNN hw hl h dX10_look_110
    by_cases k_1 : x2 = 1
    · have h := hsw.2.1 k_1
      refine lv_tableIn (off := 98) (tgt := 111) X.1 X.2.1 dX10_look_13 (by rw [k_1]; decide) (by rw [k_1]; decide) (by rw [k_1]; rfl) (by decide) ?_
      refine lv_aload_n X.1 X.2.1 dX10_look_111 rfl (lv_at hv 0 rfl) ?_
      refine xw_get X hk hw (i := 0) 9 xe_0 rfl tlX10 (by decide) rfl tw_528 dX10_look_112 ?_
      refine lv_iload_n X.1 X.2.1 dX10_look_115 rfl (lv_at hv 1 rfl) ?_
      obtain ⟨j_28, e_29, b_30, h⟩ := h
      refine xw_ild X hk hw xe_9 e_29 b_30 (by decide) dX10_look_116 ?_
      refine lv_iconst (v := 1) X.1 X.2.1 dX10_look_117 (by decide) ?_
      refine lv_icmp_ne (tgt := 135) X.1 X.2.1 dX10_look_118 (by decide) (fun c_31 => ?_) (fun c_31 => ?_)
      · skip
        replace h := h.1 c_31
        refine lv_aload_n X.1 X.2.1 dX10_look_135 rfl (lv_at hv 0 rfl) ?_
        refine xw_get X hk hw (i := 0) 9 xe_0 rfl tlX10 (by decide) rfl tw_528 dX10_look_136 ?_
        refine lv_iload_n X.1 X.2.1 dX10_look_139 rfl (lv_at hv 1 rfl) ?_
        obtain ⟨j_32, e_33, b_34, h⟩ := h
        refine xw_ild X hk hw xe_9 e_33 b_34 (by decide) dX10_look_140 ?_
        refine lv_iconst (v := 3) X.1 X.2.1 dX10_look_141 (by decide) ?_
        refine lv_icmp_ne (tgt := 154) X.1 X.2.1 dX10_look_142 (by decide) (fun c_35 => ?_) (fun c_35 => ?_)
        · skip
          replace h := h.1 c_35
          refine lv_iconst (v := (-1)) X.1 X.2.1 dX10_look_154 (by decide) ?_
          exact xt_i X hr hlocks hNN hw hl h dX10_look_155
        · skip
          replace h := h.2 c_35
          refine lv_aload_n X.1 X.2.1 dX10_look_145 rfl (lv_at hv 0 rfl) ?_
          refine xw_get X hk hw (i := 0) 10 xe_0 rfl tlX10 (by decide) rfl tw_529 dX10_look_146 ?_
          refine lv_iload_n X.1 X.2.1 dX10_look_149 rfl (lv_at hv 1 rfl) ?_
          obtain ⟨j_36, e_37, b_38, h⟩ := h
          refine xw_ild X hk hw xe_10 e_37 b_38 (by decide) dX10_look_150 ?_
          refine lv_goto (tgt := 155) X.1 X.2.1 dX10_look_151 (by decide) ?_
          exact xt_i X hr hlocks hNN hw hl h dX10_look_155
      · skip
        replace h := h.2 c_31
        refine lv_aload_n X.1 X.2.1 dX10_look_121 rfl (lv_at hv 0 rfl) ?_
        refine xw_get X hk hw (i := 0) 2 xe_0 rfl tlX10 (by decide) rfl tw_521 dX10_look_122 ?_
        refine lv_aload_n X.1 X.2.1 dX10_look_125 rfl (lv_at hv 0 rfl) ?_
        refine xw_get X hk hw (i := 0) 10 xe_0 rfl tlX10 (by decide) rfl tw_529 dX10_look_126 ?_
        refine lv_iload_n X.1 X.2.1 dX10_look_129 rfl (lv_at hv 1 rfl) ?_
        obtain ⟨j_39, e_40, b_41, h⟩ := h
        refine xw_ild X hk hw xe_10 e_40 b_41 (by decide) dX10_look_130 ?_
        obtain ⟨j_42, e_43, b_44, h⟩ := h
        refine xw_ild X hk hw xe_2 e_43 b_44 (by decide) dX10_look_131 ?_
        refine lv_goto (tgt := 155) X.1 X.2.1 dX10_look_132 (by decide) ?_
        exact xt_i X hr hlocks hNN hw hl h dX10_look_155
    by_cases k_2 : x2 = 2
    · have h := hsw.2.2.1 k_2
      refine lv_tableIn (off := 143) (tgt := 156) X.1 X.2.1 dX10_look_13 (by rw [k_2]; decide) (by rw [k_2]; decide) (by rw [k_2]; rfl) (by decide) ?_
      refine lv_aload_n X.1 X.2.1 dX10_look_156 rfl (lv_at hv 0 rfl) ?_
      refine xw_get X hk hw (i := 0) 11 xe_0 rfl tlX10 (by decide) rfl tw_530 dX10_look_157 ?_
      refine lv_iload_n X.1 X.2.1 dX10_look_160 rfl (lv_at hv 1 rfl) ?_
      obtain ⟨j_45, e_46, b_47, h⟩ := h
      refine xw_ild X hk hw xe_11 e_46 b_47 (by decide) dX10_look_161 ?_
      exact xt_i X hr hlocks hNN hw hl h dX10_look_162
    by_cases k_3 : x2 = 3
    · have h := hsw.2.2.2.1 k_3
      refine lv_tableIn (off := 150) (tgt := 163) X.1 X.2.1 dX10_look_13 (by rw [k_3]; decide) (by rw [k_3]; decide) (by rw [k_3]; rfl) (by decide) ?_
      refine lv_aload_n X.1 X.2.1 dX10_look_163 rfl (lv_at hv 0 rfl) ?_
      refine xw_get X hk hw (i := 0) 9 xe_0 rfl tlX10 (by decide) rfl tw_528 dX10_look_164 ?_
      refine lv_iload_n X.1 X.2.1 dX10_look_167 rfl (lv_at hv 1 rfl) ?_
      obtain ⟨j_48, e_49, b_50, h⟩ := h
      refine xw_ild X hk hw xe_9 e_49 b_50 (by decide) dX10_look_168 ?_
      refine lv_if_ne (tgt := 176) X.1 X.2.1 dX10_look_169 (by decide) (fun c_51 => ?_) (fun c_51 => ?_)
      · skip
        replace h := h.1 c_51
        refine lv_aload_n X.1 X.2.1 dX10_look_176 rfl (lv_at hv 0 rfl) ?_
        refine lv_iload_n X.1 X.2.1 dX10_look_177 rfl (lv_at hv 1 rfl) ?_
        refine xc_i (xr_V (n := 1) (As := [.int (x1)]) (i := 0) X hk hw hv.1 (c_X10_first l Z et S_1 (x1) _ h) (tb_V tw_741 tw_738 tw_740 tw_37 tw_44) xe_0 rfl rfl rfl rfl (by decide +kernel) ⟨Nat.le_of_ble_eq_true rfl, Nat.le_of_ble_eq_true rfl⟩ rfl (Nat.le_of_ble_eq_true rfl) dX10_look_178 ⟨Nat.le_of_ble_eq_true rfl, Nat.le_of_ble_eq_true rfl⟩) hl (fun r_53 S_52 H locs h hN hw hl => ?_)
        replace hNN := hN.trans hNN
        exact xt_i X hr hlocks hNN hw hl h dX10_look_181
      · skip
        replace h := h.2 c_51
        refine lv_iconst (v := (-1)) X.1 X.2.1 dX10_look_172 (by decide) ?_
        refine lv_goto (tgt := 181) X.1 X.2.1 dX10_look_173 (by decide) ?_
        exact xt_i X hr hlocks hNN hw hl h dX10_look_181
    have h := hsw.2.2.2.2 k_0 k_1 k_2 k_3
    have n_0 := lv_neT k_0 (a := 0) (by decide)
    have n_1 := lv_neT k_1 (a := 1) (by decide)
    have n_2 := lv_neT k_2 (a := 2) (by decide)
    have n_3 := lv_neT k_3 (a := 3) (by decide)
    refine lv_tableOut (tgt := 182) X.1 X.2.1 dX10_look_13 (by omega) (by decide) ?_
    refine lv_iconst (v := (-1)) X.1 X.2.1 dX10_look_182 (by decide) ?_
    exact xt_i X hr hlocks hNN hw hl h dX10_look_183
  · skip
    replace h := h.2 c_3
    refine lv_iconst (v := (-1)) X.1 X.2.1 dX10_look_10 (by decide) ?_
    exact xt_i X hr hlocks hNN hw hl h dX10_look_11
def v_X10_cell_19 (K : Int64 → xs_T → Prop) (a2 : Int32) (t0 : Int32) (S : xs_T) : Prop := ((t0 < 0 → K (0) S) ∧ (¬ t0 < 0 → ∃ j_7 : Nat, t0 = nI j_7 ∧ j_7 < 120 ∧ v_X10_in (a2) (0) (((xI S 2 j_7) - 1)) S (fun (r_11 : Int32) (S_10 : xs_T) => ((r_11 = 0 → K (0) S_10) ∧ (¬ r_11 = 0 → ∃ j_13 : Nat, t0 = nI j_13 ∧ j_13 < 120 ∧ ∃ j_16 : Nat, ((xI S_10 3 j_13) + a2) = nI j_16 ∧ j_16 < 3000 ∧ K ((xL S_10 5 j_16)) S_10)))))
def v_X10_cell (x1 : Int32) (x2 : Int32) (S : xs_T) (K : Int64 → xs_T → Prop) : Prop := v_X10_in (x1) (0) (9) S (fun (r_2 : Int32) (S_1 : xs_T) => ((r_2 = 0 → v_X10_cell_19 K (x2) ((-1)) S_1) ∧ (¬ r_2 = 0 → v_X10_rowOn (x1) S_1 (fun (r_5 : Int32) (S_4 : xs_T) => v_X10_cell_19 K (x2) (r_5) S_4))))
set_option maxHeartbeats 4000000 in
set_option maxRecDepth 100000 in
theorem j_X10_cell_19 {l : Launch} {p : Program} {e : Env} {s : State} {m : MethodId} {args : Array Value} {below : List Frame} {meth : Method} {c : Code} {Z : xz_T} {et : Nat → Nat} {Nn : Nat → Nat} {K : Int64 → xs_T → Prop} (X : CallFix p m c cX10_cell 4 s args (wq yX10_cell cX10_cell 4 (some .long)) RX10) (hk : xk Z s) (hr : meth.sig.returnType = (some .long)) (hlocks : meth.locks = false) : ∀ (a2 : Int32) (t0 : Int32) (S : xs_T) (H : Heap) (locs : List Loc) (ls : Array Slot), v_X10_cell_19 K a2 t0 S → S.2.2.2.2 = Nn → wd Z et S H → xl Z locs → lv_has ls 4 [(0, .ref (et (0))), (2, .int (a2))] → W p l e (headSpec (wq yX10_cell cX10_cell 4 (some .long)) { frames := 1, cells := 0, slots := 0, locals := 22 }).room s m args below meth c H locs 0 0 (MQ below (xQl Z et Nn K) args s 0 0 (fun q => Z.2.2.1 ≤ q)) (F0 m 19 ls [.int (t0)]) := by
  intro a2 t0 S H locs ls h hNN hw hl hv
  unfold v_X10_cell_19 at h
  refine lv_istore_n (lv' := [(3, .int (t0)), (0, .ref (et (0))), (2, .int (a2))]) X.1 X.2.1 dX10_cell_19 rfl hv (by decide) rfl (fun ls hv => ?_)
  refine lv_iload_n X.1 X.2.1 dX10_cell_20 rfl (lv_at hv 0 rfl) ?_
  refine lv_if_lt (tgt := 56) X.1 X.2.1 dX10_cell_21 (by decide) (fun c_6 => ?_) (fun c_6 => ?_)
  · skip
    replace h := h.1 c_6
    refine lv_lconst (v := 0) X.1 X.2.1 dX10_cell_56 rfl ?_
    exact xt_l X hr hlocks hNN hw hl h dX10_cell_57
  · skip
    replace h := h.2 c_6
    refine lv_iload_n X.1 X.2.1 dX10_cell_24 rfl (lv_at hv 2 rfl) ?_
    refine lv_iconst (v := 0) X.1 X.2.1 dX10_cell_25 (by decide) ?_
    refine lv_aload_n X.1 X.2.1 dX10_cell_26 rfl (lv_at hv 1 rfl) ?_
    refine xw_get X hk hw (i := 0) 2 xe_0 rfl tlX10 (by decide) rfl tw_521 dX10_cell_27 ?_
    refine lv_iload_n X.1 X.2.1 dX10_cell_30 rfl (lv_at hv 0 rfl) ?_
    obtain ⟨j_7, e_8, b_9, h⟩ := h
    refine xw_ild X hk hw xe_2 e_8 b_9 (by decide) dX10_cell_31 ?_
    refine lv_iconst (v := 1) X.1 X.2.1 dX10_cell_32 (by decide) ?_
    refine lv_isub X.1 X.2.1 dX10_cell_33 ?_
    refine xc_i (xr_S (n := 3) X hk hw hv.1 (c_X10_in l Z et S (a2) (0) (((xI S 2 j_7) - 1)) _ h) (tb_S tw_613 tw_611 tw_612 tw_44) rfl rfl (by decide +kernel) ⟨Nat.le_of_ble_eq_true rfl, Nat.le_of_ble_eq_true rfl⟩ rfl (Nat.le_of_ble_eq_true rfl) dX10_cell_34 ⟨Nat.le_of_ble_eq_true rfl, Nat.le_of_ble_eq_true rfl⟩) hl (fun r_11 S_10 H locs h hN hw hl => ?_)
    replace hNN := hN.trans hNN
    refine lv_if_eq (tgt := 56) X.1 X.2.1 dX10_cell_37 (by decide) (fun c_12 => ?_) (fun c_12 => ?_)
    · skip
      replace h := h.1 c_12
      refine lv_lconst (v := 0) X.1 X.2.1 dX10_cell_56 rfl ?_
      exact xt_l X hr hlocks hNN hw hl h dX10_cell_57
    · skip
      replace h := h.2 c_12
      refine lv_aload_n X.1 X.2.1 dX10_cell_40 rfl (lv_at hv 1 rfl) ?_
      refine xw_get X hk hw (i := 0) 5 xe_0 rfl tlX10 (by decide) rfl tw_524 dX10_cell_41 ?_
      refine lv_aload_n X.1 X.2.1 dX10_cell_44 rfl (lv_at hv 1 rfl) ?_
      refine xw_get X hk hw (i := 0) 3 xe_0 rfl tlX10 (by decide) rfl tw_522 dX10_cell_45 ?_
      refine lv_iload_n X.1 X.2.1 dX10_cell_48 rfl (lv_at hv 0 rfl) ?_
      obtain ⟨j_13, e_14, b_15, h⟩ := h
      refine xw_ild X hk hw xe_3 e_14 b_15 (by decide) dX10_cell_49 ?_
      refine lv_iload_n X.1 X.2.1 dX10_cell_50 rfl (lv_at hv 2 rfl) ?_
      refine lv_iadd X.1 X.2.1 dX10_cell_51 ?_
      obtain ⟨j_16, e_17, b_18, h⟩ := h
      refine xw_lld X hk hw xe_5 e_17 b_18 (by decide) dX10_cell_52 ?_
      refine lv_goto (tgt := 57) X.1 X.2.1 dX10_cell_53 (by decide) ?_
      exact xt_l X hr hlocks hNN hw hl h dX10_cell_57
set_option maxHeartbeats 4000000 in
set_option maxRecDepth 100000 in
theorem c_X10_cell (l : Launch) (Z : xz_T) (et : Nat → Nat) (S : xs_T) (x1 : Int32) (x2 : Int32) (K : Int64 → xs_T → Prop) (h : v_X10_cell x1 x2 S K) : Met l yX10_cell (wq yX10_cell cX10_cell 4 (some .long)) { frames := 1, cells := 0, slots := 0, locals := 22 } (xPc Z et S [.ref (et (0)), .int (x1), .int (x2)]) (xQl Z et S.2.2.2.2 K) 0 0 (fun q => Z.2.2.1 ≤ q) := by
  refine Met.ofW (cc := cX10_cell) (maxL := 4) (ret := (some .long)) (by decide +kernel) rfl ?_
  intro p e s m args below meth c s₁ B hml hv0
  obtain ⟨rfl, hk, hw⟩ := hv0
  have X : CallFix p m c cX10_cell 4 s _ (wq yX10_cell cX10_cell 4 (some .long)) RX10 := ⟨B.exec, B.bytes, hml, findClass_of_methodNamed B.named, atoms_spec (ws := (wq yX10_cell cX10_cell 4 (some .long))) B.pre⟩
  have hr := B.returns
  have hlocks := B.notSynchronized
  have hl : xl Z [] := fun _ h => by cases h
  have hNN : S.2.2.2.2 = S.2.2.2.2 := rfl
  have hv := lv_entry [.ref (et (0)), .int (x1), .int (x2)] (n := 4) (Nat.le_of_ble_eq_true rfl)
  rw [lg_entry_eq]
  generalize (lg_sl [.ref (et (0)), .int (x1), .int (x2)] ++ List.replicate (4 - (lg_sl [.ref (et (0)), .int (x1), .int (x2)]).length) Slot.unset).toArray = ls at hv ⊢
  replace hv : lv_has ls 4 [(0, .ref (et (0))), (1, .int (x1)), (2, .int (x2))] := hv
  unfold v_X10_cell at h
  refine lv_iload_n X.1 X.2.1 dX10_cell_0 rfl (lv_at hv 1 rfl) ?_
  refine lv_iconst (v := 0) X.1 X.2.1 dX10_cell_1 (by decide) ?_
  refine lv_bipush (v := 9) X.1 X.2.1 dX10_cell_2 (by decide) ?_
  refine xc_i (xr_S (n := 3) X hk hw hv.1 (c_X10_in l Z et S (x1) (0) (9) _ h) (tb_S tw_613 tw_611 tw_612 tw_44) rfl rfl (by decide +kernel) ⟨Nat.le_of_ble_eq_true rfl, Nat.le_of_ble_eq_true rfl⟩ rfl (Nat.le_of_ble_eq_true rfl) dX10_cell_4 ⟨Nat.le_of_ble_eq_true rfl, Nat.le_of_ble_eq_true rfl⟩) hl (fun r_2 S_1 H locs h hN hw hl => ?_)
  replace hNN := hN.trans hNN
  refine lv_if_eq (tgt := 18) X.1 X.2.1 dX10_cell_7 (by decide) (fun c_3 => ?_) (fun c_3 => ?_)
  · skip
    replace h := h.1 c_3
    refine lv_iconst (v := (-1)) X.1 X.2.1 dX10_cell_18 (by decide) ?_
    exact j_X10_cell_19 X hk hr hlocks (x2) ((-1)) S_1 _ _ _ h hNN hw hl (lv_sub hv [0, 2] rfl)
  · skip
    replace h := h.2 c_3
    refine lv_aload_n X.1 X.2.1 dX10_cell_10 rfl (lv_at hv 0 rfl) ?_
    refine lv_iload_n X.1 X.2.1 dX10_cell_11 rfl (lv_at hv 1 rfl) ?_
    refine xc_i (xr_V (n := 1) (As := [.int (x1)]) (i := 0) X hk hw hv.1 (c_X10_rowOn l Z et S_1 (x1) _ h) (tb_V tw_629 tw_626 tw_628 tw_18 tw_44) xe_0 rfl rfl rfl rfl (by decide +kernel) ⟨Nat.le_of_ble_eq_true rfl, Nat.le_of_ble_eq_true rfl⟩ rfl (Nat.le_of_ble_eq_true rfl) dX10_cell_12 ⟨Nat.le_of_ble_eq_true rfl, Nat.le_of_ble_eq_true rfl⟩) hl (fun r_5 S_4 H locs h hN hw hl => ?_)
    replace hNN := hN.trans hNN
    refine lv_goto (tgt := 19) X.1 X.2.1 dX10_cell_15 (by decide) ?_
    exact j_X10_cell_19 X hk hr hlocks (x2) (r_5) S_4 _ _ _ h hNN hw hl (lv_sub hv [0, 2] rfl)
def v_X10_sort (x1 : Int32) (S : xs_T) (K : Int32 → xs_T → Prop) : Prop := v_X10_in (x1) (1) ((xF S 0 6)) S (fun (r_2 : Int32) (S_1 : xs_T) => ((r_2 = 0 → K ((-1)) S_1) ∧ (¬ r_2 = 0 → ∃ j_4 : Nat, x1 = nI j_4 ∧ j_4 < 401 ∧ K ((xI S_1 7 j_4)) S_1)))
set_option maxHeartbeats 4000000 in
set_option maxRecDepth 100000 in
theorem c_X10_sort (l : Launch) (Z : xz_T) (et : Nat → Nat) (S : xs_T) (x1 : Int32) (K : Int32 → xs_T → Prop) (h : v_X10_sort x1 S K) : Met l yX10_sort (wq yX10_sort cX10_sort 2 (some .int)) { frames := 1, cells := 0, slots := 0, locals := 22 } (xPc Z et S [.ref (et (0)), .int (x1)]) (xQi Z et S.2.2.2.2 K) 0 0 (fun q => Z.2.2.1 ≤ q) := by
  refine Met.ofW (cc := cX10_sort) (maxL := 2) (ret := (some .int)) (by decide +kernel) rfl ?_
  intro p e s m args below meth c s₁ B hml hv0
  obtain ⟨rfl, hk, hw⟩ := hv0
  have X : CallFix p m c cX10_sort 2 s _ (wq yX10_sort cX10_sort 2 (some .int)) RX10 := ⟨B.exec, B.bytes, hml, findClass_of_methodNamed B.named, atoms_spec (ws := (wq yX10_sort cX10_sort 2 (some .int))) B.pre⟩
  have hr := B.returns
  have hlocks := B.notSynchronized
  have hl : xl Z [] := fun _ h => by cases h
  have hNN : S.2.2.2.2 = S.2.2.2.2 := rfl
  have hv := lv_entry [.ref (et (0)), .int (x1)] (n := 2) (Nat.le_of_ble_eq_true rfl)
  rw [lg_entry_eq]
  generalize (lg_sl [.ref (et (0)), .int (x1)] ++ List.replicate (2 - (lg_sl [.ref (et (0)), .int (x1)]).length) Slot.unset).toArray = ls at hv ⊢
  replace hv : lv_has ls 2 [(0, .ref (et (0))), (1, .int (x1))] := hv
  unfold v_X10_sort at h
  refine lv_iload_n X.1 X.2.1 dX10_sort_0 rfl (lv_at hv 1 rfl) ?_
  refine lv_iconst (v := 1) X.1 X.2.1 dX10_sort_1 (by decide) ?_
  refine lv_aload_n X.1 X.2.1 dX10_sort_2 rfl (lv_at hv 0 rfl) ?_
  refine xw_get X hk hw (i := 0) 6 xe_0 rfl tlX10 (by decide) rfl tw_525 dX10_sort_3 ?_
  refine xc_i (xr_S (n := 3) X hk hw hv.1 (c_X10_in l Z et S (x1) (1) ((xF S 0 6)) _ h) (tb_S tw_613 tw_611 tw_612 tw_44) rfl rfl (by decide +kernel) ⟨Nat.le_of_ble_eq_true rfl, Nat.le_of_ble_eq_true rfl⟩ rfl (Nat.le_of_ble_eq_true rfl) dX10_sort_6 ⟨Nat.le_of_ble_eq_true rfl, Nat.le_of_ble_eq_true rfl⟩) hl (fun r_2 S_1 H locs h hN hw hl => ?_)
  replace hNN := hN.trans hNN
  refine lv_if_eq (tgt := 21) X.1 X.2.1 dX10_sort_9 (by decide) (fun c_3 => ?_) (fun c_3 => ?_)
  · skip
    replace h := h.1 c_3
    refine lv_iconst (v := (-1)) X.1 X.2.1 dX10_sort_21 (by decide) ?_
    exact xt_i X hr hlocks hNN hw hl h dX10_sort_22
  · skip
    replace h := h.2 c_3
    refine lv_aload_n X.1 X.2.1 dX10_sort_12 rfl (lv_at hv 0 rfl) ?_
    refine xw_get X hk hw (i := 0) 7 xe_0 rfl tlX10 (by decide) rfl tw_526 dX10_sort_13 ?_
    refine lv_iload_n X.1 X.2.1 dX10_sort_16 rfl (lv_at hv 1 rfl) ?_
    obtain ⟨j_4, e_5, b_6, h⟩ := h
    refine xw_ild X hk hw xe_7 e_5 b_6 (by decide) dX10_sort_17 ?_
    refine lv_goto (tgt := 22) X.1 X.2.1 dX10_sort_18 (by decide) ?_
    exact xt_i X hr hlocks hNN hw hl h dX10_sort_22
def v_X10_count (x1 : Int32) (S : xs_T) (K : Int32 → xs_T → Prop) : Prop := (((x1 = 0) → K ((xF S 0 12)) S) ∧ ((x1 = 1) → K ((xF S 0 23)) S) ∧ ((x1 = 2) → K ((xF S 0 0)) S) ∧ ((x1 = 3) → K ((xF S 0 4)) S) ∧ ((x1 = 4) → K ((xF S 0 6)) S) ∧ ((x1 = 5) → K ((xF S 0 18)) S) ∧ ((x1 = 6) → K ((xF S 0 24)) S) ∧ ((x1 = 7) → K ((xF S 0 25)) S) ∧ ((x1 = 8) → K ((xF S 0 26)) S) ∧ ((x1 = 9) → K ((xF S 0 27)) S) ∧ (¬ x1 = 0 → ¬ x1 = 1 → ¬ x1 = 2 → ¬ x1 = 3 → ¬ x1 = 4 → ¬ x1 = 5 → ¬ x1 = 6 → ¬ x1 = 7 → ¬ x1 = 8 → ¬ x1 = 9 → K ((-1)) S))
set_option maxHeartbeats 4000000 in
set_option maxRecDepth 100000 in
theorem c_X10_count (l : Launch) (Z : xz_T) (et : Nat → Nat) (S : xs_T) (x1 : Int32) (K : Int32 → xs_T → Prop) (h : v_X10_count x1 S K) : Met l yX10_count (wq yX10_count cX10_count 2 (some .int)) { frames := 0, cells := 0, slots := 0, locals := 0 } (xPc Z et S [.ref (et (0)), .int (x1)]) (xQi Z et S.2.2.2.2 K) 0 0 (fun q => Z.2.2.1 ≤ q) := by
  refine Met.ofW (cc := cX10_count) (maxL := 2) (ret := (some .int)) (by decide +kernel) rfl ?_
  intro p e s m args below meth c s₁ B hml hv0
  obtain ⟨rfl, hk, hw⟩ := hv0
  have X : CallFix p m c cX10_count 2 s _ (wq yX10_count cX10_count 2 (some .int)) RX10 := ⟨B.exec, B.bytes, hml, findClass_of_methodNamed B.named, atoms_spec (ws := (wq yX10_count cX10_count 2 (some .int))) B.pre⟩
  have hr := B.returns
  have hlocks := B.notSynchronized
  have hl : xl Z [] := fun _ h => by cases h
  have hNN : S.2.2.2.2 = S.2.2.2.2 := rfl
  have hv := lv_entry [.ref (et (0)), .int (x1)] (n := 2) (Nat.le_of_ble_eq_true rfl)
  rw [lg_entry_eq]
  generalize (lg_sl [.ref (et (0)), .int (x1)] ++ List.replicate (2 - (lg_sl [.ref (et (0)), .int (x1)]).length) Slot.unset).toArray = ls at hv ⊢
  replace hv : lv_has ls 2 [(0, .ref (et (0))), (1, .int (x1))] := hv
  unfold v_X10_count at h
  refine lv_iload_n X.1 X.2.1 dX10_count_0 rfl (lv_at hv 1 rfl) ?_
  have hsw := h
  by_cases k_0 : x1 = 0
  · have h := hsw.1 k_0
    refine lv_tableIn (off := 55) (tgt := 56) X.1 X.2.1 dX10_count_1 (by rw [k_0]; decide) (by rw [k_0]; decide) (by rw [k_0]; rfl) (by decide) ?_
    refine lv_aload_n X.1 X.2.1 dX10_count_56 rfl (lv_at hv 0 rfl) ?_
    refine xw_get X hk hw (i := 0) 12 xe_0 rfl tlX10 (by decide) rfl tw_531 dX10_count_57 ?_
    exact xt_i X hr hlocks hNN hw hl h dX10_count_60
  by_cases k_1 : x1 = 1
  · have h := hsw.2.1 k_1
    refine lv_tableIn (off := 60) (tgt := 61) X.1 X.2.1 dX10_count_1 (by rw [k_1]; decide) (by rw [k_1]; decide) (by rw [k_1]; rfl) (by decide) ?_
    refine lv_aload_n X.1 X.2.1 dX10_count_61 rfl (lv_at hv 0 rfl) ?_
    refine xw_get X hk hw (i := 0) 23 xe_0 rfl tlX10 (by decide) rfl tw_542 dX10_count_62 ?_
    exact xt_i X hr hlocks hNN hw hl h dX10_count_65
  by_cases k_2 : x1 = 2
  · have h := hsw.2.2.1 k_2
    refine lv_tableIn (off := 65) (tgt := 66) X.1 X.2.1 dX10_count_1 (by rw [k_2]; decide) (by rw [k_2]; decide) (by rw [k_2]; rfl) (by decide) ?_
    refine lv_aload_n X.1 X.2.1 dX10_count_66 rfl (lv_at hv 0 rfl) ?_
    refine xw_get X hk hw (i := 0) 0 xe_0 rfl tlX10 (by decide) rfl tw_519 dX10_count_67 ?_
    exact xt_i X hr hlocks hNN hw hl h dX10_count_70
  by_cases k_3 : x1 = 3
  · have h := hsw.2.2.2.1 k_3
    refine lv_tableIn (off := 70) (tgt := 71) X.1 X.2.1 dX10_count_1 (by rw [k_3]; decide) (by rw [k_3]; decide) (by rw [k_3]; rfl) (by decide) ?_
    refine lv_aload_n X.1 X.2.1 dX10_count_71 rfl (lv_at hv 0 rfl) ?_
    refine xw_get X hk hw (i := 0) 4 xe_0 rfl tlX10 (by decide) rfl tw_523 dX10_count_72 ?_
    exact xt_i X hr hlocks hNN hw hl h dX10_count_75
  by_cases k_4 : x1 = 4
  · have h := hsw.2.2.2.2.1 k_4
    refine lv_tableIn (off := 75) (tgt := 76) X.1 X.2.1 dX10_count_1 (by rw [k_4]; decide) (by rw [k_4]; decide) (by rw [k_4]; rfl) (by decide) ?_
    refine lv_aload_n X.1 X.2.1 dX10_count_76 rfl (lv_at hv 0 rfl) ?_
    refine xw_get X hk hw (i := 0) 6 xe_0 rfl tlX10 (by decide) rfl tw_525 dX10_count_77 ?_
    exact xt_i X hr hlocks hNN hw hl h dX10_count_80
  by_cases k_5 : x1 = 5
  · have h := hsw.2.2.2.2.2.1 k_5
    refine lv_tableIn (off := 80) (tgt := 81) X.1 X.2.1 dX10_count_1 (by rw [k_5]; decide) (by rw [k_5]; decide) (by rw [k_5]; rfl) (by decide) ?_
    refine lv_aload_n X.1 X.2.1 dX10_count_81 rfl (lv_at hv 0 rfl) ?_
    refine xw_get X hk hw (i := 0) 18 xe_0 rfl tlX10 (by decide) rfl tw_537 dX10_count_82 ?_
    exact xt_i X hr hlocks hNN hw hl h dX10_count_85
  by_cases k_6 : x1 = 6
  · have h := hsw.2.2.2.2.2.2.1 k_6
    refine lv_tableIn (off := 85) (tgt := 86) X.1 X.2.1 dX10_count_1 (by rw [k_6]; decide) (by rw [k_6]; decide) (by rw [k_6]; rfl) (by decide) ?_
    refine lv_aload_n X.1 X.2.1 dX10_count_86 rfl (lv_at hv 0 rfl) ?_
    refine xw_get X hk hw (i := 0) 24 xe_0 rfl tlX10 (by decide) rfl tw_543 dX10_count_87 ?_
    exact xt_i X hr hlocks hNN hw hl h dX10_count_90
  by_cases k_7 : x1 = 7
  · have h := hsw.2.2.2.2.2.2.2.1 k_7
    refine lv_tableIn (off := 90) (tgt := 91) X.1 X.2.1 dX10_count_1 (by rw [k_7]; decide) (by rw [k_7]; decide) (by rw [k_7]; rfl) (by decide) ?_
    refine lv_aload_n X.1 X.2.1 dX10_count_91 rfl (lv_at hv 0 rfl) ?_
    refine xw_get X hk hw (i := 0) 25 xe_0 rfl tlX10 (by decide) rfl tw_544 dX10_count_92 ?_
    exact xt_i X hr hlocks hNN hw hl h dX10_count_95
  by_cases k_8 : x1 = 8
  · have h := hsw.2.2.2.2.2.2.2.2.1 k_8
    refine lv_tableIn (off := 95) (tgt := 96) X.1 X.2.1 dX10_count_1 (by rw [k_8]; decide) (by rw [k_8]; decide) (by rw [k_8]; rfl) (by decide) ?_
    refine lv_aload_n X.1 X.2.1 dX10_count_96 rfl (lv_at hv 0 rfl) ?_
    refine xw_get X hk hw (i := 0) 26 xe_0 rfl tlX10 (by decide) rfl tw_545 dX10_count_97 ?_
    exact xt_i X hr hlocks hNN hw hl h dX10_count_100
  by_cases k_9 : x1 = 9
  · have h := hsw.2.2.2.2.2.2.2.2.2.1 k_9
    refine lv_tableIn (off := 100) (tgt := 101) X.1 X.2.1 dX10_count_1 (by rw [k_9]; decide) (by rw [k_9]; decide) (by rw [k_9]; rfl) (by decide) ?_
    refine lv_aload_n X.1 X.2.1 dX10_count_101 rfl (lv_at hv 0 rfl) ?_
    refine xw_get X hk hw (i := 0) 27 xe_0 rfl tlX10 (by decide) rfl tw_546 dX10_count_102 ?_
    exact xt_i X hr hlocks hNN hw hl h dX10_count_105
  have h := hsw.2.2.2.2.2.2.2.2.2.2 k_0 k_1 k_2 k_3 k_4 k_5 k_6 k_7 k_8 k_9
  have n_0 := lv_neT k_0 (a := 0) (by decide)
  have n_1 := lv_neT k_1 (a := 1) (by decide)
  have n_2 := lv_neT k_2 (a := 2) (by decide)
  have n_3 := lv_neT k_3 (a := 3) (by decide)
  have n_4 := lv_neT k_4 (a := 4) (by decide)
  have n_5 := lv_neT k_5 (a := 5) (by decide)
  have n_6 := lv_neT k_6 (a := 6) (by decide)
  have n_7 := lv_neT k_7 (a := 7) (by decide)
  have n_8 := lv_neT k_8 (a := 8) (by decide)
  have n_9 := lv_neT k_9 (a := 9) (by decide)
  refine lv_tableOut (tgt := 106) X.1 X.2.1 dX10_count_1 (by omega) (by decide) ?_
  refine lv_iconst (v := (-1)) X.1 X.2.1 dX10_count_106 (by decide) ?_
  exact xt_i X hr hlocks hNN hw hl h dX10_count_107
end
